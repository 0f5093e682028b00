def wl8 (G : Ge) (a : Nat) (r : Nat → Nat) : va_W := [(a, .inr (8, [.ref (r 0), .ref (r 1), .ref (r 2), .ref (r 4), .ref (r 5), .ref (r 6), .ref (r 7), .ref (r 8), .ref (r 9), .ref (r 3), .int 0])), ((r 0), .inl (G.2.2.1 3, 4, .inr (.inr (.inr (.inr (va_up (va_up (va_up (va_up (fun _ => none) 0 (some (r 41))) 1 (some (r 43))) 2 (some (r 45))) 3 (some (r 47)))))))), ((r 1), .inl (G.2.2.1 0, 7, .inl (upd (upd (upd (upd (upd (upd (upd (fun _ => 0) 0 (Int32.ofInt (rr_TF 0))) 1 (Int32.ofInt (rr_TF 1))) 2 (Int32.ofInt (rr_TF 2))) 3 (Int32.ofInt (rr_TF 3))) 4 (Int32.ofInt (rr_TF 4))) 5 (Int32.ofInt (rr_TF 5))) 6 (Int32.ofInt (rr_TF 6))))), ((r 2), .inl (G.2.2.1 0, 3, .inl (upd (upd (upd (fun _ => 0) 0 (Int32.ofInt 1)) 1 (Int32.ofInt 1)) 2 (Int32.ofInt 1)))), ((r 3), .inl (G.2.2.1 4, 4, .inr (.inr (.inr (.inr (va_up (va_up (va_up (va_up (fun _ => none) 0 (some (r 49))) 1 (some (r 51))) 2 (some (r 53))) 3 (some (r 55)))))))), ((r 4), .inr (1, [.ref (r 10), .ref (r 11), .ref (r 12), .int 0])), ((r 10), .inl (G.2.2.1 0, 8, .inl (fun _ => 0))), ((r 11), .inl (G.2.2.1 0, 8, .inl (fun _ => 0))), ((r 12), .inl (G.2.2.1 0, 8, .inl (fun _ => 0))), ((r 5), .inr (6, [.ref (r 0), .ref (r 1), .ref (r 4), .ref (r 13), .ref (r 17), .ref (r 21), .ref (r 22), .ref (r 23), .int 1])), ((r 13), .inl (G.2.2.1 5, 3, .inr (.inr (.inr (.inr (r3 (r 14) (r 15) (r 16))))))), ((r 14), .inl (G.2.2.1 0, 30, .inl (fun _ => 0))), ((r 15), .inl (G.2.2.1 0, 30, .inl (fun _ => 0))), ((r 16), .inl (G.2.2.1 0, 30, .inl (fun _ => 0))), ((r 17), .inl (G.2.2.1 5, 3, .inr (.inr (.inr (.inr (r3 (r 18) (r 19) (r 20))))))), ((r 18), .inl (G.2.2.1 0, 30, .inl (fun _ => 0))), ((r 19), .inl (G.2.2.1 0, 30, .inl (fun _ => 0))), ((r 20), .inl (G.2.2.1 0, 30, .inl (fun _ => 0))), ((r 21), .inl (G.2.2.1 0, 3, .inl (fun _ => 0))), ((r 22), .inl (G.2.2.1 0, 10, .inl (fun _ => 0))), ((r 23), .inl (G.2.2.1 0, 30, .inl (fun _ => 0))), ((r 6), .inr (7, [.ref (r 5), .ref (r 1), .ref (r 2), .ref (r 24), .ref (r 28), .ref (r 29), .ref (r 30)])), ((r 24), .inl (G.2.2.1 5, 3, .inr (.inr (.inr (.inr (r3 (r 25) (r 26) (r 27))))))), ((r 25), .inl (G.2.2.1 0, 3, .inl (fun _ => 0))), ((r 26), .inl (G.2.2.1 0, 3, .inl (fun _ => 0))), ((r 27), .inl (G.2.2.1 0, 3, .inl (fun _ => 0))), ((r 28), .inl (G.2.2.1 0, 3, .inl (fun _ => 0))), ((r 29), .inl (G.2.2.1 0, 3, .inl (fun _ => 0))), ((r 30), .inl (G.2.2.1 2, 3, .inl (fun _ => 0))), ((r 7), .inr (3, [.ref (r 5), .int 0, .int 0, .int 0])), ((r 8), .inr (0, [.ref (r 5), .ref (r 2), .ref (r 31), .ref (r 32), .ref (r 33), .ref (r 34), .int 0, .int 0, .int 0, .int 0])), ((r 31), .inl (G.2.2.1 0, 8, .inl (fun _ => 0))), ((r 32), .inl (G.2.2.1 0, 8, .inl (fun _ => 0))), ((r 33), .inl (G.2.2.1 0, 8, .inl (fun _ => 0))), ((r 34), .inl (G.2.2.1 5, 3, .inr (.inr (.inr (.inr (r3 (r 35) (r 36) (r 37))))))), ((r 35), .inl (G.2.2.1 0, 256, .inl (fun _ => 0))), ((r 36), .inl (G.2.2.1 0, 256, .inl (fun _ => 0))), ((r 37), .inl (G.2.2.1 0, 256, .inl (fun _ => 0))), ((r 9), .inr (2, [.ref (r 38), .ref (r 39), .ref (r 40), .int 0])), ((r 38), .inl (G.2.2.1 0, 8, .inl (fun _ => 0))), ((r 39), .inl (G.2.2.1 0, 8, .inl (fun _ => 0))), ((r 40), .inl (G.2.2.1 0, 8, .inl (fun _ => 0))), ((r 41), .inr (5, [.ref (r 42), .int 0])), ((r 42), .inl (G.2.2.1 0, 30, .inl (fun _ => 0))), ((r 43), .inr (5, [.ref (r 44), .int 0])), ((r 44), .inl (G.2.2.1 0, 30, .inl (fun _ => 0))), ((r 45), .inr (5, [.ref (r 46), .int 0])), ((r 46), .inl (G.2.2.1 0, 30, .inl (fun _ => 0))), ((r 47), .inr (5, [.ref (r 48), .int 0])), ((r 48), .inl (G.2.2.1 0, 12, .inl (fun _ => 0))), ((r 49), .inr (4, [.ref (r 50), .int (-1), .int 0])), ((r 50), .inl (G.2.2.1 0, 60, .inl (fun _ => 0))), ((r 51), .inr (4, [.ref (r 52), .int (-1), .int 0])), ((r 52), .inl (G.2.2.1 0, 60, .inl (fun _ => 0))), ((r 53), .inr (4, [.ref (r 54), .int (-1), .int 0])), ((r 54), .inl (G.2.2.1 0, 60, .inl (fun _ => 0))), ((r 55), .inr (4, [.ref (r 56), .int (-1), .int 0])), ((r 56), .inl (G.2.2.1 0, 60, .inl (fun _ => 0)))]
set_option maxRecDepth 20000 in
theorem wl8_eq (G : Ge) (a : Nat) (r : Nat → Nat) : w8 G a r = wl8 G a r := by
  simp only [w8, wl8, k0, k1, k2, k3, k4, k5, k6, k7, rows3, List.cons_append, List.nil_append]
def wl (G : Ge) (a : Nat) (r : Nat → Nat) (b : Nat) (r' : Nat → Nat) : va_W := [(a, .inr (8, [.ref (r 0), .ref (r 1), .ref (r 2), .ref (r 4), .ref (r 5), .ref (r 6), .ref (r 7), .ref (r 8), .ref (r 9), .ref (r 3), .int 0])), ((r 0), .inl (G.2.2.1 3, 4, .inr (.inr (.inr (.inr (va_up (va_up (va_up (va_up (fun _ => none) 0 (some (r 41))) 1 (some (r 43))) 2 (some (r 45))) 3 (some (r 47)))))))), ((r 1), .inl (G.2.2.1 0, 7, .inl (upd (upd (upd (upd (upd (upd (upd (fun _ => 0) 0 (Int32.ofInt (rr_TF 0))) 1 (Int32.ofInt (rr_TF 1))) 2 (Int32.ofInt (rr_TF 2))) 3 (Int32.ofInt (rr_TF 3))) 4 (Int32.ofInt (rr_TF 4))) 5 (Int32.ofInt (rr_TF 5))) 6 (Int32.ofInt (rr_TF 6))))), ((r 2), .inl (G.2.2.1 0, 3, .inl (upd (upd (upd (fun _ => 0) 0 (Int32.ofInt 1)) 1 (Int32.ofInt 1)) 2 (Int32.ofInt 1)))), ((r 3), .inl (G.2.2.1 4, 4, .inr (.inr (.inr (.inr (va_up (va_up (va_up (va_up (fun _ => none) 0 (some (r 49))) 1 (some (r 51))) 2 (some (r 53))) 3 (some (r 55)))))))), ((r 4), .inr (1, [.ref (r 10), .ref (r 11), .ref (r 12), .int 0])), ((r 10), .inl (G.2.2.1 0, 8, .inl (fun _ => 0))), ((r 11), .inl (G.2.2.1 0, 8, .inl (fun _ => 0))), ((r 12), .inl (G.2.2.1 0, 8, .inl (fun _ => 0))), ((r 5), .inr (6, [.ref (r 0), .ref (r 1), .ref (r 4), .ref (r 13), .ref (r 17), .ref (r 21), .ref (r 22), .ref (r 23), .int 1])), ((r 13), .inl (G.2.2.1 5, 3, .inr (.inr (.inr (.inr (r3 (r 14) (r 15) (r 16))))))), ((r 14), .inl (G.2.2.1 0, 30, .inl (fun _ => 0))), ((r 15), .inl (G.2.2.1 0, 30, .inl (fun _ => 0))), ((r 16), .inl (G.2.2.1 0, 30, .inl (fun _ => 0))), ((r 17), .inl (G.2.2.1 5, 3, .inr (.inr (.inr (.inr (r3 (r 18) (r 19) (r 20))))))), ((r 18), .inl (G.2.2.1 0, 30, .inl (fun _ => 0))), ((r 19), .inl (G.2.2.1 0, 30, .inl (fun _ => 0))), ((r 20), .inl (G.2.2.1 0, 30, .inl (fun _ => 0))), ((r 21), .inl (G.2.2.1 0, 3, .inl (fun _ => 0))), ((r 22), .inl (G.2.2.1 0, 10, .inl (fun _ => 0))), ((r 23), .inl (G.2.2.1 0, 30, .inl (fun _ => 0))), ((r 6), .inr (7, [.ref (r 5), .ref (r 1), .ref (r 2), .ref (r 24), .ref (r 28), .ref (r 29), .ref (r 30)])), ((r 24), .inl (G.2.2.1 5, 3, .inr (.inr (.inr (.inr (r3 (r 25) (r 26) (r 27))))))), ((r 25), .inl (G.2.2.1 0, 3, .inl (fun _ => 0))), ((r 26), .inl (G.2.2.1 0, 3, .inl (fun _ => 0))), ((r 27), .inl (G.2.2.1 0, 3, .inl (fun _ => 0))), ((r 28), .inl (G.2.2.1 0, 3, .inl (fun _ => 0))), ((r 29), .inl (G.2.2.1 0, 3, .inl (fun _ => 0))), ((r 30), .inl (G.2.2.1 2, 3, .inl (fun _ => 0))), ((r 7), .inr (3, [.ref (r 5), .int 0, .int 0, .int 0])), ((r 8), .inr (0, [.ref (r 5), .ref (r 2), .ref (r 31), .ref (r 32), .ref (r 33), .ref (r 34), .int 0, .int 0, .int 0, .int 0])), ((r 31), .inl (G.2.2.1 0, 8, .inl (fun _ => 0))), ((r 32), .inl (G.2.2.1 0, 8, .inl (fun _ => 0))), ((r 33), .inl (G.2.2.1 0, 8, .inl (fun _ => 0))), ((r 34), .inl (G.2.2.1 5, 3, .inr (.inr (.inr (.inr (r3 (r 35) (r 36) (r 37))))))), ((r 35), .inl (G.2.2.1 0, 256, .inl (fun _ => 0))), ((r 36), .inl (G.2.2.1 0, 256, .inl (fun _ => 0))), ((r 37), .inl (G.2.2.1 0, 256, .inl (fun _ => 0))), ((r 9), .inr (2, [.ref (r 38), .ref (r 39), .ref (r 40), .int 0])), ((r 38), .inl (G.2.2.1 0, 8, .inl (fun _ => 0))), ((r 39), .inl (G.2.2.1 0, 8, .inl (fun _ => 0))), ((r 40), .inl (G.2.2.1 0, 8, .inl (fun _ => 0))), ((r 41), .inr (5, [.ref (r 42), .int 0])), ((r 42), .inl (G.2.2.1 0, 30, .inl (fun _ => 0))), ((r 43), .inr (5, [.ref (r 44), .int 0])), ((r 44), .inl (G.2.2.1 0, 30, .inl (fun _ => 0))), ((r 45), .inr (5, [.ref (r 46), .int 0])), ((r 46), .inl (G.2.2.1 0, 30, .inl (fun _ => 0))), ((r 47), .inr (5, [.ref (r 48), .int 0])), ((r 48), .inl (G.2.2.1 0, 12, .inl (fun _ => 0))), ((r 49), .inr (4, [.ref (r 50), .int (-1), .int 0])), ((r 50), .inl (G.2.2.1 0, 60, .inl (fun _ => 0))), ((r 51), .inr (4, [.ref (r 52), .int (-1), .int 0])), ((r 52), .inl (G.2.2.1 0, 60, .inl (fun _ => 0))), ((r 53), .inr (4, [.ref (r 54), .int (-1), .int 0])), ((r 54), .inl (G.2.2.1 0, 60, .inl (fun _ => 0))), ((r 55), .inr (4, [.ref (r 56), .int (-1), .int 0])), ((r 56), .inl (G.2.2.1 0, 60, .inl (fun _ => 0))), (b, .inr (9, [.ref (r' 0), .ref (r' 1), .ref (r' 2), .ref (r' 3), .int 0, .ref (r' 4), .ref (r' 5), .ref (r' 6), .ref (r' 7), .int 0, .ref (r' 8), .ref (r' 9), .int 0, .ref (r' 10), .int 0, .int 0, .long 0, .int 0, .ref (r' 11)])), (r' 0, .inl (G.2.2.1 0, 4, .inl (upd (upd (upd (upd (fun _ => 0) 0 (Int32.ofInt (-1))) 1 (Int32.ofInt (-1))) 2 (Int32.ofInt (-1))) 3 (Int32.ofInt (-1))))), (r' 1, .inl (G.2.2.1 0, 4, .inl (fun _ => 0))), (r' 2, .inl (G.2.2.1 0, 240, .inl (fun _ => 0))), (r' 3, .inl (G.2.2.1 0, 60, .inl (fun _ => 0))), (r' 4, .inl (G.2.2.1 0, 120, .inl (fun _ => 0))), (r' 5, .inl (G.2.2.1 0, 4, .inl (fun _ => 0))), (r' 6, .inl (G.2.2.1 0, 7, .inl (upd (upd (upd (upd (upd (upd (upd (fun _ => 0) 0 (Int32.ofInt (3))) 1 (Int32.ofInt (29))) 2 (Int32.ofInt (5))) 3 (Int32.ofInt (3))) 4 (Int32.ofInt (1))) 5 (Int32.ofInt (4))) 6 (Int32.ofInt (1))))), (r' 7, .inl (G.2.2.1 0, 3, .inl (upd (upd (upd (fun _ => 0) 0 (Int32.ofInt (1))) 1 (Int32.ofInt (1))) 2 (Int32.ofInt (1))))), (r' 8, .inl (G.2.2.1 0, 27, .inl (fun _ => 0))), (r' 9, .inl (G.2.2.1 1, 93, .inr (.inl (fun _ => 0)))), (r' 10, .inl (G.2.2.1 0, 32, .inl (fun _ => 0))), (r' 11, .inl (G.2.2.1 0, 24, .inl (fun _ => 0)))]
set_option maxRecDepth 20000 in
theorem wl_eq (G : Ge) (a : Nat) (r : Nat → Nat) (b : Nat) (r' : Nat → Nat) : w8 G a r ++ w9 G b r' = wl G a r b r' := by
  rw [wl8_eq]
  simp only [wl8, w9, wl, List.cons_append, List.nil_append]
/-- what a place holds behind both constructors -/
def SA (D : va_G) (ty : Nat → ClassId) (tl tm a : Nat) (r : Nat → Nat) (b : Nat) (r' : Nat → Nat) (k : Nat) : Prop := ∃ e : va_E, (wl (gF D ty tl tm a r b r') a r b r')[pidx k]? = some (adr a r b r' k, e) ∧ ∀ H : Heap, va_at D vwCl (adr a r b r' k, e) H → va_at D vwCl (adr a r b r' k, rr_kE (gF D ty tl tm a r b r') (s0 k) (rr_TB.getD k (.inl (0, 0)))) H
section SAK
variable {D : va_G} {ty : Nat → ClassId} {tl tm a b : Nat} {r r' : Nat → Nat}
set_option maxRecDepth 20000 in
theorem sa_0 : SA D ty tl tm a r b r' 0 := by
  refine ⟨_, rfl, fun H h => ?_⟩
  show va_at D vwCl (adr a r b r' 0, .inr (8, [.ref (adr a r b r' 1), .ref (adr a r b r' 10), .ref (adr a r b r' 11), .ref (adr a r b r' 12), .ref (adr a r b r' 16), .ref (adr a r b r' 28), .ref (adr a r b r' 36), .ref (adr a r b r' 37), .ref (adr a r b r' 45), .ref (adr a r b r' 49), .int (Int32.ofInt (s0 0 10))])) H
  exact at_obj h rfl
set_option maxRecDepth 20000 in
theorem sa_1 : SA D ty tl tm a r b r' 1 := by
  refine ⟨_, rfl, fun H h => ?_⟩
  show va_at D vwCl (adr a r b r' 1, .inl (ty 3, 4, .inr (.inr (.inr (.inr (fun j => some (adr a r b r' (2 + j)))))))) H
  exact at_ref h (lt4 rfl rfl rfl rfl)
set_option maxRecDepth 20000 in
theorem sa_2 : SA D ty tl tm a r b r' 2 := by
  refine ⟨_, rfl, fun H h => ?_⟩
  show va_at D vwCl (adr a r b r' 2, .inr (5, [.ref (adr a r b r' 6), .int (Int32.ofInt (s0 2 1))])) H
  exact at_obj h rfl
set_option maxRecDepth 20000 in
theorem sa_3 : SA D ty tl tm a r b r' 3 := by
  refine ⟨_, rfl, fun H h => ?_⟩
  show va_at D vwCl (adr a r b r' 3, .inr (5, [.ref (adr a r b r' 7), .int (Int32.ofInt (s0 3 1))])) H
  exact at_obj h rfl
set_option maxRecDepth 20000 in
theorem sa_4 : SA D ty tl tm a r b r' 4 := by
  refine ⟨_, rfl, fun H h => ?_⟩
  show va_at D vwCl (adr a r b r' 4, .inr (5, [.ref (adr a r b r' 8), .int (Int32.ofInt (s0 4 1))])) H
  exact at_obj h rfl
set_option maxRecDepth 20000 in
theorem sa_5 : SA D ty tl tm a r b r' 5 := by
  refine ⟨_, rfl, fun H h => ?_⟩
  show va_at D vwCl (adr a r b r' 5, .inr (5, [.ref (adr a r b r' 9), .int (Int32.ofInt (s0 5 1))])) H
  exact at_obj h rfl
set_option maxRecDepth 20000 in
theorem sa_6 : SA D ty tl tm a r b r' 6 := by
  refine ⟨_, rfl, fun H h => ?_⟩
  show va_at D vwCl (adr a r b r' 6, .inl (ty 0, 30, .inl (fun j => Int32.ofInt (s0 6 j)))) H
  exact at_int h (fun j _ => rfl)
set_option maxRecDepth 20000 in
theorem sa_7 : SA D ty tl tm a r b r' 7 := by
  refine ⟨_, rfl, fun H h => ?_⟩
  show va_at D vwCl (adr a r b r' 7, .inl (ty 0, 30, .inl (fun j => Int32.ofInt (s0 7 j)))) H
  exact at_int h (fun j _ => rfl)
set_option maxRecDepth 20000 in
theorem sa_8 : SA D ty tl tm a r b r' 8 := by
  refine ⟨_, rfl, fun H h => ?_⟩
  show va_at D vwCl (adr a r b r' 8, .inl (ty 0, 30, .inl (fun j => Int32.ofInt (s0 8 j)))) H
  exact at_int h (fun j _ => rfl)
set_option maxRecDepth 20000 in
theorem sa_9 : SA D ty tl tm a r b r' 9 := by
  refine ⟨_, rfl, fun H h => ?_⟩
  show va_at D vwCl (adr a r b r' 9, .inl (ty 0, 12, .inl (fun j => Int32.ofInt (s0 9 j)))) H
  exact at_int h (fun j _ => rfl)
set_option maxRecDepth 20000 in
theorem sa_10 : SA D ty tl tm a r b r' 10 := by
  refine ⟨_, rfl, fun H h => ?_⟩
  show va_at D vwCl (adr a r b r' 10, .inl (ty 0, 7, .inl (fun j => Int32.ofInt (s0 10 j)))) H
  exact at_int h (lt7 rfl rfl rfl rfl rfl rfl rfl)
set_option maxRecDepth 20000 in
theorem sa_11 : SA D ty tl tm a r b r' 11 := by
  refine ⟨_, rfl, fun H h => ?_⟩
  show va_at D vwCl (adr a r b r' 11, .inl (ty 0, 3, .inl (fun j => Int32.ofInt (s0 11 j)))) H
  exact at_int h (lt3 rfl rfl rfl)
set_option maxRecDepth 20000 in
theorem sa_12 : SA D ty tl tm a r b r' 12 := by
  refine ⟨_, rfl, fun H h => ?_⟩
  show va_at D vwCl (adr a r b r' 12, .inr (1, [.ref (adr a r b r' 13), .ref (adr a r b r' 14), .ref (adr a r b r' 15), .int (Int32.ofInt (s0 12 3))])) H
  exact at_obj h rfl
set_option maxRecDepth 20000 in
theorem sa_13 : SA D ty tl tm a r b r' 13 := by
  refine ⟨_, rfl, fun H h => ?_⟩
  show va_at D vwCl (adr a r b r' 13, .inl (ty 0, 8, .inl (fun j => Int32.ofInt (s0 13 j)))) H
  exact at_int h (fun j _ => rfl)
set_option maxRecDepth 20000 in
theorem sa_14 : SA D ty tl tm a r b r' 14 := by
  refine ⟨_, rfl, fun H h => ?_⟩
  show va_at D vwCl (adr a r b r' 14, .inl (ty 0, 8, .inl (fun j => Int32.ofInt (s0 14 j)))) H
  exact at_int h (fun j _ => rfl)
set_option maxRecDepth 20000 in
theorem sa_15 : SA D ty tl tm a r b r' 15 := by
  refine ⟨_, rfl, fun H h => ?_⟩
  show va_at D vwCl (adr a r b r' 15, .inl (ty 0, 8, .inl (fun j => Int32.ofInt (s0 15 j)))) H
  exact at_int h (fun j _ => rfl)
set_option maxRecDepth 20000 in
theorem sa_16 : SA D ty tl tm a r b r' 16 := by
  refine ⟨_, rfl, fun H h => ?_⟩
  show va_at D vwCl (adr a r b r' 16, .inr (6, [.ref (adr a r b r' 1), .ref (adr a r b r' 10), .ref (adr a r b r' 12), .ref (adr a r b r' 17), .ref (adr a r b r' 21), .ref (adr a r b r' 25), .ref (adr a r b r' 26), .ref (adr a r b r' 27), .int (Int32.ofInt (s0 16 8))])) H
  exact at_obj h rfl
set_option maxRecDepth 20000 in
theorem sa_17 : SA D ty tl tm a r b r' 17 := by
  refine ⟨_, rfl, fun H h => ?_⟩
  show va_at D vwCl (adr a r b r' 17, .inl (ty 5, 3, .inr (.inr (.inr (.inr (fun j => some (adr a r b r' (18 + j)))))))) H
  exact at_ref h (lt3 rfl rfl rfl)
set_option maxRecDepth 20000 in
theorem sa_18 : SA D ty tl tm a r b r' 18 := by
  refine ⟨_, rfl, fun H h => ?_⟩
  show va_at D vwCl (adr a r b r' 18, .inl (ty 0, 30, .inl (fun j => Int32.ofInt (s0 18 j)))) H
  exact at_int h (fun j _ => rfl)
set_option maxRecDepth 20000 in
theorem sa_19 : SA D ty tl tm a r b r' 19 := by
  refine ⟨_, rfl, fun H h => ?_⟩
  show va_at D vwCl (adr a r b r' 19, .inl (ty 0, 30, .inl (fun j => Int32.ofInt (s0 19 j)))) H
  exact at_int h (fun j _ => rfl)
set_option maxRecDepth 20000 in
theorem sa_20 : SA D ty tl tm a r b r' 20 := by
  refine ⟨_, rfl, fun H h => ?_⟩
  show va_at D vwCl (adr a r b r' 20, .inl (ty 0, 30, .inl (fun j => Int32.ofInt (s0 20 j)))) H
  exact at_int h (fun j _ => rfl)
set_option maxRecDepth 20000 in
theorem sa_21 : SA D ty tl tm a r b r' 21 := by
  refine ⟨_, rfl, fun H h => ?_⟩
  show va_at D vwCl (adr a r b r' 21, .inl (ty 5, 3, .inr (.inr (.inr (.inr (fun j => some (adr a r b r' (22 + j)))))))) H
  exact at_ref h (lt3 rfl rfl rfl)
set_option maxRecDepth 20000 in
theorem sa_22 : SA D ty tl tm a r b r' 22 := by
  refine ⟨_, rfl, fun H h => ?_⟩
  show va_at D vwCl (adr a r b r' 22, .inl (ty 0, 30, .inl (fun j => Int32.ofInt (s0 22 j)))) H
  exact at_int h (fun j _ => rfl)
set_option maxRecDepth 20000 in
theorem sa_23 : SA D ty tl tm a r b r' 23 := by
  refine ⟨_, rfl, fun H h => ?_⟩
  show va_at D vwCl (adr a r b r' 23, .inl (ty 0, 30, .inl (fun j => Int32.ofInt (s0 23 j)))) H
  exact at_int h (fun j _ => rfl)
set_option maxRecDepth 20000 in
theorem sa_24 : SA D ty tl tm a r b r' 24 := by
  refine ⟨_, rfl, fun H h => ?_⟩
  show va_at D vwCl (adr a r b r' 24, .inl (ty 0, 30, .inl (fun j => Int32.ofInt (s0 24 j)))) H
  exact at_int h (fun j _ => rfl)
set_option maxRecDepth 20000 in
theorem sa_25 : SA D ty tl tm a r b r' 25 := by
  refine ⟨_, rfl, fun H h => ?_⟩
  show va_at D vwCl (adr a r b r' 25, .inl (ty 0, 3, .inl (fun j => Int32.ofInt (s0 25 j)))) H
  exact at_int h (fun j _ => rfl)
set_option maxRecDepth 20000 in
theorem sa_26 : SA D ty tl tm a r b r' 26 := by
  refine ⟨_, rfl, fun H h => ?_⟩
  show va_at D vwCl (adr a r b r' 26, .inl (ty 0, 10, .inl (fun j => Int32.ofInt (s0 26 j)))) H
  exact at_int h (fun j _ => rfl)
set_option maxRecDepth 20000 in
theorem sa_27 : SA D ty tl tm a r b r' 27 := by
  refine ⟨_, rfl, fun H h => ?_⟩
  show va_at D vwCl (adr a r b r' 27, .inl (ty 0, 30, .inl (fun j => Int32.ofInt (s0 27 j)))) H
  exact at_int h (fun j _ => rfl)
set_option maxRecDepth 20000 in
theorem sa_28 : SA D ty tl tm a r b r' 28 := by
  refine ⟨_, rfl, fun H h => ?_⟩
  show va_at D vwCl (adr a r b r' 28, .inr (7, [.ref (adr a r b r' 16), .ref (adr a r b r' 10), .ref (adr a r b r' 11), .ref (adr a r b r' 29), .ref (adr a r b r' 33), .ref (adr a r b r' 34), .ref (adr a r b r' 35)])) H
  exact at_obj h rfl
set_option maxRecDepth 20000 in
theorem sa_29 : SA D ty tl tm a r b r' 29 := by
  refine ⟨_, rfl, fun H h => ?_⟩
  show va_at D vwCl (adr a r b r' 29, .inl (ty 5, 3, .inr (.inr (.inr (.inr (fun j => some (adr a r b r' (30 + j)))))))) H
  exact at_ref h (lt3 rfl rfl rfl)
set_option maxRecDepth 20000 in
theorem sa_30 : SA D ty tl tm a r b r' 30 := by
  refine ⟨_, rfl, fun H h => ?_⟩
  show va_at D vwCl (adr a r b r' 30, .inl (ty 0, 3, .inl (fun j => Int32.ofInt (s0 30 j)))) H
  exact at_int h (fun j _ => rfl)
set_option maxRecDepth 20000 in
theorem sa_31 : SA D ty tl tm a r b r' 31 := by
  refine ⟨_, rfl, fun H h => ?_⟩
  show va_at D vwCl (adr a r b r' 31, .inl (ty 0, 3, .inl (fun j => Int32.ofInt (s0 31 j)))) H
  exact at_int h (fun j _ => rfl)
set_option maxRecDepth 20000 in
theorem sa_32 : SA D ty tl tm a r b r' 32 := by
  refine ⟨_, rfl, fun H h => ?_⟩
  show va_at D vwCl (adr a r b r' 32, .inl (ty 0, 3, .inl (fun j => Int32.ofInt (s0 32 j)))) H
  exact at_int h (fun j _ => rfl)
set_option maxRecDepth 20000 in
theorem sa_33 : SA D ty tl tm a r b r' 33 := by
  refine ⟨_, rfl, fun H h => ?_⟩
  show va_at D vwCl (adr a r b r' 33, .inl (ty 0, 3, .inl (fun j => Int32.ofInt (s0 33 j)))) H
  exact at_int h (fun j _ => rfl)
set_option maxRecDepth 20000 in
theorem sa_34 : SA D ty tl tm a r b r' 34 := by
  refine ⟨_, rfl, fun H h => ?_⟩
  show va_at D vwCl (adr a r b r' 34, .inl (ty 0, 3, .inl (fun j => Int32.ofInt (s0 34 j)))) H
  exact at_int h (fun j _ => rfl)
set_option maxRecDepth 20000 in
theorem sa_35 : SA D ty tl tm a r b r' 35 := by
  refine ⟨_, rfl, fun H h => ?_⟩
  show va_at D vwCl (adr a r b r' 35, .inl (ty 2, 3, .inl (fun j => Int32.ofInt (s0 35 j)))) H
  exact at_int h (fun j _ => rfl)
set_option maxRecDepth 20000 in
theorem sa_36 : SA D ty tl tm a r b r' 36 := by
  refine ⟨_, rfl, fun H h => ?_⟩
  show va_at D vwCl (adr a r b r' 36, .inr (3, [.ref (adr a r b r' 16), .int (Int32.ofInt (s0 36 1)), .int (Int32.ofInt (s0 36 2)), .int (Int32.ofInt (s0 36 3))])) H
  exact at_obj h rfl
set_option maxRecDepth 20000 in
theorem sa_37 : SA D ty tl tm a r b r' 37 := by
  refine ⟨_, rfl, fun H h => ?_⟩
  show va_at D vwCl (adr a r b r' 37, .inr (0, [.ref (adr a r b r' 16), .ref (adr a r b r' 11), .ref (adr a r b r' 38), .ref (adr a r b r' 39), .ref (adr a r b r' 40), .ref (adr a r b r' 41), .int (Int32.ofInt (s0 37 6)), .int (Int32.ofInt (s0 37 7)), .int (Int32.ofInt (s0 37 8)), .int (Int32.ofInt (s0 37 9))])) H
  exact at_obj h rfl
set_option maxRecDepth 20000 in
theorem sa_38 : SA D ty tl tm a r b r' 38 := by
  refine ⟨_, rfl, fun H h => ?_⟩
  show va_at D vwCl (adr a r b r' 38, .inl (ty 0, 8, .inl (fun j => Int32.ofInt (s0 38 j)))) H
  exact at_int h (fun j _ => rfl)
set_option maxRecDepth 20000 in
theorem sa_39 : SA D ty tl tm a r b r' 39 := by
  refine ⟨_, rfl, fun H h => ?_⟩
  show va_at D vwCl (adr a r b r' 39, .inl (ty 0, 8, .inl (fun j => Int32.ofInt (s0 39 j)))) H
  exact at_int h (fun j _ => rfl)
set_option maxRecDepth 20000 in
theorem sa_40 : SA D ty tl tm a r b r' 40 := by
  refine ⟨_, rfl, fun H h => ?_⟩
  show va_at D vwCl (adr a r b r' 40, .inl (ty 0, 8, .inl (fun j => Int32.ofInt (s0 40 j)))) H
  exact at_int h (fun j _ => rfl)
set_option maxRecDepth 20000 in
theorem sa_41 : SA D ty tl tm a r b r' 41 := by
  refine ⟨_, rfl, fun H h => ?_⟩
  show va_at D vwCl (adr a r b r' 41, .inl (ty 5, 3, .inr (.inr (.inr (.inr (fun j => some (adr a r b r' (42 + j)))))))) H
  exact at_ref h (lt3 rfl rfl rfl)
set_option maxRecDepth 20000 in
theorem sa_42 : SA D ty tl tm a r b r' 42 := by
  refine ⟨_, rfl, fun H h => ?_⟩
  show va_at D vwCl (adr a r b r' 42, .inl (ty 0, 256, .inl (fun j => Int32.ofInt (s0 42 j)))) H
  exact at_int h (fun j _ => rfl)
set_option maxRecDepth 20000 in
theorem sa_43 : SA D ty tl tm a r b r' 43 := by
  refine ⟨_, rfl, fun H h => ?_⟩
  show va_at D vwCl (adr a r b r' 43, .inl (ty 0, 256, .inl (fun j => Int32.ofInt (s0 43 j)))) H
  exact at_int h (fun j _ => rfl)
set_option maxRecDepth 20000 in
theorem sa_44 : SA D ty tl tm a r b r' 44 := by
  refine ⟨_, rfl, fun H h => ?_⟩
  show va_at D vwCl (adr a r b r' 44, .inl (ty 0, 256, .inl (fun j => Int32.ofInt (s0 44 j)))) H
  exact at_int h (fun j _ => rfl)
set_option maxRecDepth 20000 in
theorem sa_45 : SA D ty tl tm a r b r' 45 := by
  refine ⟨_, rfl, fun H h => ?_⟩
  show va_at D vwCl (adr a r b r' 45, .inr (2, [.ref (adr a r b r' 46), .ref (adr a r b r' 47), .ref (adr a r b r' 48), .int (Int32.ofInt (s0 45 3))])) H
  exact at_obj h rfl
set_option maxRecDepth 20000 in
theorem sa_46 : SA D ty tl tm a r b r' 46 := by
  refine ⟨_, rfl, fun H h => ?_⟩
  show va_at D vwCl (adr a r b r' 46, .inl (ty 0, 8, .inl (fun j => Int32.ofInt (s0 46 j)))) H
  exact at_int h (fun j _ => rfl)
set_option maxRecDepth 20000 in
theorem sa_47 : SA D ty tl tm a r b r' 47 := by
  refine ⟨_, rfl, fun H h => ?_⟩
  show va_at D vwCl (adr a r b r' 47, .inl (ty 0, 8, .inl (fun j => Int32.ofInt (s0 47 j)))) H
  exact at_int h (fun j _ => rfl)
set_option maxRecDepth 20000 in
theorem sa_48 : SA D ty tl tm a r b r' 48 := by
  refine ⟨_, rfl, fun H h => ?_⟩
  show va_at D vwCl (adr a r b r' 48, .inl (ty 0, 8, .inl (fun j => Int32.ofInt (s0 48 j)))) H
  exact at_int h (fun j _ => rfl)
set_option maxRecDepth 20000 in
theorem sa_49 : SA D ty tl tm a r b r' 49 := by
  refine ⟨_, rfl, fun H h => ?_⟩
  show va_at D vwCl (adr a r b r' 49, .inl (ty 4, 4, .inr (.inr (.inr (.inr (fun j => some (adr a r b r' (50 + j)))))))) H
  exact at_ref h (lt4 rfl rfl rfl rfl)
set_option maxRecDepth 20000 in
theorem sa_50 : SA D ty tl tm a r b r' 50 := by
  refine ⟨_, rfl, fun H h => ?_⟩
  show va_at D vwCl (adr a r b r' 50, .inr (4, [.ref (adr a r b r' 54), .int (Int32.ofInt (s0 50 1)), .int (Int32.ofInt (s0 50 2))])) H
  exact at_obj h rfl
set_option maxRecDepth 20000 in
theorem sa_51 : SA D ty tl tm a r b r' 51 := by
  refine ⟨_, rfl, fun H h => ?_⟩
  show va_at D vwCl (adr a r b r' 51, .inr (4, [.ref (adr a r b r' 55), .int (Int32.ofInt (s0 51 1)), .int (Int32.ofInt (s0 51 2))])) H
  exact at_obj h rfl
set_option maxRecDepth 20000 in
theorem sa_52 : SA D ty tl tm a r b r' 52 := by
  refine ⟨_, rfl, fun H h => ?_⟩
  show va_at D vwCl (adr a r b r' 52, .inr (4, [.ref (adr a r b r' 56), .int (Int32.ofInt (s0 52 1)), .int (Int32.ofInt (s0 52 2))])) H
  exact at_obj h rfl
set_option maxRecDepth 20000 in
theorem sa_53 : SA D ty tl tm a r b r' 53 := by
  refine ⟨_, rfl, fun H h => ?_⟩
  show va_at D vwCl (adr a r b r' 53, .inr (4, [.ref (adr a r b r' 57), .int (Int32.ofInt (s0 53 1)), .int (Int32.ofInt (s0 53 2))])) H
  exact at_obj h rfl
set_option maxRecDepth 20000 in
theorem sa_54 : SA D ty tl tm a r b r' 54 := by
  refine ⟨_, rfl, fun H h => ?_⟩
  show va_at D vwCl (adr a r b r' 54, .inl (ty 0, 60, .inl (fun j => Int32.ofInt (s0 54 j)))) H
  exact at_int h (fun j _ => rfl)
set_option maxRecDepth 20000 in
theorem sa_55 : SA D ty tl tm a r b r' 55 := by
  refine ⟨_, rfl, fun H h => ?_⟩
  show va_at D vwCl (adr a r b r' 55, .inl (ty 0, 60, .inl (fun j => Int32.ofInt (s0 55 j)))) H
  exact at_int h (fun j _ => rfl)
set_option maxRecDepth 20000 in
theorem sa_56 : SA D ty tl tm a r b r' 56 := by
  refine ⟨_, rfl, fun H h => ?_⟩
  show va_at D vwCl (adr a r b r' 56, .inl (ty 0, 60, .inl (fun j => Int32.ofInt (s0 56 j)))) H
  exact at_int h (fun j _ => rfl)
set_option maxRecDepth 20000 in
theorem sa_57 : SA D ty tl tm a r b r' 57 := by
  refine ⟨_, rfl, fun H h => ?_⟩
  show va_at D vwCl (adr a r b r' 57, .inl (ty 0, 60, .inl (fun j => Int32.ofInt (s0 57 j)))) H
  exact at_int h (fun j _ => rfl)
set_option maxRecDepth 20000 in
theorem sa_58 : SA D ty tl tm a r b r' 58 := by
  refine ⟨_, rfl, fun H h => ?_⟩
  show va_at D vwCl (adr a r b r' 58, .inr (9, [.ref (adr a r b r' 59), .ref (adr a r b r' 60), .ref (adr a r b r' 61), .ref (adr a r b r' 62), .int (Int32.ofInt (s0 58 4)), .ref (adr a r b r' 63), .ref (adr a r b r' 64), .ref (adr a r b r' 65), .ref (adr a r b r' 66), .int (Int32.ofInt (s0 58 9)), .ref (adr a r b r' 67), .ref (adr a r b r' 68), .int (Int32.ofInt (s0 58 12)), .ref (adr a r b r' 69), .int (Int32.ofInt (s0 58 14)), .int (Int32.ofInt (s0 58 15)), .long (Int64.ofInt (s0 58 16)), .int (Int32.ofInt (s0 58 17)), .ref (adr a r b r' 70)])) H
  exact at_obj h rfl
set_option maxRecDepth 20000 in
theorem sa_59 : SA D ty tl tm a r b r' 59 := by
  refine ⟨_, rfl, fun H h => ?_⟩
  show va_at D vwCl (adr a r b r' 59, .inl (ty 0, 4, .inl (fun j => Int32.ofInt (s0 59 j)))) H
  exact at_int h (lt4 rfl rfl rfl rfl)
set_option maxRecDepth 20000 in
theorem sa_60 : SA D ty tl tm a r b r' 60 := by
  refine ⟨_, rfl, fun H h => ?_⟩
  show va_at D vwCl (adr a r b r' 60, .inl (ty 0, 4, .inl (fun j => Int32.ofInt (s0 60 j)))) H
  exact at_int h (fun j _ => rfl)
set_option maxRecDepth 20000 in
theorem sa_61 : SA D ty tl tm a r b r' 61 := by
  refine ⟨_, rfl, fun H h => ?_⟩
  show va_at D vwCl (adr a r b r' 61, .inl (ty 0, 240, .inl (fun j => Int32.ofInt (s0 61 j)))) H
  exact at_int h (fun j _ => rfl)
set_option maxRecDepth 20000 in
theorem sa_62 : SA D ty tl tm a r b r' 62 := by
  refine ⟨_, rfl, fun H h => ?_⟩
  show va_at D vwCl (adr a r b r' 62, .inl (ty 0, 60, .inl (fun j => Int32.ofInt (s0 62 j)))) H
  exact at_int h (fun j _ => rfl)
set_option maxRecDepth 20000 in
theorem sa_63 : SA D ty tl tm a r b r' 63 := by
  refine ⟨_, rfl, fun H h => ?_⟩
  show va_at D vwCl (adr a r b r' 63, .inl (ty 0, 120, .inl (fun j => Int32.ofInt (s0 63 j)))) H
  exact at_int h (fun j _ => rfl)
set_option maxRecDepth 20000 in
theorem sa_64 : SA D ty tl tm a r b r' 64 := by
  refine ⟨_, rfl, fun H h => ?_⟩
  show va_at D vwCl (adr a r b r' 64, .inl (ty 0, 4, .inl (fun j => Int32.ofInt (s0 64 j)))) H
  exact at_int h (fun j _ => rfl)
set_option maxRecDepth 20000 in
theorem sa_65 : SA D ty tl tm a r b r' 65 := by
  refine ⟨_, rfl, fun H h => ?_⟩
  show va_at D vwCl (adr a r b r' 65, .inl (ty 0, 7, .inl (fun j => Int32.ofInt (s0 65 j)))) H
  exact at_int h (lt7 rfl rfl rfl rfl rfl rfl rfl)
set_option maxRecDepth 20000 in
theorem sa_66 : SA D ty tl tm a r b r' 66 := by
  refine ⟨_, rfl, fun H h => ?_⟩
  show va_at D vwCl (adr a r b r' 66, .inl (ty 0, 3, .inl (fun j => Int32.ofInt (s0 66 j)))) H
  exact at_int h (lt3 rfl rfl rfl)
set_option maxRecDepth 20000 in
theorem sa_67 : SA D ty tl tm a r b r' 67 := by
  refine ⟨_, rfl, fun H h => ?_⟩
  show va_at D vwCl (adr a r b r' 67, .inl (ty 0, 27, .inl (fun j => Int32.ofInt (s0 67 j)))) H
  exact at_int h (fun j _ => rfl)
set_option maxRecDepth 20000 in
theorem sa_68 : SA D ty tl tm a r b r' 68 := by
  refine ⟨_, rfl, fun H h => ?_⟩
  show va_at D vwCl (adr a r b r' 68, .inl (ty 1, 93, .inr (.inl (fun j => Int64.ofInt (s0 68 j))))) H
  exact at_lon h (fun j _ => rfl)
set_option maxRecDepth 20000 in
theorem sa_69 : SA D ty tl tm a r b r' 69 := by
  refine ⟨_, rfl, fun H h => ?_⟩
  show va_at D vwCl (adr a r b r' 69, .inl (ty 0, 32, .inl (fun j => Int32.ofInt (s0 69 j)))) H
  exact at_int h (fun j _ => rfl)
set_option maxRecDepth 20000 in
theorem sa_70 : SA D ty tl tm a r b r' 70 := by
  refine ⟨_, rfl, fun H h => ?_⟩
  show va_at D vwCl (adr a r b r' 70, .inl (ty 0, 24, .inl (fun j => Int32.ofInt (s0 70 j)))) H
  exact at_int h (fun j _ => rfl)
end SAK
def allP (Q : Nat → Prop) : Nat → Prop
  | 0 => True
  | n + 1 => allP Q n ∧ Q n
theorem allP_at {Q : Nat → Prop} : ∀ {n : Nat}, allP Q n → ∀ k, k < n → Q k
  | 0, _, k, h => absurd h (by omega)
  | n + 1, h, k, hk => by
    by_cases e : k = n
    · rw [e]
      exact h.2
    · exact allP_at h.1 k (by omega)
set_option maxRecDepth 20000 in
theorem sa_all {D : va_G} {ty : Nat → ClassId} {tl tm a b : Nat} {r r' : Nat → Nat} : ∀ k, k < 71 → SA D ty tl tm a r b r' k := allP_at (n := 71) ⟨⟨⟨⟨⟨⟨⟨⟨⟨⟨⟨⟨⟨⟨⟨⟨⟨⟨⟨⟨⟨⟨⟨⟨⟨⟨⟨⟨⟨⟨⟨⟨⟨⟨⟨⟨⟨⟨⟨⟨⟨⟨⟨⟨⟨⟨⟨⟨⟨⟨⟨⟨⟨⟨⟨⟨⟨⟨⟨⟨⟨⟨⟨⟨⟨⟨⟨⟨⟨⟨⟨trivial, sa_0⟩, sa_1⟩, sa_2⟩, sa_3⟩, sa_4⟩, sa_5⟩, sa_6⟩, sa_7⟩, sa_8⟩, sa_9⟩, sa_10⟩, sa_11⟩, sa_12⟩, sa_13⟩, sa_14⟩, sa_15⟩, sa_16⟩, sa_17⟩, sa_18⟩, sa_19⟩, sa_20⟩, sa_21⟩, sa_22⟩, sa_23⟩, sa_24⟩, sa_25⟩, sa_26⟩, sa_27⟩, sa_28⟩, sa_29⟩, sa_30⟩, sa_31⟩, sa_32⟩, sa_33⟩, sa_34⟩, sa_35⟩, sa_36⟩, sa_37⟩, sa_38⟩, sa_39⟩, sa_40⟩, sa_41⟩, sa_42⟩, sa_43⟩, sa_44⟩, sa_45⟩, sa_46⟩, sa_47⟩, sa_48⟩, sa_49⟩, sa_50⟩, sa_51⟩, sa_52⟩, sa_53⟩, sa_54⟩, sa_55⟩, sa_56⟩, sa_57⟩, sa_58⟩, sa_59⟩, sa_60⟩, sa_61⟩, sa_62⟩, sa_63⟩, sa_64⟩, sa_65⟩, sa_66⟩, sa_67⟩, sa_68⟩, sa_69⟩, sa_70⟩
/-- the world of both sides, as the loop has it -/
theorem sa_P {D : va_G} {ty : Nat → ClassId} {tl tm a b : Nat} {r r' : Nat → Nat} {H : Heap} (h : va_P D vwCl (w8 (gF D ty tl tm a r b r') a r ++ w9 (gF D ty tl tm a r b r') b r') H) : va_P D vwCl (rr_wd (gF D ty tl tm a r b r') s0) H := by
  intro k q hq
  have hk : k < 71 := by
    have h9 := (List.getElem?_eq_some_iff.mp hq).1
    rwa [rr_wd_len] at h9
  rw [wl_eq] at h
  obtain ⟨e, h1, h2⟩ := sa_all (D := D) (ty := ty) (tl := tl) (tm := tm) (a := a) (b := b) (r := r) (r' := r') k hk
  unfold rr_wd at hq
  rw [List.getElem?_map, List.getElem?_range hk, Option.map_some] at hq
  cases hq
  exact h2 H (h _ _ h1)
theorem sa_GD {D : va_G} {ty : Nat → ClassId} {tl tm a b : Nat} {r r' : Nat → Nat} {A : Nat → Prop} (h : va_D A (w8 (gF D ty tl tm a r b r') a r ++ w9 (gF D ty tl tm a r b r') b r')) : rr_GD (gF D ty tl tm a r b r') := by
  rw [wl_eq] at h
  intro i j hi hj he
  obtain ⟨e1, h1, -⟩ := sa_all (D := D) (ty := ty) (tl := tl) (tm := tm) (a := a) (b := b) (r := r) (r' := r') i hi
  obtain ⟨e2, h2, -⟩ := sa_all (D := D) (ty := ty) (tl := tl) (tm := tm) (a := a) (b := b) (r := r) (r' := r') j hj
  exact pidx_inj i hi j hj (h.1 _ _ _ _ h1 h2 he)
theorem sa_A {D : va_G} {ty : Nat → ClassId} {tl tm a b : Nat} {r r' : Nat → Nat} {A : Nat → Prop} (h : va_D A (w8 (gF D ty tl tm a r b r') a r ++ w9 (gF D ty tl tm a r b r') b r')) : ∀ q, rr_A (gF D ty tl tm a r b r') q → A q := by
  rw [wl_eq] at h
  intro q hq
  obtain ⟨k, hk, rfl⟩ := hq
  obtain ⟨e1, h1, -⟩ := sa_all (D := D) (ty := ty) (tl := tl) (tm := tm) (a := a) (b := b) (r := r) (r' := r') k hk
  exact h.2 _ _ h1
