/-! THE FIRST MEMORY -/
def s0 : St := fun k i => match k with
  | 10 => rr_TF i
  | 65 => rr_TF i
  | 11 => 1
  | 66 => 1
  | 59 => -1
  | 16 => if i = 8 then 1 else 0
  | 50 => if i = 1 then -1 else 0
  | 51 => if i = 1 then -1 else 0
  | 52 => if i = 1 then -1 else 0
  | 53 => if i = 1 then -1 else 0
  | _ => 0
theorem tf_ok : ∀ j, j < 7 → rr_TL j ≤ rr_TF j ∧ rr_TF j ≤ rr_TM j := by
  intro j hj
  match j, hj with
  | 0, _ => decide
  | 1, _ => decide
  | 2, _ => decide
  | 3, _ => decide
  | 4, _ => decide
  | 5, _ => decide
  | 6, _ => decide
  | n + 7, h => exact absurd h (by omega)
theorem Inv0 : Inv s0 := by
  refine ⟨⟨?_, fun j _ => rfl, fun s _ => rfl, ⟨rfl, ?_, ?_⟩, ⟨⟨?_, ?_⟩, ?_⟩, ⟨rfl, ?_⟩, ?_, rfl⟩, ⟨?_, ?_, ?_, ?_, ?_, ?_, ?_, ?_, ?_, ?_, ?_, ?_⟩, Or.inl rfl, Or.inl rfl⟩
  · intro t ht
    have h4 : t = 0 ∨ t = 1 ∨ t = 2 ∨ t = 3 := by omega
    rcases h4 with rfl | rfl | rfl | rfl <;> exact ⟨rfl, fun i h => absurd (show (i : Int) < 0 from h) (by omega)⟩
  · show (0 : Int) ≤ 8
    decide
  · intro k h
    exact absurd (show (k : Int) < 0 from h) (by omega)
  · show (0 : Int) ≤ 0
    decide
  · show (0 : Int) < 256
    decide
  · intro k hk
    refine ⟨?_, rfl, rfl, rfl⟩
    show (0 : Int).toNat.testBit k = decide ((0 : Int) = 1)
    simp
  · intro k h
    exact absurd (show (k : Int) < 0 from h) (by omega)
  · intro s hs
    have h4 : s = 0 ∨ s = 1 ∨ s = 2 ∨ s = 3 := by omega
    rcases h4 with rfl | rfl | rfl | rfl <;> exact ⟨rfl, fun h => absurd (show (0 : Int) ≤ -1 from h) (by decide)⟩
  · intro t ht
    exact ⟨Int.le_refl 0, Int.natCast_nonneg _⟩
  · intro i hi
    exact ⟨Int.le_refl 0, show (0 : Int) ≤ 255 by decide⟩
  · intro j hj
    exact tf_ok j hj
  · intro s hs
    exact ⟨show (0 : Int) ≤ 1 by decide, show (1 : Int) ≤ 99 by decide⟩
  · exact ⟨Int.le_refl 0, show (0 : Int) ≤ 9 by decide⟩
  · intro k h
    exact absurd (show (k : Int) < 0 from h) (by omega)
  · intro k hk
    exact ⟨Or.inl rfl, ⟨Int.le_refl 0, show (0 : Int) ≤ 29 by decide⟩, ⟨Int.le_refl 0, show (0 : Int) ≤ 99 by decide⟩, Int.le_refl 0, show (0 : Int) ≤ 99 by decide⟩
  · exact ⟨Int.le_refl 0, show (0 : Int) ≤ 8 by decide⟩
  · intro k hk
    exact ⟨⟨Int.le_refl 0, show (0 : Int) ≤ 29 by decide⟩, ⟨Int.le_refl 0, show (0 : Int) ≤ 11 by decide⟩, Or.inl rfl⟩
  · intro s hs
    exact ⟨⟨show (-1 : Int) ≤ -1 by decide, show (-1 : Int) ≤ 2 by decide⟩, Int.le_refl 0, show (0 : Int) ≤ 60 by decide⟩
  · intro i hi
    exact ⟨show (-2147483648 : Int) ≤ 0 by decide, show (0 : Int) ≤ 2147483647 by decide⟩
  · exact ⟨Int.le_refl 0, show (0 : Int) ≤ 5 by decide⟩
/-! cells whose arrays agree below their lengths -/
theorem arrV_cg {c : ClassId} {n : Nat} {f g : Nat → Value} (h : ∀ j, j < n → f j = g j) : arrV c n f = arrV c n g := by
  unfold arrV
  have e : (fun j : Fin n => f j.val) = (fun j : Fin n => g j.val) := funext fun j => h j.val j.isLt
  rw [e]
theorem at_int {D : va_G} {cl : List vw_C} {q : Nat} {cA : ClassId} {n : Nat} {f g : Nat → Int32} {H : Heap} (h : va_at D cl (q, .inl (cA, n, .inl f)) H) (e : ∀ j, j < n → f j = g j) : va_at D cl (q, .inl (cA, n, .inl g)) H := by
  show H[q]? = some (vp_cell cA (n, .inl g))
  rw [vp_cell_i, ← arrV_cg (f := fun j => .int (f j)) (fun j hj => by rw [e j hj]), ← vp_cell_i]
  exact h
theorem at_lon {D : va_G} {cl : List vw_C} {q : Nat} {cA : ClassId} {n : Nat} {f g : Nat → Int64} {H : Heap} (h : va_at D cl (q, .inl (cA, n, .inr (.inl f))) H) (e : ∀ j, j < n → f j = g j) : va_at D cl (q, .inl (cA, n, .inr (.inl g))) H := by
  show H[q]? = some (vp_cell cA (n, .inr (.inl g)))
  rw [vp_cell_l, ← arrV_cg (f := fun j => .long (f j)) (fun j hj => by rw [e j hj]), ← vp_cell_l]
  exact h
theorem at_ref {D : va_G} {cl : List vw_C} {q : Nat} {cA : ClassId} {n : Nat} {f g : Nat → Option Nat} {H : Heap} (h : va_at D cl (q, .inl (cA, n, .inr (.inr (.inr (.inr f))))) H) (e : ∀ j, j < n → f j = g j) : va_at D cl (q, .inl (cA, n, .inr (.inr (.inr (.inr g))))) H := by
  show H[q]? = some (vp_cell cA (n, .inr (.inr (.inr (.inr g)))))
  rw [vp_cell_q, ← arrV_cg (f := fun j => va_rf (f j)) (fun j hj => by rw [e j hj]), ← vp_cell_q]
  exact h
theorem at_obj {D : va_G} {cl : List vw_C} {q ci : Nat} {fs gs : List Value} {H : Heap} (h : va_at D cl (q, .inr (ci, fs)) H) (e : fs = gs) : va_at D cl (q, .inr (ci, gs)) H := e ▸ h
theorem lt3 {P : Nat → Prop} (h0 : P 0) (h1 : P 1) (h2 : P 2) : ∀ j, j < 3 → P j := by
  intro j hj
  have h : j = 0 ∨ j = 1 ∨ j = 2 := by omega
  rcases h with rfl | rfl | rfl <;> assumption
theorem lt4 {P : Nat → Prop} (h0 : P 0) (h1 : P 1) (h2 : P 2) (h3 : P 3) : ∀ j, j < 4 → P j := by
  intro j hj
  have h : j = 0 ∨ j = 1 ∨ j = 2 ∨ j = 3 := by omega
  rcases h with rfl | rfl | rfl | rfl <;> assumption
theorem lt7 {P : Nat → Prop} (h0 : P 0) (h1 : P 1) (h2 : P 2) (h3 : P 3) (h4 : P 4) (h5 : P 5) (h6 : P 6) : ∀ j, j < 7 → P j := by
  intro j hj
  have h : j = 0 ∨ j = 1 ∨ j = 2 ∨ j = 3 ∨ j = 4 ∨ j = 5 ∨ j = 6 := by omega
  rcases h with rfl | rfl | rfl | rfl | rfl | rfl | rfl <;> assumption
def adl (a : Nat) (r : Nat → Nat) (b : Nat) (r' : Nat → Nat) : List Nat := [a, r 0, r 41, r 43, r 45, r 47, r 42, r 44, r 46, r 48, r 1, r 2, r 4, r 10, r 11, r 12, r 5, r 13, r 14, r 15, r 16, r 17, r 18, r 19, r 20, r 21, r 22, r 23, r 6, r 24, r 25, r 26, r 27, r 28, r 29, r 30, r 7, r 8, r 31, r 32, r 33, r 34, r 35, r 36, r 37, r 9, r 38, r 39, r 40, r 3, r 49, r 51, r 53, r 55, r 50, r 52, r 54, r 56, b, r' 0, r' 1, r' 2, r' 3, r' 4, r' 5, r' 6, r' 7, r' 8, r' 9, r' 10, r' 11]
def adr (a : Nat) (r : Nat → Nat) (b : Nat) (r' : Nat → Nat) : Nat → Nat := fun k => (adl a r b r').getD k 0
def pidx (k : Nat) : Nat := [0, 1, 42, 44, 46, 48, 43, 45, 47, 49, 2, 3, 5, 6, 7, 8, 9, 10, 11, 12, 13, 14, 15, 16, 17, 18, 19, 20, 21, 22, 23, 24, 25, 26, 27, 28, 29, 30, 31, 32, 33, 34, 35, 36, 37, 38, 39, 40, 41, 4, 50, 52, 54, 56, 51, 53, 55, 57, 58, 59, 60, 61, 62, 63, 64, 65, 66, 67, 68, 69, 70].getD k 0
theorem pidx_lt : ∀ k, k < 71 → pidx k < 71 := by decide +kernel
theorem pidx_inj : ∀ i, i < 71 → ∀ j, j < 71 → pidx i = pidx j → i = j := by decide +kernel
def gF (D : va_G) (ty : Nat → ClassId) (tl tm a : Nat) (r : Nat → Nat) (b : Nat) (r' : Nat → Nat) : Ge := (D, adr a r b r', ty, tl, tm)
/-- what a place holds behind both constructors -/
def SA (D : va_G) (ty : Nat → ClassId) (tl tm a : Nat) (r : Nat → Nat) (b : Nat) (r' : Nat → Nat) (k : Nat) : Prop := ∃ e : va_E, (w8 (gF D ty tl tm a r b r') a r ++ w9 (gF D ty tl tm a r b r') b r')[pidx k]? = some (adr a r b r' k, e) ∧ ∀ H : Heap, va_at D vwCl (adr a r b r' k, e) H → va_at D vwCl (adr a r b r' k, rr_kE (gF D ty tl tm a r b r') (s0 k) (rr_TB.getD k (.inl (0, 0)))) H
section SAK
variable {D : va_G} {ty : Nat → ClassId} {tl tm a b : Nat} {r r' : Nat → Nat}
set_option maxRecDepth 20000 in
theorem sa_0 : SA D ty tl tm a r b r' 0 := by
  refine ⟨_, rfl, fun H h => ?_⟩
  show va_at D vwCl (adr a r b r' 0, .inr (8, [.ref (adr a r b r' 1), .ref (adr a r b r' 10), .ref (adr a r b r' 11), .ref (adr a r b r' 12), .ref (adr a r b r' 16), .ref (adr a r b r' 28), .ref (adr a r b r' 36), .ref (adr a r b r' 37), .ref (adr a r b r' 45), .ref (adr a r b r' 49), .int (Int32.ofInt (s0 0 10))])) H
  exact at_obj h rfl
set_option maxRecDepth 20000 in
theorem sa_1 : SA D ty tl tm a r b r' 1 := by
  refine ⟨_, rfl, fun H h => ?_⟩
  show va_at D vwCl (adr a r b r' 1, .inl (ty 3, 4, .inr (.inr (.inr (.inr (fun j => some (adr a r b r' (2 + j)))))))) H
  exact at_ref h (lt4 rfl rfl rfl rfl)
set_option maxRecDepth 20000 in
theorem sa_2 : SA D ty tl tm a r b r' 2 := by
  refine ⟨_, rfl, fun H h => ?_⟩
  show va_at D vwCl (adr a r b r' 2, .inr (5, [.ref (adr a r b r' 6), .int (Int32.ofInt (s0 2 1))])) H
  exact at_obj h rfl
set_option maxRecDepth 20000 in
theorem sa_3 : SA D ty tl tm a r b r' 3 := by
  refine ⟨_, rfl, fun H h => ?_⟩
  show va_at D vwCl (adr a r b r' 3, .inr (5, [.ref (adr a r b r' 7), .int (Int32.ofInt (s0 3 1))])) H
  exact at_obj h rfl
set_option maxRecDepth 20000 in
theorem sa_4 : SA D ty tl tm a r b r' 4 := by
  refine ⟨_, rfl, fun H h => ?_⟩
  show va_at D vwCl (adr a r b r' 4, .inr (5, [.ref (adr a r b r' 8), .int (Int32.ofInt (s0 4 1))])) H
  exact at_obj h rfl
set_option maxRecDepth 20000 in
theorem sa_5 : SA D ty tl tm a r b r' 5 := by
  refine ⟨_, rfl, fun H h => ?_⟩
  show va_at D vwCl (adr a r b r' 5, .inr (5, [.ref (adr a r b r' 9), .int (Int32.ofInt (s0 5 1))])) H
  exact at_obj h rfl
set_option maxRecDepth 20000 in
theorem sa_6 : SA D ty tl tm a r b r' 6 := by
  refine ⟨_, rfl, fun H h => ?_⟩
  show va_at D vwCl (adr a r b r' 6, .inl (ty 0, 30, .inl (fun j => Int32.ofInt (s0 6 j)))) H
  exact at_int h (fun j _ => rfl)
set_option maxRecDepth 20000 in
theorem sa_7 : SA D ty tl tm a r b r' 7 := by
  refine ⟨_, rfl, fun H h => ?_⟩
  show va_at D vwCl (adr a r b r' 7, .inl (ty 0, 30, .inl (fun j => Int32.ofInt (s0 7 j)))) H
  exact at_int h (fun j _ => rfl)
set_option maxRecDepth 20000 in
theorem sa_8 : SA D ty tl tm a r b r' 8 := by
  refine ⟨_, rfl, fun H h => ?_⟩
  show va_at D vwCl (adr a r b r' 8, .inl (ty 0, 30, .inl (fun j => Int32.ofInt (s0 8 j)))) H
  exact at_int h (fun j _ => rfl)
set_option maxRecDepth 20000 in
theorem sa_9 : SA D ty tl tm a r b r' 9 := by
  refine ⟨_, rfl, fun H h => ?_⟩
  show va_at D vwCl (adr a r b r' 9, .inl (ty 0, 12, .inl (fun j => Int32.ofInt (s0 9 j)))) H
  exact at_int h (fun j _ => rfl)
set_option maxRecDepth 20000 in
theorem sa_10 : SA D ty tl tm a r b r' 10 := by
  refine ⟨_, rfl, fun H h => ?_⟩
  show va_at D vwCl (adr a r b r' 10, .inl (ty 0, 7, .inl (fun j => Int32.ofInt (s0 10 j)))) H
  exact at_int h (lt7 rfl rfl rfl rfl rfl rfl rfl)
set_option maxRecDepth 20000 in
theorem sa_11 : SA D ty tl tm a r b r' 11 := by
  refine ⟨_, rfl, fun H h => ?_⟩
  show va_at D vwCl (adr a r b r' 11, .inl (ty 0, 3, .inl (fun j => Int32.ofInt (s0 11 j)))) H
  exact at_int h (lt3 rfl rfl rfl)
set_option maxRecDepth 20000 in
theorem sa_12 : SA D ty tl tm a r b r' 12 := by
  refine ⟨_, rfl, fun H h => ?_⟩
  show va_at D vwCl (adr a r b r' 12, .inr (1, [.ref (adr a r b r' 13), .ref (adr a r b r' 14), .ref (adr a r b r' 15), .int (Int32.ofInt (s0 12 3))])) H
  exact at_obj h rfl
set_option maxRecDepth 20000 in
theorem sa_13 : SA D ty tl tm a r b r' 13 := by
  refine ⟨_, rfl, fun H h => ?_⟩
  show va_at D vwCl (adr a r b r' 13, .inl (ty 0, 8, .inl (fun j => Int32.ofInt (s0 13 j)))) H
  exact at_int h (fun j _ => rfl)
set_option maxRecDepth 20000 in
theorem sa_14 : SA D ty tl tm a r b r' 14 := by
  refine ⟨_, rfl, fun H h => ?_⟩
  show va_at D vwCl (adr a r b r' 14, .inl (ty 0, 8, .inl (fun j => Int32.ofInt (s0 14 j)))) H
  exact at_int h (fun j _ => rfl)
set_option maxRecDepth 20000 in
theorem sa_15 : SA D ty tl tm a r b r' 15 := by
  refine ⟨_, rfl, fun H h => ?_⟩
  show va_at D vwCl (adr a r b r' 15, .inl (ty 0, 8, .inl (fun j => Int32.ofInt (s0 15 j)))) H
  exact at_int h (fun j _ => rfl)
set_option maxRecDepth 20000 in
theorem sa_16 : SA D ty tl tm a r b r' 16 := by
  refine ⟨_, rfl, fun H h => ?_⟩
  show va_at D vwCl (adr a r b r' 16, .inr (6, [.ref (adr a r b r' 1), .ref (adr a r b r' 10), .ref (adr a r b r' 12), .ref (adr a r b r' 17), .ref (adr a r b r' 21), .ref (adr a r b r' 25), .ref (adr a r b r' 26), .ref (adr a r b r' 27), .int (Int32.ofInt (s0 16 8))])) H
  exact at_obj h rfl
set_option maxRecDepth 20000 in
theorem sa_17 : SA D ty tl tm a r b r' 17 := by
  refine ⟨_, rfl, fun H h => ?_⟩
  show va_at D vwCl (adr a r b r' 17, .inl (ty 5, 3, .inr (.inr (.inr (.inr (fun j => some (adr a r b r' (18 + j)))))))) H
  exact at_ref h (lt3 rfl rfl rfl)
set_option maxRecDepth 20000 in
theorem sa_18 : SA D ty tl tm a r b r' 18 := by
  refine ⟨_, rfl, fun H h => ?_⟩
  show va_at D vwCl (adr a r b r' 18, .inl (ty 0, 30, .inl (fun j => Int32.ofInt (s0 18 j)))) H
  exact at_int h (fun j _ => rfl)
set_option maxRecDepth 20000 in
theorem sa_19 : SA D ty tl tm a r b r' 19 := by
  refine ⟨_, rfl, fun H h => ?_⟩
  show va_at D vwCl (adr a r b r' 19, .inl (ty 0, 30, .inl (fun j => Int32.ofInt (s0 19 j)))) H
  exact at_int h (fun j _ => rfl)
set_option maxRecDepth 20000 in
theorem sa_20 : SA D ty tl tm a r b r' 20 := by
  refine ⟨_, rfl, fun H h => ?_⟩
  show va_at D vwCl (adr a r b r' 20, .inl (ty 0, 30, .inl (fun j => Int32.ofInt (s0 20 j)))) H
  exact at_int h (fun j _ => rfl)
set_option maxRecDepth 20000 in
theorem sa_21 : SA D ty tl tm a r b r' 21 := by
  refine ⟨_, rfl, fun H h => ?_⟩
  show va_at D vwCl (adr a r b r' 21, .inl (ty 5, 3, .inr (.inr (.inr (.inr (fun j => some (adr a r b r' (22 + j)))))))) H
  exact at_ref h (lt3 rfl rfl rfl)
set_option maxRecDepth 20000 in
theorem sa_22 : SA D ty tl tm a r b r' 22 := by
  refine ⟨_, rfl, fun H h => ?_⟩
  show va_at D vwCl (adr a r b r' 22, .inl (ty 0, 30, .inl (fun j => Int32.ofInt (s0 22 j)))) H
  exact at_int h (fun j _ => rfl)
set_option maxRecDepth 20000 in
theorem sa_23 : SA D ty tl tm a r b r' 23 := by
  refine ⟨_, rfl, fun H h => ?_⟩
  show va_at D vwCl (adr a r b r' 23, .inl (ty 0, 30, .inl (fun j => Int32.ofInt (s0 23 j)))) H
  exact at_int h (fun j _ => rfl)
set_option maxRecDepth 20000 in
theorem sa_24 : SA D ty tl tm a r b r' 24 := by
  refine ⟨_, rfl, fun H h => ?_⟩
  show va_at D vwCl (adr a r b r' 24, .inl (ty 0, 30, .inl (fun j => Int32.ofInt (s0 24 j)))) H
  exact at_int h (fun j _ => rfl)
set_option maxRecDepth 20000 in
theorem sa_25 : SA D ty tl tm a r b r' 25 := by
  refine ⟨_, rfl, fun H h => ?_⟩
  show va_at D vwCl (adr a r b r' 25, .inl (ty 0, 3, .inl (fun j => Int32.ofInt (s0 25 j)))) H
  exact at_int h (fun j _ => rfl)
set_option maxRecDepth 20000 in
theorem sa_26 : SA D ty tl tm a r b r' 26 := by
  refine ⟨_, rfl, fun H h => ?_⟩
  show va_at D vwCl (adr a r b r' 26, .inl (ty 0, 10, .inl (fun j => Int32.ofInt (s0 26 j)))) H
  exact at_int h (fun j _ => rfl)
set_option maxRecDepth 20000 in
theorem sa_27 : SA D ty tl tm a r b r' 27 := by
  refine ⟨_, rfl, fun H h => ?_⟩
  show va_at D vwCl (adr a r b r' 27, .inl (ty 0, 30, .inl (fun j => Int32.ofInt (s0 27 j)))) H
  exact at_int h (fun j _ => rfl)
set_option maxRecDepth 20000 in
theorem sa_28 : SA D ty tl tm a r b r' 28 := by
  refine ⟨_, rfl, fun H h => ?_⟩
  show va_at D vwCl (adr a r b r' 28, .inr (7, [.ref (adr a r b r' 16), .ref (adr a r b r' 10), .ref (adr a r b r' 11), .ref (adr a r b r' 29), .ref (adr a r b r' 33), .ref (adr a r b r' 34), .ref (adr a r b r' 35)])) H
  exact at_obj h rfl
set_option maxRecDepth 20000 in
theorem sa_29 : SA D ty tl tm a r b r' 29 := by
  refine ⟨_, rfl, fun H h => ?_⟩
  show va_at D vwCl (adr a r b r' 29, .inl (ty 5, 3, .inr (.inr (.inr (.inr (fun j => some (adr a r b r' (30 + j)))))))) H
  exact at_ref h (lt3 rfl rfl rfl)
set_option maxRecDepth 20000 in
theorem sa_30 : SA D ty tl tm a r b r' 30 := by
  refine ⟨_, rfl, fun H h => ?_⟩
  show va_at D vwCl (adr a r b r' 30, .inl (ty 0, 3, .inl (fun j => Int32.ofInt (s0 30 j)))) H
  exact at_int h (fun j _ => rfl)
set_option maxRecDepth 20000 in
theorem sa_31 : SA D ty tl tm a r b r' 31 := by
  refine ⟨_, rfl, fun H h => ?_⟩
  show va_at D vwCl (adr a r b r' 31, .inl (ty 0, 3, .inl (fun j => Int32.ofInt (s0 31 j)))) H
  exact at_int h (fun j _ => rfl)
set_option maxRecDepth 20000 in
theorem sa_32 : SA D ty tl tm a r b r' 32 := by
  refine ⟨_, rfl, fun H h => ?_⟩
  show va_at D vwCl (adr a r b r' 32, .inl (ty 0, 3, .inl (fun j => Int32.ofInt (s0 32 j)))) H
  exact at_int h (fun j _ => rfl)
set_option maxRecDepth 20000 in
theorem sa_33 : SA D ty tl tm a r b r' 33 := by
  refine ⟨_, rfl, fun H h => ?_⟩
  show va_at D vwCl (adr a r b r' 33, .inl (ty 0, 3, .inl (fun j => Int32.ofInt (s0 33 j)))) H
  exact at_int h (fun j _ => rfl)
set_option maxRecDepth 20000 in
theorem sa_34 : SA D ty tl tm a r b r' 34 := by
  refine ⟨_, rfl, fun H h => ?_⟩
  show va_at D vwCl (adr a r b r' 34, .inl (ty 0, 3, .inl (fun j => Int32.ofInt (s0 34 j)))) H
  exact at_int h (fun j _ => rfl)
set_option maxRecDepth 20000 in
theorem sa_35 : SA D ty tl tm a r b r' 35 := by
  refine ⟨_, rfl, fun H h => ?_⟩
  show va_at D vwCl (adr a r b r' 35, .inl (ty 2, 3, .inl (fun j => Int32.ofInt (s0 35 j)))) H
  exact at_int h (fun j _ => rfl)
set_option maxRecDepth 20000 in
theorem sa_36 : SA D ty tl tm a r b r' 36 := by
  refine ⟨_, rfl, fun H h => ?_⟩
  show va_at D vwCl (adr a r b r' 36, .inr (3, [.ref (adr a r b r' 16), .int (Int32.ofInt (s0 36 1)), .int (Int32.ofInt (s0 36 2)), .int (Int32.ofInt (s0 36 3))])) H
  exact at_obj h rfl
set_option maxRecDepth 20000 in
theorem sa_37 : SA D ty tl tm a r b r' 37 := by
  refine ⟨_, rfl, fun H h => ?_⟩
  show va_at D vwCl (adr a r b r' 37, .inr (0, [.ref (adr a r b r' 16), .ref (adr a r b r' 11), .ref (adr a r b r' 38), .ref (adr a r b r' 39), .ref (adr a r b r' 40), .ref (adr a r b r' 41), .int (Int32.ofInt (s0 37 6)), .int (Int32.ofInt (s0 37 7)), .int (Int32.ofInt (s0 37 8)), .int (Int32.ofInt (s0 37 9))])) H
  exact at_obj h rfl
set_option maxRecDepth 20000 in
theorem sa_38 : SA D ty tl tm a r b r' 38 := by
  refine ⟨_, rfl, fun H h => ?_⟩
  show va_at D vwCl (adr a r b r' 38, .inl (ty 0, 8, .inl (fun j => Int32.ofInt (s0 38 j)))) H
  exact at_int h (fun j _ => rfl)
set_option maxRecDepth 20000 in
theorem sa_39 : SA D ty tl tm a r b r' 39 := by
  refine ⟨_, rfl, fun H h => ?_⟩
  show va_at D vwCl (adr a r b r' 39, .inl (ty 0, 8, .inl (fun j => Int32.ofInt (s0 39 j)))) H
  exact at_int h (fun j _ => rfl)
set_option maxRecDepth 20000 in
theorem sa_40 : SA D ty tl tm a r b r' 40 := by
  refine ⟨_, rfl, fun H h => ?_⟩
  show va_at D vwCl (adr a r b r' 40, .inl (ty 0, 8, .inl (fun j => Int32.ofInt (s0 40 j)))) H
  exact at_int h (fun j _ => rfl)
set_option maxRecDepth 20000 in
theorem sa_41 : SA D ty tl tm a r b r' 41 := by
  refine ⟨_, rfl, fun H h => ?_⟩
  show va_at D vwCl (adr a r b r' 41, .inl (ty 5, 3, .inr (.inr (.inr (.inr (fun j => some (adr a r b r' (42 + j)))))))) H
  exact at_ref h (lt3 rfl rfl rfl)
set_option maxRecDepth 20000 in
theorem sa_42 : SA D ty tl tm a r b r' 42 := by
  refine ⟨_, rfl, fun H h => ?_⟩
  show va_at D vwCl (adr a r b r' 42, .inl (ty 0, 256, .inl (fun j => Int32.ofInt (s0 42 j)))) H
  exact at_int h (fun j _ => rfl)
set_option maxRecDepth 20000 in
theorem sa_43 : SA D ty tl tm a r b r' 43 := by
  refine ⟨_, rfl, fun H h => ?_⟩
  show va_at D vwCl (adr a r b r' 43, .inl (ty 0, 256, .inl (fun j => Int32.ofInt (s0 43 j)))) H
  exact at_int h (fun j _ => rfl)
set_option maxRecDepth 20000 in
theorem sa_44 : SA D ty tl tm a r b r' 44 := by
  refine ⟨_, rfl, fun H h => ?_⟩
  show va_at D vwCl (adr a r b r' 44, .inl (ty 0, 256, .inl (fun j => Int32.ofInt (s0 44 j)))) H
  exact at_int h (fun j _ => rfl)
set_option maxRecDepth 20000 in
theorem sa_45 : SA D ty tl tm a r b r' 45 := by
  refine ⟨_, rfl, fun H h => ?_⟩
  show va_at D vwCl (adr a r b r' 45, .inr (2, [.ref (adr a r b r' 46), .ref (adr a r b r' 47), .ref (adr a r b r' 48), .int (Int32.ofInt (s0 45 3))])) H
  exact at_obj h rfl
set_option maxRecDepth 20000 in
theorem sa_46 : SA D ty tl tm a r b r' 46 := by
  refine ⟨_, rfl, fun H h => ?_⟩
  show va_at D vwCl (adr a r b r' 46, .inl (ty 0, 8, .inl (fun j => Int32.ofInt (s0 46 j)))) H
  exact at_int h (fun j _ => rfl)
set_option maxRecDepth 20000 in
theorem sa_47 : SA D ty tl tm a r b r' 47 := by
  refine ⟨_, rfl, fun H h => ?_⟩
  show va_at D vwCl (adr a r b r' 47, .inl (ty 0, 8, .inl (fun j => Int32.ofInt (s0 47 j)))) H
  exact at_int h (fun j _ => rfl)
set_option maxRecDepth 20000 in
theorem sa_48 : SA D ty tl tm a r b r' 48 := by
  refine ⟨_, rfl, fun H h => ?_⟩
  show va_at D vwCl (adr a r b r' 48, .inl (ty 0, 8, .inl (fun j => Int32.ofInt (s0 48 j)))) H
  exact at_int h (fun j _ => rfl)
set_option maxRecDepth 20000 in
theorem sa_49 : SA D ty tl tm a r b r' 49 := by
  refine ⟨_, rfl, fun H h => ?_⟩
  show va_at D vwCl (adr a r b r' 49, .inl (ty 4, 4, .inr (.inr (.inr (.inr (fun j => some (adr a r b r' (50 + j)))))))) H
  exact at_ref h (lt4 rfl rfl rfl rfl)
set_option maxRecDepth 20000 in
theorem sa_50 : SA D ty tl tm a r b r' 50 := by
  refine ⟨_, rfl, fun H h => ?_⟩
  show va_at D vwCl (adr a r b r' 50, .inr (4, [.ref (adr a r b r' 54), .int (Int32.ofInt (s0 50 1)), .int (Int32.ofInt (s0 50 2))])) H
  exact at_obj h rfl
set_option maxRecDepth 20000 in
theorem sa_51 : SA D ty tl tm a r b r' 51 := by
  refine ⟨_, rfl, fun H h => ?_⟩
  show va_at D vwCl (adr a r b r' 51, .inr (4, [.ref (adr a r b r' 55), .int (Int32.ofInt (s0 51 1)), .int (Int32.ofInt (s0 51 2))])) H
  exact at_obj h rfl
set_option maxRecDepth 20000 in
theorem sa_52 : SA D ty tl tm a r b r' 52 := by
  refine ⟨_, rfl, fun H h => ?_⟩
  show va_at D vwCl (adr a r b r' 52, .inr (4, [.ref (adr a r b r' 56), .int (Int32.ofInt (s0 52 1)), .int (Int32.ofInt (s0 52 2))])) H
  exact at_obj h rfl
set_option maxRecDepth 20000 in
theorem sa_53 : SA D ty tl tm a r b r' 53 := by
  refine ⟨_, rfl, fun H h => ?_⟩
  show va_at D vwCl (adr a r b r' 53, .inr (4, [.ref (adr a r b r' 57), .int (Int32.ofInt (s0 53 1)), .int (Int32.ofInt (s0 53 2))])) H
  exact at_obj h rfl
set_option maxRecDepth 20000 in
theorem sa_54 : SA D ty tl tm a r b r' 54 := by
  refine ⟨_, rfl, fun H h => ?_⟩
  show va_at D vwCl (adr a r b r' 54, .inl (ty 0, 60, .inl (fun j => Int32.ofInt (s0 54 j)))) H
  exact at_int h (fun j _ => rfl)
set_option maxRecDepth 20000 in
theorem sa_55 : SA D ty tl tm a r b r' 55 := by
  refine ⟨_, rfl, fun H h => ?_⟩
  show va_at D vwCl (adr a r b r' 55, .inl (ty 0, 60, .inl (fun j => Int32.ofInt (s0 55 j)))) H
  exact at_int h (fun j _ => rfl)
set_option maxRecDepth 20000 in
theorem sa_56 : SA D ty tl tm a r b r' 56 := by
  refine ⟨_, rfl, fun H h => ?_⟩
  show va_at D vwCl (adr a r b r' 56, .inl (ty 0, 60, .inl (fun j => Int32.ofInt (s0 56 j)))) H
  exact at_int h (fun j _ => rfl)
set_option maxRecDepth 20000 in
theorem sa_57 : SA D ty tl tm a r b r' 57 := by
  refine ⟨_, rfl, fun H h => ?_⟩
  show va_at D vwCl (adr a r b r' 57, .inl (ty 0, 60, .inl (fun j => Int32.ofInt (s0 57 j)))) H
  exact at_int h (fun j _ => rfl)
set_option maxRecDepth 20000 in
theorem sa_58 : SA D ty tl tm a r b r' 58 := by
  refine ⟨_, rfl, fun H h => ?_⟩
  show va_at D vwCl (adr a r b r' 58, .inr (9, [.ref (adr a r b r' 59), .ref (adr a r b r' 60), .ref (adr a r b r' 61), .ref (adr a r b r' 62), .int (Int32.ofInt (s0 58 4)), .ref (adr a r b r' 63), .ref (adr a r b r' 64), .ref (adr a r b r' 65), .ref (adr a r b r' 66), .int (Int32.ofInt (s0 58 9)), .ref (adr a r b r' 67), .ref (adr a r b r' 68), .int (Int32.ofInt (s0 58 12)), .ref (adr a r b r' 69), .int (Int32.ofInt (s0 58 14)), .int (Int32.ofInt (s0 58 15)), .long (Int64.ofInt (s0 58 16)), .int (Int32.ofInt (s0 58 17)), .ref (adr a r b r' 70)])) H
  exact at_obj h rfl
set_option maxRecDepth 20000 in
theorem sa_59 : SA D ty tl tm a r b r' 59 := by
  refine ⟨_, rfl, fun H h => ?_⟩
  show va_at D vwCl (adr a r b r' 59, .inl (ty 0, 4, .inl (fun j => Int32.ofInt (s0 59 j)))) H
  exact at_int h (lt4 rfl rfl rfl rfl)
set_option maxRecDepth 20000 in
theorem sa_60 : SA D ty tl tm a r b r' 60 := by
  refine ⟨_, rfl, fun H h => ?_⟩
  show va_at D vwCl (adr a r b r' 60, .inl (ty 0, 4, .inl (fun j => Int32.ofInt (s0 60 j)))) H
  exact at_int h (fun j _ => rfl)
set_option maxRecDepth 20000 in
theorem sa_61 : SA D ty tl tm a r b r' 61 := by
  refine ⟨_, rfl, fun H h => ?_⟩
  show va_at D vwCl (adr a r b r' 61, .inl (ty 0, 240, .inl (fun j => Int32.ofInt (s0 61 j)))) H
  exact at_int h (fun j _ => rfl)
set_option maxRecDepth 20000 in
theorem sa_62 : SA D ty tl tm a r b r' 62 := by
  refine ⟨_, rfl, fun H h => ?_⟩
  show va_at D vwCl (adr a r b r' 62, .inl (ty 0, 60, .inl (fun j => Int32.ofInt (s0 62 j)))) H
  exact at_int h (fun j _ => rfl)
set_option maxRecDepth 20000 in
theorem sa_63 : SA D ty tl tm a r b r' 63 := by
  refine ⟨_, rfl, fun H h => ?_⟩
  show va_at D vwCl (adr a r b r' 63, .inl (ty 0, 120, .inl (fun j => Int32.ofInt (s0 63 j)))) H
  exact at_int h (fun j _ => rfl)
set_option maxRecDepth 20000 in
theorem sa_64 : SA D ty tl tm a r b r' 64 := by
  refine ⟨_, rfl, fun H h => ?_⟩
  show va_at D vwCl (adr a r b r' 64, .inl (ty 0, 4, .inl (fun j => Int32.ofInt (s0 64 j)))) H
  exact at_int h (fun j _ => rfl)
set_option maxRecDepth 20000 in
theorem sa_65 : SA D ty tl tm a r b r' 65 := by
  refine ⟨_, rfl, fun H h => ?_⟩
  show va_at D vwCl (adr a r b r' 65, .inl (ty 0, 7, .inl (fun j => Int32.ofInt (s0 65 j)))) H
  exact at_int h (lt7 rfl rfl rfl rfl rfl rfl rfl)
set_option maxRecDepth 20000 in
theorem sa_66 : SA D ty tl tm a r b r' 66 := by
  refine ⟨_, rfl, fun H h => ?_⟩
  show va_at D vwCl (adr a r b r' 66, .inl (ty 0, 3, .inl (fun j => Int32.ofInt (s0 66 j)))) H
  exact at_int h (lt3 rfl rfl rfl)
set_option maxRecDepth 20000 in
theorem sa_67 : SA D ty tl tm a r b r' 67 := by
  refine ⟨_, rfl, fun H h => ?_⟩
  show va_at D vwCl (adr a r b r' 67, .inl (ty 0, 27, .inl (fun j => Int32.ofInt (s0 67 j)))) H
  exact at_int h (fun j _ => rfl)
set_option maxRecDepth 20000 in
theorem sa_68 : SA D ty tl tm a r b r' 68 := by
  refine ⟨_, rfl, fun H h => ?_⟩
  show va_at D vwCl (adr a r b r' 68, .inl (ty 1, 93, .inr (.inl (fun j => Int64.ofInt (s0 68 j))))) H
  exact at_lon h (fun j _ => rfl)
set_option maxRecDepth 20000 in
theorem sa_69 : SA D ty tl tm a r b r' 69 := by
  refine ⟨_, rfl, fun H h => ?_⟩
  show va_at D vwCl (adr a r b r' 69, .inl (ty 0, 32, .inl (fun j => Int32.ofInt (s0 69 j)))) H
  exact at_int h (fun j _ => rfl)
set_option maxRecDepth 20000 in
theorem sa_70 : SA D ty tl tm a r b r' 70 := by
  refine ⟨_, rfl, fun H h => ?_⟩
  show va_at D vwCl (adr a r b r' 70, .inl (ty 0, 24, .inl (fun j => Int32.ofInt (s0 70 j)))) H
  exact at_int h (fun j _ => rfl)
end SAK
def allP (Q : Nat → Prop) : Nat → Prop
  | 0 => True
  | n + 1 => allP Q n ∧ Q n
theorem allP_at {Q : Nat → Prop} : ∀ {n : Nat}, allP Q n → ∀ k, k < n → Q k
  | 0, _, k, h => absurd h (by omega)
  | n + 1, h, k, hk => by
    by_cases e : k = n
    · rw [e]
      exact h.2
    · exact allP_at h.1 k (by omega)
set_option maxRecDepth 20000 in
theorem sa_all {D : va_G} {ty : Nat → ClassId} {tl tm a b : Nat} {r r' : Nat → Nat} : ∀ k, k < 71 → SA D ty tl tm a r b r' k := allP_at (n := 71) ⟨⟨⟨⟨⟨⟨⟨⟨⟨⟨⟨⟨⟨⟨⟨⟨⟨⟨⟨⟨⟨⟨⟨⟨⟨⟨⟨⟨⟨⟨⟨⟨⟨⟨⟨⟨⟨⟨⟨⟨⟨⟨⟨⟨⟨⟨⟨⟨⟨⟨⟨⟨⟨⟨⟨⟨⟨⟨⟨⟨⟨⟨⟨⟨⟨⟨⟨⟨⟨⟨⟨trivial, sa_0⟩, sa_1⟩, sa_2⟩, sa_3⟩, sa_4⟩, sa_5⟩, sa_6⟩, sa_7⟩, sa_8⟩, sa_9⟩, sa_10⟩, sa_11⟩, sa_12⟩, sa_13⟩, sa_14⟩, sa_15⟩, sa_16⟩, sa_17⟩, sa_18⟩, sa_19⟩, sa_20⟩, sa_21⟩, sa_22⟩, sa_23⟩, sa_24⟩, sa_25⟩, sa_26⟩, sa_27⟩, sa_28⟩, sa_29⟩, sa_30⟩, sa_31⟩, sa_32⟩, sa_33⟩, sa_34⟩, sa_35⟩, sa_36⟩, sa_37⟩, sa_38⟩, sa_39⟩, sa_40⟩, sa_41⟩, sa_42⟩, sa_43⟩, sa_44⟩, sa_45⟩, sa_46⟩, sa_47⟩, sa_48⟩, sa_49⟩, sa_50⟩, sa_51⟩, sa_52⟩, sa_53⟩, sa_54⟩, sa_55⟩, sa_56⟩, sa_57⟩, sa_58⟩, sa_59⟩, sa_60⟩, sa_61⟩, sa_62⟩, sa_63⟩, sa_64⟩, sa_65⟩, sa_66⟩, sa_67⟩, sa_68⟩, sa_69⟩, sa_70⟩
/-- the world of both sides, as the loop has it -/
theorem sa_P {D : va_G} {ty : Nat → ClassId} {tl tm a b : Nat} {r r' : Nat → Nat} {H : Heap} (h : va_P D vwCl (w8 (gF D ty tl tm a r b r') a r ++ w9 (gF D ty tl tm a r b r') b r') H) : va_P D vwCl (rr_wd (gF D ty tl tm a r b r') s0) H := by
  intro k q hq
  have hk : k < 71 := by
    have h9 := (List.getElem?_eq_some_iff.mp hq).1
    rwa [rr_wd_len] at h9
  obtain ⟨e, h1, h2⟩ := sa_all (D := D) (ty := ty) (tl := tl) (tm := tm) (a := a) (b := b) (r := r) (r' := r') k hk
  unfold rr_wd at hq
  rw [List.getElem?_map, List.getElem?_range hk, Option.map_some] at hq
  cases hq
  exact h2 H (h _ _ h1)
theorem sa_GD {D : va_G} {ty : Nat → ClassId} {tl tm a b : Nat} {r r' : Nat → Nat} {A : Nat → Prop} (h : va_D A (w8 (gF D ty tl tm a r b r') a r ++ w9 (gF D ty tl tm a r b r') b r')) : rr_GD (gF D ty tl tm a r b r') := by
  intro i j hi hj he
  obtain ⟨e1, h1, -⟩ := sa_all (D := D) (ty := ty) (tl := tl) (tm := tm) (a := a) (b := b) (r := r) (r' := r') i hi
  obtain ⟨e2, h2, -⟩ := sa_all (D := D) (ty := ty) (tl := tl) (tm := tm) (a := a) (b := b) (r := r) (r' := r') j hj
  exact pidx_inj i hi j hj (h.1 _ _ _ _ h1 h2 he)
theorem sa_A {D : va_G} {ty : Nat → ClassId} {tl tm a b : Nat} {r r' : Nat → Nat} {A : Nat → Prop} (h : va_D A (w8 (gF D ty tl tm a r b r') a r ++ w9 (gF D ty tl tm a r b r') b r')) : ∀ q, rr_A (gF D ty tl tm a r b r') q → A q := by
  intro q hq
  obtain ⟨k, hk, rfl⟩ := hq
  obtain ⟨e1, h1, -⟩ := sa_all (D := D) (ty := ty) (tl := tl) (tm := tm) (a := a) (b := b) (r := r) (r' := r') k hk
  exact h.2 _ _ h1
