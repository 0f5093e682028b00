/-! THE FIRST MEMORY -/
def s0 : St := fun k i => match k with
  | 10 => rr_TF i
  | 65 => rr_TF i
  | 11 => 1
  | 66 => 1
  | 59 => -1
  | 16 => if i = 8 then 1 else 0
  | 50 => if i = 1 then -1 else 0
  | 51 => if i = 1 then -1 else 0
  | 52 => if i = 1 then -1 else 0
  | 53 => if i = 1 then -1 else 0
  | _ => 0
theorem tf_ok : ∀ j, j < 7 → rr_TL j ≤ rr_TF j ∧ rr_TF j ≤ rr_TM j := by
  intro j hj
  match j, hj with
  | 0, _ => decide
  | 1, _ => decide
  | 2, _ => decide
  | 3, _ => decide
  | 4, _ => decide
  | 5, _ => decide
  | 6, _ => decide
  | n + 7, h => exact absurd h (by omega)
theorem Inv0 : Inv s0 := by
  refine ⟨⟨?_, fun j _ => rfl, fun s _ => rfl, ⟨rfl, ?_, ?_⟩, ⟨⟨?_, ?_⟩, ?_⟩, ⟨rfl, ?_⟩, ?_, rfl⟩, ⟨?_, ?_, ?_, ?_, ?_, ?_, ?_, ?_, ?_, ?_, ?_, ?_⟩, Or.inl rfl, Or.inl rfl⟩
  · intro t ht
    have h4 : t = 0 ∨ t = 1 ∨ t = 2 ∨ t = 3 := by omega
    rcases h4 with rfl | rfl | rfl | rfl <;> exact ⟨rfl, fun i h => absurd (show (i : Int) < 0 from h) (by omega)⟩
  · show (0 : Int) ≤ 8
    decide
  · intro k h
    exact absurd (show (k : Int) < 0 from h) (by omega)
  · show (0 : Int) ≤ 0
    decide
  · show (0 : Int) < 256
    decide
  · intro k hk
    refine ⟨?_, rfl, rfl, rfl⟩
    show (0 : Int).toNat.testBit k = decide ((0 : Int) = 1)
    simp
  · intro k h
    exact absurd (show (k : Int) < 0 from h) (by omega)
  · intro s hs
    have h4 : s = 0 ∨ s = 1 ∨ s = 2 ∨ s = 3 := by omega
    rcases h4 with rfl | rfl | rfl | rfl <;> exact ⟨rfl, fun h => absurd (show (0 : Int) ≤ -1 from h) (by decide)⟩
  · intro t ht
    exact ⟨Int.le_refl 0, Int.natCast_nonneg _⟩
  · intro i hi
    exact ⟨Int.le_refl 0, show (0 : Int) ≤ 255 by decide⟩
  · intro j hj
    exact tf_ok j hj
  · intro s hs
    exact ⟨show (0 : Int) ≤ 1 by decide, show (1 : Int) ≤ 99 by decide⟩
  · exact ⟨Int.le_refl 0, show (0 : Int) ≤ 9 by decide⟩
  · intro k h
    exact absurd (show (k : Int) < 0 from h) (by omega)
  · intro k hk
    exact ⟨Or.inl rfl, ⟨Int.le_refl 0, show (0 : Int) ≤ 29 by decide⟩, ⟨Int.le_refl 0, show (0 : Int) ≤ 99 by decide⟩, Int.le_refl 0, show (0 : Int) ≤ 99 by decide⟩
  · exact ⟨Int.le_refl 0, show (0 : Int) ≤ 8 by decide⟩
  · intro k hk
    exact ⟨⟨Int.le_refl 0, show (0 : Int) ≤ 29 by decide⟩, ⟨Int.le_refl 0, show (0 : Int) ≤ 11 by decide⟩, Or.inl rfl⟩
  · intro s hs
    exact ⟨⟨show (-1 : Int) ≤ -1 by decide, show (-1 : Int) ≤ 2 by decide⟩, Int.le_refl 0, show (0 : Int) ≤ 60 by decide⟩
  · intro i hi
    exact ⟨show (-2147483648 : Int) ≤ 0 by decide, show (0 : Int) ≤ 2147483647 by decide⟩
  · exact ⟨Int.le_refl 0, show (0 : Int) ≤ 5 by decide⟩
/-! cells whose arrays agree below their lengths -/
theorem arrV_cg {c : ClassId} {n : Nat} {f g : Nat → Value} (h : ∀ j, j < n → f j = g j) : arrV c n f = arrV c n g := by
  unfold arrV
  have e : (fun j : Fin n => f j.val) = (fun j : Fin n => g j.val) := funext fun j => h j.val j.isLt
  rw [e]
theorem at_int {D : va_G} {cl : List vw_C} {q : Nat} {cA : ClassId} {n : Nat} {f g : Nat → Int32} {H : Heap} (h : va_at D cl (q, .inl (cA, n, .inl f)) H) (e : ∀ j, j < n → f j = g j) : va_at D cl (q, .inl (cA, n, .inl g)) H := by
  show H[q]? = some (vp_cell cA (n, .inl g))
  rw [vp_cell_i, ← arrV_cg (f := fun j => .int (f j)) (fun j hj => by rw [e j hj]), ← vp_cell_i]
  exact h
theorem at_lon {D : va_G} {cl : List vw_C} {q : Nat} {cA : ClassId} {n : Nat} {f g : Nat → Int64} {H : Heap} (h : va_at D cl (q, .inl (cA, n, .inr (.inl f))) H) (e : ∀ j, j < n → f j = g j) : va_at D cl (q, .inl (cA, n, .inr (.inl g))) H := by
  show H[q]? = some (vp_cell cA (n, .inr (.inl g)))
  rw [vp_cell_l, ← arrV_cg (f := fun j => .long (f j)) (fun j hj => by rw [e j hj]), ← vp_cell_l]
  exact h
theorem at_ref {D : va_G} {cl : List vw_C} {q : Nat} {cA : ClassId} {n : Nat} {f g : Nat → Option Nat} {H : Heap} (h : va_at D cl (q, .inl (cA, n, .inr (.inr (.inr (.inr f))))) H) (e : ∀ j, j < n → f j = g j) : va_at D cl (q, .inl (cA, n, .inr (.inr (.inr (.inr g))))) H := by
  show H[q]? = some (vp_cell cA (n, .inr (.inr (.inr (.inr g)))))
  rw [vp_cell_q, ← arrV_cg (f := fun j => va_rf (f j)) (fun j hj => by rw [e j hj]), ← vp_cell_q]
  exact h
theorem at_obj {D : va_G} {cl : List vw_C} {q ci : Nat} {fs gs : List Value} {H : Heap} (h : va_at D cl (q, .inr (ci, fs)) H) (e : fs = gs) : va_at D cl (q, .inr (ci, gs)) H := e ▸ h
theorem lt3 {P : Nat → Prop} (h0 : P 0) (h1 : P 1) (h2 : P 2) : ∀ j, j < 3 → P j := by
  intro j hj
  have h : j = 0 ∨ j = 1 ∨ j = 2 := by omega
  rcases h with rfl | rfl | rfl <;> assumption
theorem lt4 {P : Nat → Prop} (h0 : P 0) (h1 : P 1) (h2 : P 2) (h3 : P 3) : ∀ j, j < 4 → P j := by
  intro j hj
  have h : j = 0 ∨ j = 1 ∨ j = 2 ∨ j = 3 := by omega
  rcases h with rfl | rfl | rfl | rfl <;> assumption
theorem lt7 {P : Nat → Prop} (h0 : P 0) (h1 : P 1) (h2 : P 2) (h3 : P 3) (h4 : P 4) (h5 : P 5) (h6 : P 6) : ∀ j, j < 7 → P j := by
  intro j hj
  have h : j = 0 ∨ j = 1 ∨ j = 2 ∨ j = 3 ∨ j = 4 ∨ j = 5 ∨ j = 6 := by omega
  rcases h with rfl | rfl | rfl | rfl | rfl | rfl | rfl <;> assumption
def adl (a : Nat) (r : Nat → Nat) (b : Nat) (r' : Nat → Nat) : List Nat := [a, r 0, r 41, r 43, r 45, r 47, r 42, r 44, r 46, r 48, r 1, r 2, r 4, r 10, r 11, r 12, r 5, r 13, r 14, r 15, r 16, r 17, r 18, r 19, r 20, r 21, r 22, r 23, r 6, r 24, r 25, r 26, r 27, r 28, r 29, r 30, r 7, r 8, r 31, r 32, r 33, r 34, r 35, r 36, r 37, r 9, r 38, r 39, r 40, r 3, r 49, r 51, r 53, r 55, r 50, r 52, r 54, r 56, b, r' 0, r' 1, r' 2, r' 3, r' 4, r' 5, r' 6, r' 7, r' 8, r' 9, r' 10, r' 11]
def adr (a : Nat) (r : Nat → Nat) (b : Nat) (r' : Nat → Nat) : Nat → Nat := fun k => (adl a r b r').getD k 0
def pidx (k : Nat) : Nat := [0, 1, 42, 44, 46, 48, 43, 45, 47, 49, 2, 3, 5, 6, 7, 8, 9, 10, 11, 12, 13, 14, 15, 16, 17, 18, 19, 20, 21, 22, 23, 24, 25, 26, 27, 28, 29, 30, 31, 32, 33, 34, 35, 36, 37, 38, 39, 40, 41, 4, 50, 52, 54, 56, 51, 53, 55, 57, 58, 59, 60, 61, 62, 63, 64, 65, 66, 67, 68, 69, 70].getD k 0
theorem pidx_lt : ∀ k, k < 71 → pidx k < 71 := by decide +kernel
def pinv (k : Nat) : Nat := [0, 1, 10, 11, 49, 12, 13, 14, 15, 16, 17, 18, 19, 20, 21, 22, 23, 24, 25, 26, 27, 28, 29, 30, 31, 32, 33, 34, 35, 36, 37, 38, 39, 40, 41, 42, 43, 44, 45, 46, 47, 48, 2, 6, 3, 7, 4, 8, 5, 9, 50, 54, 51, 55, 52, 56, 53, 57, 58, 59, 60, 61, 62, 63, 64, 65, 66, 67, 68, 69, 70].getD k 0
theorem pinv_ok : ∀ k, k < 71 → pinv (pidx k) = k := by decide +kernel
theorem pidx_inj : ∀ i, i < 71 → ∀ j, j < 71 → pidx i = pidx j → i = j := fun i hi j hj e => by rw [← pinv_ok i hi, ← pinv_ok j hj, e]
def gF (D : va_G) (ty : Nat → ClassId) (tl tm a : Nat) (r : Nat → Nat) (b : Nat) (r' : Nat → Nat) : Ge := (D, adr a r b r', ty, tl, tm)
