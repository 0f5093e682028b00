/-! WHAT THE SYSTEM IS, over the view of the reference's cells (what is garbage there is cut away) -/
def mv (σ : St) : St := fun k j => match k with
  | 0 => match j with
    | 4 => σ 58 4
    | 9 => σ 58 9
    | 17 => σ 58 17
    | _ => 0
  | 1 => σ 59 j
  | 2 => σ 60 j
  | 3 => σ 61 j
  | 5 => σ 63 j
  | 6 => σ 64 j
  | 7 => σ 65 j
  | 8 => σ 66 j
  | 9 => if (j : Int) < 3 * σ 58 9 then σ 67 j else 0
  | 11 => σ 69 j
  | 12 => σ 70 j
  | _ => 0
theorem mv_04 {σ : St} : mv σ 0 4 = σ 58 4 := rfl
theorem mv_09 {σ : St} : mv σ 0 9 = σ 58 9 := rfl
theorem mv_0f {σ : St} : mv σ 0 17 = σ 58 17 := rfl
theorem mv_1 {σ : St} {j : Nat} : mv σ 1 j = σ 59 j := rfl
theorem mv_2 {σ : St} {j : Nat} : mv σ 2 j = σ 60 j := rfl
theorem mv_3 {σ : St} {j : Nat} : mv σ 3 j = σ 61 j := rfl
theorem mv_5 {σ : St} {j : Nat} : mv σ 5 j = σ 63 j := rfl
theorem mv_6 {σ : St} {j : Nat} : mv σ 6 j = σ 64 j := rfl
theorem mv_7 {σ : St} {j : Nat} : mv σ 7 j = σ 65 j := rfl
theorem mv_8 {σ : St} {j : Nat} : mv σ 8 j = σ 66 j := rfl
theorem mv_9 {σ : St} {j : Nat} (h : (j : Int) < 3 * σ 58 9) : mv σ 9 j = σ 67 j := if_pos h
theorem mv_11 {σ : St} {j : Nat} : mv σ 11 j = σ 69 j := rfl
theorem mv_12 {σ : St} {j : Nat} : mv σ 12 j = σ 70 j := rfl
/-- the first byte that is no figure -/
def fltA (M : St) (t : Nat) : Nat → Nat → Int
  | 0, _ => -1
  | n + 1, i => if 48 ≤ M 5 (30 * t + i) ∧ M 5 (30 * t + i) ≤ 57 then fltA M t n (i + 1) else (i : Int)
def flt (M : St) (t : Nat) : Int := fltA M t (M 6 t).toNat 0
def fig (M : St) (t : Nat) : Int := if flt M t = -1 then M 6 t else 0
def yds (M : St) : Int := fig M 3
def lev (M : St) (s d : Nat) : Int := if (d : Int) < fig M s then M 5 (30 * s + d) - 48 else 0
def hgt (M : St) (y : Nat) : Int := M 5 (90 + y) - 48
def posA (M : St) (s : Nat) : Nat → Nat → Int
  | 0, _ => -1
  | n + 1, d => if M 7 0 ≤ lev M s d then (d : Int) else posA M s n (d + 1)
def pos (M : St) (s : Nat) : Int := posA M s (M 7 1 + 1).toNat 0
def kepA (M : St) (d y : Nat) : Nat → Bool
  | 0 => false
  | k + 1 => kepA M d y k || decide ((M 9 (3 * k) ≤ y ∧ (y : Int) ≤ M 9 (3 * k + 1)) ∧ M 9 (3 * k + 2) ≤ d ∧ (d : Int) ≤ M 9 (3 * k + 2) + 6)
def kep (M : St) (d y : Nat) : Bool := kepA M d y (M 0 9).toNat
def wet (M : St) (s d y : Nat) : Bool := decide (pos M s ≠ -1 ∧ (pos M s ≤ d ∧ (d : Int) ≤ M 7 1) ∧ hgt M y < lev M s d) && !kep M d y
def wb (M : St) (s d : Nat) : Nat := bts (wet M s d) (yds M).toNat
def isl (M : St) (s d : Nat) : Nat := bts (fun y => decide (1 ≤ y) && (!wet M s d y && (wet M s d (y - 1) && wet M s d (y + 1)))) ((yds M).toNat - 1)
/-- the road's cost from y on over n yards -/
def rdc (P : Nat → Bool) (fe : Int) : Nat → Nat → Bool → Int
  | 0, _, _ => 0
  | n + 1, y, on => (if P y then (if on then 0 else fe) else 1) + rdc P fe n (y + 1) (P y)
def cntA (P : Nat → Bool) : Nat → Int
  | 0 => 0
  | n + 1 => cntA P n + (if P n then 1 else 0)
/-- the ranges -/
def MI (M : St) : Prop :=
  (∀ t, t < 4 → 0 ≤ M 6 t ∧ M 6 t ≤ (rr_tl t : Nat)) ∧
  (∀ i, i < 120 → 0 ≤ M 5 i ∧ M 5 i ≤ 255) ∧
  (∀ j, j < 7 → rr_TL j ≤ M 7 j ∧ M 7 j ≤ rr_TM j) ∧
  (∀ s, s < 3 → 0 ≤ M 8 s ∧ M 8 s ≤ 99) ∧
  (0 ≤ M 0 9 ∧ M 0 9 ≤ 9) ∧
  (∀ k : Nat, (k : Int) < M 0 9 → (0 ≤ M 9 (3 * k) ∧ M 9 (3 * k) ≤ M 9 (3 * k + 1)) ∧ M 9 (3 * k + 1) ≤ 11 ∧ 0 ≤ M 9 (3 * k + 2) ∧ M 9 (3 * k + 2) ≤ 29) ∧
  (∀ k, k < 8 → (M 11 (4 * k) = 0 ∨ M 11 (4 * k) = 1) ∧ (0 ≤ M 11 (4 * k + 1) ∧ M 11 (4 * k + 1) ≤ 29) ∧ (0 ≤ M 11 (4 * k + 2) ∧ M 11 (4 * k + 2) ≤ 99) ∧ 0 ≤ M 11 (4 * k + 3) ∧ M 11 (4 * k + 3) ≤ 99) ∧
  (0 ≤ M 0 17 ∧ M 0 17 ≤ 8) ∧
  (∀ k, k < 8 → (0 ≤ M 12 (3 * k) ∧ M 12 (3 * k) ≤ 29) ∧ (0 ≤ M 12 (3 * k + 1) ∧ M 12 (3 * k + 1) ≤ 11) ∧ (M 12 (3 * k + 2) = 0 ∨ M 12 (3 * k + 2) = 1)) ∧
  (∀ s, s < 4 → (-1 ≤ M 1 s ∧ M 1 s ≤ 2) ∧ 0 ≤ M 2 s ∧ M 2 s ≤ 60) ∧
  (∀ i, i < 240 → in32 (M 3 i)) ∧ (0 ≤ M 0 4 ∧ M 0 4 ≤ 5)
theorem MI.typ {M : St} (h : MI M) {t : Nat} (ht : t < 4) : 0 ≤ M 6 t ∧ M 6 t ≤ 30 ∧ (t = 3 → M 6 t ≤ 12) := by
  have := h.1 t ht
  unfold rr_tl at this
  by_cases e : t = 3
  · rw [if_pos e] at this; omega
  · rw [if_neg e] at this; omega
theorem MI.byt {M : St} (h : MI M) {i : Nat} (hi : i < 120) : 0 ≤ M 5 i ∧ M 5 i ≤ 255 := h.2.1 i hi
theorem MI.set {M : St} (h : MI M) : ((0 ≤ M 7 0 ∧ M 7 0 ≤ 9) ∧ (0 ≤ M 7 1 ∧ M 7 1 ≤ 29)) ∧ (0 ≤ M 7 2 ∧ M 7 2 ≤ 99) ∧ (1 ≤ M 7 3 ∧ M 7 3 ≤ 9) ∧ (0 ≤ M 7 4 ∧ M 7 4 ≤ 99) ∧ (0 ≤ M 7 5 ∧ M 7 5 ≤ 99) ∧ (0 ≤ M 7 6 ∧ M 7 6 ≤ 9) :=
  ⟨⟨h.2.2.1 0 (by omega), h.2.2.1 1 (by omega)⟩, h.2.2.1 2 (by omega), h.2.2.1 3 (by omega), h.2.2.1 4 (by omega), h.2.2.1 5 (by omega), h.2.2.1 6 (by omega)⟩
theorem MI.chc {M : St} (h : MI M) {s : Nat} (hs : s < 3) : 0 ≤ M 8 s ∧ M 8 s ≤ 99 := h.2.2.2.1 s hs
theorem MI.dks {M : St} (h : MI M) : 0 ≤ M 0 9 ∧ M 0 9 ≤ 9 := h.2.2.2.2.1
theorem MI.dik {M : St} (h : MI M) {k : Nat} (hk : (k : Int) < M 0 9) : (0 ≤ M 9 (3 * k) ∧ M 9 (3 * k) ≤ M 9 (3 * k + 1)) ∧ M 9 (3 * k + 1) ≤ 11 ∧ 0 ≤ M 9 (3 * k + 2) ∧ M 9 (3 * k + 2) ≤ 29 := h.2.2.2.2.2.1 k hk
theorem MI.con {M : St} (h : MI M) {k : Nat} (hk : k < 8) : (M 11 (4 * k) = 0 ∨ M 11 (4 * k) = 1) ∧ (0 ≤ M 11 (4 * k + 1) ∧ M 11 (4 * k + 1) ≤ 29) ∧ (0 ≤ M 11 (4 * k + 2) ∧ M 11 (4 * k + 2) ≤ 99) ∧ 0 ≤ M 11 (4 * k + 3) ∧ M 11 (4 * k + 3) ≤ 99 := h.2.2.2.2.2.2.1 k hk
theorem MI.fas {M : St} (h : MI M) : 0 ≤ M 0 17 ∧ M 0 17 ≤ 8 := h.2.2.2.2.2.2.2.1
theorem MI.fac {M : St} (h : MI M) {k : Nat} (hk : k < 8) : (0 ≤ M 12 (3 * k) ∧ M 12 (3 * k) ≤ 29) ∧ (0 ≤ M 12 (3 * k + 1) ∧ M 12 (3 * k + 1) ≤ 11) ∧ (M 12 (3 * k + 2) = 0 ∨ M 12 (3 * k + 2) = 1) := h.2.2.2.2.2.2.2.2.1 k hk
theorem MI.she {M : St} (h : MI M) {s : Nat} (hs : s < 4) : (-1 ≤ M 1 s ∧ M 1 s ≤ 2) ∧ 0 ≤ M 2 s ∧ M 2 s ≤ 60 := h.2.2.2.2.2.2.2.2.2.1 s hs
theorem MI.itm {M : St} (h : MI M) {i : Nat} (hi : i < 240) : in32 (M 3 i) := h.2.2.2.2.2.2.2.2.2.2.1 i hi
theorem MI.lat {M : St} (h : MI M) : 0 ≤ M 0 4 ∧ M 0 4 ≤ 5 := h.2.2.2.2.2.2.2.2.2.2.2
/-- ranges of what follows -/
theorem fltA_rng (M : St) (t : Nat) : ∀ n i, fltA M t n i = -1 ∨ ((i : Int) ≤ fltA M t n i ∧ fltA M t n i < i + n)
  | 0, i => Or.inl rfl
  | n + 1, i => by
    unfold fltA
    split
    · rcases fltA_rng M t n (i + 1) with h | h
      · exact Or.inl h
      · right; omega
    · right; omega
theorem flt_rng {M : St} (h : MI M) {t : Nat} (ht : t < 4) : -1 ≤ flt M t ∧ flt M t ≤ 30 := by
  have h1 := h.typ ht
  have h2 := fltA_rng M t (M 6 t).toNat 0
  unfold flt
  omega
theorem fig_rng {M : St} (h : MI M) {t : Nat} (ht : t < 4) : 0 ≤ fig M t ∧ fig M t ≤ M 6 t := by
  have h1 := h.typ ht
  unfold fig
  split <;> omega
theorem yds_rng {M : St} (h : MI M) : 0 ≤ yds M ∧ yds M ≤ 12 := by
  have h1 := h.typ (t := 3) (by omega)
  have h2 := fig_rng h (t := 3) (by omega)
  unfold yds
  omega
theorem fltA_dig (M : St) (t : Nat) : ∀ n i, fltA M t n i = -1 → ∀ j, i ≤ j → j < i + n → 48 ≤ M 5 (30 * t + j) ∧ M 5 (30 * t + j) ≤ 57
  | 0, i, _, j, h1, h2 => by omega
  | n + 1, i, h, j, h1, h2 => by
    unfold fltA at h
    by_cases q : 48 ≤ M 5 (30 * t + i) ∧ M 5 (30 * t + i) ≤ 57
    · rw [if_pos q] at h
      by_cases e : j = i
      · rw [e]; exact q
      · exact fltA_dig M t n (i + 1) h j (by omega) (by omega)
    · rw [if_neg q] at h
      omega
theorem fig_dig {M : St} {t j : Nat} (h : (j : Int) < fig M t) : 48 ≤ M 5 (30 * t + j) ∧ M 5 (30 * t + j) ≤ 57 := by
  unfold fig at h
  by_cases q : flt M t = -1
  · rw [if_pos q] at h
    exact fltA_dig M t _ 0 q j (by omega) (by omega)
  · rw [if_neg q] at h
    omega
theorem lev_rng {M : St} {s d : Nat} : 0 ≤ lev M s d ∧ lev M s d ≤ 9 := by
  unfold lev
  split
  · have := fig_dig (M := M) (t := s) (j := d) (by assumption)
    omega
  · omega
theorem hgt_rng {M : St} {y : Nat} (h : (y : Int) < yds M) : 0 ≤ hgt M y ∧ hgt M y ≤ 9 := by
  have := fig_dig (M := M) (t := 3) (j := y) h
  unfold hgt
  rw [show 90 + y = 30 * 3 + y from rfl]
  omega
theorem posA_rng (M : St) (s : Nat) : ∀ n d, posA M s n d = -1 ∨ ((d : Int) ≤ posA M s n d ∧ posA M s n d < d + n)
  | 0, _ => Or.inl rfl
  | n + 1, d => by
    unfold posA
    split
    · right; omega
    · rcases posA_rng M s n (d + 1) with h | h
      · exact Or.inl h
      · right; omega
theorem pos_rng {M : St} (h : MI M) {s : Nat} : pos M s = -1 ∨ (0 ≤ pos M s ∧ pos M s ≤ M 7 1) := by
  have h1 := h.set.1.2
  have h2 := posA_rng M s (M 7 1 + 1).toNat 0
  unfold pos
  omega
theorem wb_lt {M : St} (h : MI M) {s d : Nat} : wb M s d < 4096 := bts_small _ (by have := yds_rng h; omega)
theorem isl_lt {M : St} (h : MI M) {s d : Nat} : isl M s d < 4096 := bts_small _ (by have := yds_rng h; omega)
theorem wb_bit {M : St} {s d y : Nat} : (wb M s d).testBit y = (decide (y < (yds M).toNat) && wet M s d y) := bts_bit _ _ _
