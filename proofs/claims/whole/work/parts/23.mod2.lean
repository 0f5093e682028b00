/-! THE REFERENCE: water, cost, closed, deed -/
theorem m_waterL2 {σ : St} (hM : MI (mv σ)) {s d : Nat} : ∀ (n y : Nat) (v acc : Int), v = y → 1 ≤ y → (y = 1 ∨ y ≤ (yds (mv σ)).toNat - 1) → acc = (bts (fun y => decide (1 ≤ y) && (!wet (mv σ) s d y && (wet (mv σ) s d (y - 1) && wet (mv σ) s d (y + 1)))) y : Nat) → 14 - y < n → L_X9_waterOf_58 n σ (wb (mv σ) s d : Nat) acc v = some (((isl (mv σ) s d : Nat) : Int), σ)
  | 0, y, v, acc, hv, h1, h2, ha, h3 => by omega
  | n + 1, y, v, acc, hv, h1, h2, ha, h3 => by
    subst hv
    subst ha
    have hy := yds_rng hM
    have hw := wb_lt hM (s := s) (d := d)
    rw [L_X9_waterOf_58, S_X9_waterOf_58, m_yards hM, cll_pos, chk_pos (by omega), chk_pos (by omega)]
    by_cases q : yds (mv σ) - 1 ≤ y
    · rw [if_pos q]
      unfold isl
      rcases h2 with h2 | h2
      · subst h2
        by_cases z : (yds (mv σ)).toNat - 1 = 1
        · rw [z]
        · rw [show (yds (mv σ)).toNat - 1 = 0 by omega]
          simp [bts]
      · rw [show (yds (mv σ)).toNat - 1 = y by omega]
    · have ih := fun acc ha => m_waterL2 hM (s := s) (d := d) n (y + 1) (y + 1) acc (by omega) (by omega) (by omega) ha (by omega)
      have o := or_bit (P := fun y => decide (1 ≤ y) && (!wet (mv σ) s d y && (wet (mv σ) s d (y - 1) && wet (mv σ) s d (y + 1)))) (n := y) (by omega)
      have b0 : (wb (mv σ) s d).testBit y = wet (mv σ) s d y := by rw [wb_bit, decide_eq_true (by omega), Bool.true_and]
      have b1 : (wb (mv σ) s d).testBit (y - 1) = wet (mv σ) s d (y - 1) := by rw [wb_bit, decide_eq_true (by omega), Bool.true_and]
      have b2 : (wb (mv σ) s d).testBit (y + 1) = wet (mv σ) s d (y + 1) := by rw [wb_bit, decide_eq_true (by omega), Bool.true_and]
      have i0 := m_isIn (σ := σ) (a := wb (mv σ) s d) (k := y) (by omega) (by omega)
      have i1 := m_isIn (σ := σ) (a := wb (mv σ) s d) (k := y - 1) (by omega) (by omega)
      have i2 := m_isIn (σ := σ) (a := wb (mv σ) s d) (k := y + 1) (by omega) (by omega)
      rw [b0] at i0
      rw [b1, show ((y - 1 : Nat) : Int) = (y : Int) - 1 by omega] at i1
      rw [b2, show ((y + 1 : Nat) : Int) = (y : Int) + 1 by omega] at i2
      rw [if_neg q, i0, cll_pos, chk_b01, ite_b0, i1, cll_pos, chk_b01, ite_b0, i2, cll_pos, chk_b01, ite_b0]
      simp only [decide_eq_true h1, Bool.true_and] at o
      cases g0 : wet (mv σ) s d y <;> cases g1 : wet (mv σ) s d (y - 1) <;> cases g2 : wet (mv σ) s d (y + 1) <;> simp only [g0, g1, g2] at o <;> exact ih _ o
theorem m_waterL1 {σ : St} (hM : MI (mv σ)) {s d : Nat} (hs : s < 3) (hd : d < 30) {w : Int} (hw : in32 w) : ∀ (n y : Nat) (v acc : Int), v = y → y ≤ (yds (mv σ)).toNat → acc = (bts (wet (mv σ) s d) y : Nat) → 14 - y < n → L_X9_waterOf_6 n σ s d w acc v = if w = 0 then some (((wb (mv σ) s d : Nat) : Int), σ) else some (((isl (mv σ) s d : Nat) : Int), σ)
  | 0, y, v, acc, hv, h1, ha, h3 => by omega
  | n + 1, y, v, acc, hv, h1, ha, h3 => by
    subst hv
    subst ha
    have hy := yds_rng hM
    rw [L_X9_waterOf_6, S_X9_waterOf_6, m_yards hM, cll_pos, chk_pos (by omega), chk_pos (by omega)]
    by_cases q : yds (mv σ) ≤ y
    · rw [if_pos q, chk_pos hw, show y = (yds (mv σ)).toNat by omega]
      rw [show bts (wet (mv σ) s d) (yds (mv σ)).toNat = wb (mv σ) s d from rfl, m_waterL2 hM (s := s) (d := d) FU 1 1 0 rfl (by omega) (Or.inl rfl) (by simp [bts]) (by rw [FU_eq]; omega)]
    · have ih := fun acc ha => m_waterL1 hM hs hd hw n (y + 1) (y + 1) acc (by omega) (by omega) ha (by omega)
      have o := or_bit (P := wet (mv σ) s d) (n := y) (by omega)
      rw [if_neg q, m_isWet hM hs hd (by omega), cll_pos, chk_b01, ite_b0]
      by_cases g : wet (mv σ) s d y
      · rw [if_pos g] at o ⊢
        exact ih _ o
      · rw [if_neg g] at o ⊢
        exact ih _ o
theorem m_waterOf {σ : St} (hM : MI (mv σ)) {s d : Nat} (hs : s < 3) (hd : d < 30) {w : Int} (hw : in32 w) : f_X9_waterOf σ s d w = if w = 0 then some (((wb (mv σ) s d : Nat) : Int), σ) else some (((isl (mv σ) s d : Nat) : Int), σ) := by
  unfold f_X9_waterOf
  exact m_waterL1 hM hs hd hw FU 0 0 0 rfl (by omega) rfl (by rw [FU_eq]; omega)
theorem m_water0 {σ : St} (hM : MI (mv σ)) {s d : Nat} (hs : s < 3) (hd : d < 30) : f_X9_waterOf σ s d 0 = some (((wb (mv σ) s d : Nat) : Int), σ) := by
  rw [m_waterOf hM hs hd (by decide)]
  rfl
theorem rdc_rng {P : Nat → Bool} {fe : Int} (h : 0 ≤ fe ∧ fe ≤ 99) : ∀ n y on, 0 ≤ rdc P fe n y on ∧ rdc P fe n y on ≤ 99 * n
  | 0, y, on => by simp [rdc]
  | n + 1, y, on => by
    have ih := rdc_rng (P := P) h n (y + 1) (P y)
    unfold rdc
    split
    · split <;> omega
    · omega
def rod (M : St) (s d a b : Nat) : Int := rdc (fun y => (wb M s d).testBit y) (M 7 2) (b + 1 - a) a false
def rdg (M : St) (a b : Nat) : Int := M 7 3 * (((b : Int) - a) + 1)
theorem rod_rng {M : St} (hM : MI M) {s d a b : Nat} (hb : b < 12) : 0 ≤ rod M s d a b ∧ rod M s d a b ≤ 1188 := by
  have := rdc_rng (P := fun y => (wb M s d).testBit y) hM.set.2.1 (b + 1 - a) a false
  unfold rod
  omega
theorem rdg_rng {M : St} (hM : MI M) {a b : Nat} (hab : a ≤ b) (hb : b < 12) : 0 ≤ rdg M a b ∧ rdg M a b ≤ 108 := by
  have h := hM.set.2.2.1
  unfold rdg
  have h1 : 0 ≤ ((b : Int) - a) + 1 := by omega
  have h2 : ((b : Int) - a) + 1 ≤ 12 := by omega
  generalize ((b : Int) - a) + 1 = z at h1 h2
  constructor
  · exact Int.mul_nonneg (by omega) h1
  · calc M 7 3 * z ≤ 9 * z := Int.mul_le_mul_of_nonneg_right h.2 h1
      _ ≤ 108 := by omega
def cst (M : St) (s d a b : Nat) : Int := min (rod M s d a b) (rdg M a b)
theorem cst_rng {M : St} (hM : MI M) {s d a b : Nat} (hab : a ≤ b) (hb : b < 12) : 0 ≤ cst M s d a b ∧ cst M s d a b ≤ 108 := by
  have h1 := rod_rng hM (s := s) (d := d) (a := a) hb
  have h2 := rdg_rng hM hab hb
  unfold cst
  omega
def csw (M : St) (s d a b : Nat) (w : Int) : Int := if w = 0 then cst M s d a b else if w = 1 then rod M s d a b else rdg M a b
theorem m_costL {σ : St} (hM : MI (mv σ)) {s d a b : Nat} (hab : a ≤ b) (hb : b < 12) {w : Int} (hw : in32 w) : ∀ (n y : Nat) (v acc : Int), v = y → a ≤ y → y ≤ b + 1 → 0 ≤ acc → acc + rdc (fun y => (wb (mv σ) s d).testBit y) (σ 65 2) (b + 1 - y) y (decide (y ≠ a) && (wb (mv σ) s d).testBit (y - 1)) = rod (mv σ) s d a b → 14 - y < n → L_X9_costOf_33 n σ w a b (wb (mv σ) s d : Nat) acc v = some (csw (mv σ) s d a b w, σ)
  | 0, y, v, acc, hv, h1, h2, h0, ha, h3 => by omega
  | n + 1, y, v, acc, hv, h1, h2, h0, ha, h3 => by
    subst hv
    have hwb := wb_lt hM (s := s) (d := d)
    have hro := rod_rng hM (s := s) (d := d) (a := a) hb
    have hrg := rdg_rng hM hab hb
    have hse := hM.set.2
    rw [mv_7, mv_7] at hse
    rw [L_X9_costOf_33, S_X9_costOf_33, chk_pos (by omega), chk_pos (by omega)]
    by_cases q : (b : Int) < y
    · rw [show b + 1 - y = 0 by omega] at ha
      have e1 : acc = rod (mv σ) s d a b := by simpa [rdc] using ha
      have e2 : σ 65 3 * (((b : Int) - a) + 1) = rdg (mv σ) a b := rfl
      rw [if_pos q, chk_pos hw, e2, e1, m_lesser (by omega) (by omega), cll_pos]
      unfold csw cst
      split
      · rfl
      · split <;> rfl
    · obtain ⟨k, hk⟩ : ∃ k, b + 1 - y = k + 1 := ⟨b - y, by omega⟩
      rw [hk, rdc] at ha
      have hrr := rdc_rng (P := fun y => (wb (mv σ) s d).testBit y) (fe := σ 65 2) (by omega) k (y + 1) ((wb (mv σ) s d).testBit y)
      have ih : ∀ acc : Int, 0 ≤ acc → acc + rdc (fun y => (wb (mv σ) s d).testBit y) (σ 65 2) k (y + 1) ((wb (mv σ) s d).testBit y) = rod (mv σ) s d a b → L_X9_costOf_33 n σ w a b (wb (mv σ) s d : Nat) acc (y + 1) = some (csw (mv σ) s d a b w, σ) := fun acc h0 ha => m_costL hM (s := s) (d := d) hab hb hw n (y + 1) (y + 1) acc (by omega) (by omega) (by omega) h0 (by rw [show b + 1 - (y + 1) = k by omega, decide_eq_true (show y + 1 ≠ a by omega), Bool.true_and]; exact ha) (by omega)
      have i0 := m_isIn (σ := σ) (a := wb (mv σ) s d) (k := y) (by omega) (by omega)
      rw [if_neg q, i0, cll_pos, chk_b01, ite_b0]
      by_cases g : (wb (mv σ) s d).testBit y
      · simp only [g, if_true] at ha ih i0 ⊢
        rw [chk_pos (by omega)]
        by_cases e : (y : Int) = a
        · rw [if_pos e, B_X9_costOf_74, i0, cll_pos, chk_pos (by decide), if_neg (by decide), chk_pos (by decide), if_neg (by decide)]
          rw [decide_eq_false (show ¬ y ≠ a by omega), Bool.false_and] at ha
          exact ih _ (by omega) (by rw [← ha]; simp; omega)
        · have i1 := m_isIn (σ := σ) (a := wb (mv σ) s d) (k := y - 1) (by omega) (by omega)
          rw [show ((y - 1 : Nat) : Int) = (y : Int) - 1 by omega] at i1
          rw [if_neg e, i1, cll_pos, chk_b01, ite_b0]
          rw [decide_eq_true (show y ≠ a by omega), Bool.true_and] at ha
          by_cases g1 : (wb (mv σ) s d).testBit (y - 1)
          · simp only [g1, if_true] at ha ⊢
            rw [B_X9_costOf_74, i0, cll_pos, chk_pos (by decide), if_neg (by decide), chk_pos (by decide), if_pos (by decide)]
            exact ih _ (by omega) (by rw [← ha]; omega)
          · simp only [g1] at ha ⊢
            rw [if_neg (by decide), B_X9_costOf_74, i0, cll_pos, chk_pos (by decide), if_neg (by decide), chk_pos (by decide), if_neg (by decide)]
            exact ih _ (by omega) (by rw [← ha]; simp; omega)
      · have gf : (wb (mv σ) s d).testBit y = false := by simpa using g
        rw [if_neg g, B_X9_costOf_74, i0, gf, cll_pos, chk_pos (by decide), if_pos (by decide)]
        simp only [gf] at ha ih
        exact ih _ (by omega) (by rw [← ha]; simp; omega)
theorem m_costOf {σ : St} (hM : MI (mv σ)) {s d a b : Nat} (hs : s < 3) (hd : d < 30) (ha : a < 12) (hb : b < 12) {w : Int} (hw : in32 w) : f_X9_costOf σ s d a b w = some (csw (mv σ) s d (min a b) (max a b) w, σ) := by
  unfold f_X9_costOf
  rw [m_lesser (by omega) (by omega), cll_pos, m_water0 hM hs hd, cll_pos]
  have e1 : min (a : Int) (b : Int) = ((min a b : Nat) : Int) := by omega
  have e2 : ((a : Int) + (b : Int)) - ((min a b : Nat) : Int) = ((max a b : Nat) : Int) := by omega
  rw [e1, e2]
  refine m_costL hM (by omega) (by omega) hw FU (min a b) _ 0 rfl (by omega) (by omega) (by omega) ?_ (by rw [FU_eq]; omega)
  rw [decide_eq_false (show ¬ min a b ≠ min a b from fun h => h rfl), Bool.false_and, Int.zero_add]
  rfl
def clo (M : St) (s y : Nat) : Int := cntA (fun d => wet M s d y) 30
theorem cntA_rng (P : Nat → Bool) : ∀ n, 0 ≤ cntA P n ∧ cntA P n ≤ n
  | 0 => by simp [cntA]
  | n + 1 => by
    have ih := cntA_rng P n
    unfold cntA
    split <;> omega
theorem m_closedL {σ : St} (hM : MI (mv σ)) {s y : Nat} (hs : s < 3) (hy : y < 12) : ∀ (n d : Nat) (v acc : Int), v = d → d ≤ 30 → acc = cntA (fun d => wet (mv σ) s d y) d → 30 - d < n → L_X9_closedOf_5 n σ s y acc v = some (clo (mv σ) s y, σ)
  | 0, d, v, acc, hv, h1, ha, h3 => by omega
  | n + 1, d, v, acc, hv, h1, ha, h3 => by
    subst hv
    subst ha
    rw [L_X9_closedOf_5, S_X9_closedOf_5, chk_pos (by omega)]
    by_cases q : 30 ≤ (d : Int)
    · rw [if_pos q, show d = 30 by omega]
      rfl
    · have ih := fun acc ha => m_closedL hM hs hy n (d + 1) (d + 1) acc (by omega) (by omega) ha (by omega)
      rw [if_neg q, m_isWet hM hs (by omega) (by omega), cll_pos, chk_b01, ite_b0]
      by_cases g : wet (mv σ) s d y
      · rw [if_pos g]
        exact ih _ (by simp [cntA, g])
      · rw [if_neg g]
        exact ih _ (by simp [cntA, g])
theorem m_closedOf {σ : St} (hM : MI (mv σ)) {s y : Nat} (hs : s < 3) (hy : y < 12) : f_X9_closedOf σ s y = some (clo (mv σ) s y, σ) := by
  unfold f_X9_closedOf
  exact m_closedL hM hs hy FU 0 0 0 rfl (by omega) rfl (by rw [FU_eq]; omega)
theorem clo_rng {M : St} {s y : Nat} : 0 ≤ clo M s y ∧ clo M s y ≤ 30 := cntA_rng _ 30
def grv (M : St) (s : Nat) : Nat → Int
  | 0 => 0
  | n + 1 => grv M s n + cntA (wet M s n) (yds M).toNat
def wdy (M : St) (s : Nat) : Nat → Int
  | 0 => 0
  | n + 1 => wdy M s n + (if wb M s n = 0 then 0 else 1)
def dee (M : St) (s : Nat) (w : Int) : Int := if w = 0 then grv M s 30 else if w = 1 then wdy M s 30 else M 7 4 * grv M s 30 - M 7 5 * wdy M s 30
theorem m_deedL2 {σ : St} (hM : MI (mv σ)) {s d : Nat} {rec8 : St → Int → Int → Int → Int → Int → Option Rt} {v1 v2 v4 v5 g : Int} : ∀ (n y : Nat) (v acc : Int), v = y → y ≤ (yds (mv σ)).toNat → acc = g + cntA (wet (mv σ) s d) y → 14 - y < n → L_X9_deedOf_28 rec8 n σ v1 v2 acc v4 v5 (wb (mv σ) s d : Nat) v = rec8 σ v1 v2 (g + cntA (wet (mv σ) s d) (yds (mv σ)).toNat) (v4 + (if wb (mv σ) s d = 0 then 0 else 1)) (v5 + 1)
  | 0, y, v, acc, hv, h1, ha, h3 => by omega
  | n + 1, y, v, acc, hv, h1, ha, h3 => by
    subst hv
    subst ha
    have hy := yds_rng hM
    have hw := wb_lt hM (s := s) (d := d)
    rw [L_X9_deedOf_28, S_X9_deedOf_28, m_yards hM, cll_pos, chk_pos (by omega), chk_pos (by omega)]
    by_cases q : yds (mv σ) ≤ y
    · rw [if_pos q, chk_pos (by omega), show y = (yds (mv σ)).toNat by omega]
      by_cases z : wb (mv σ) s d = 0
      · rw [if_pos (by omega), if_pos z]
      · rw [if_neg (by omega), if_neg z]
    · rw [if_neg q, bit1 (by omega) (by omega), wb_bit, decide_eq_true (show y < (yds (mv σ)).toNat by omega), Bool.true_and]
      exact m_deedL2 hM (s := s) (d := d) n (y + 1) (y + 1) _ (by omega) (by omega) (by rw [cntA]; omega) (by omega)
theorem m_deedL1 {σ : St} (hM : MI (mv σ)) {s : Nat} (hs : s < 3) {w : Int} (hw : in32 w) : ∀ (n d : Nat) (v a1 a2 : Int), v = d → d ≤ 30 → a1 = grv (mv σ) s d → a2 = wdy (mv σ) s d → 30 - d < n → L_X9_deedOf_8 n σ s w a1 a2 v = some (dee (mv σ) s w, σ)
  | 0, d, v, a1, a2, hv, h1, ha, hb, h3 => by omega
  | n + 1, d, v, a1, a2, hv, h1, ha, hb, h3 => by
    subst hv
    subst ha
    subst hb
    rw [L_X9_deedOf_8, S_X9_deedOf_8, chk_pos (by omega)]
    by_cases q : 30 ≤ (d : Int)
    · rw [if_pos q, chk_pos hw, show d = 30 by omega]
      unfold dee
      rw [mv_7, mv_7]
      split
      · rfl
      · split <;> rfl
    · rw [if_neg q, m_water0 hM hs (by omega), cll_pos, m_deedL2 hM (s := s) (d := d) (g := grv (mv σ) s d) FU 0 0 _ rfl (by omega) (by simp [cntA]) (by rw [FU_eq]; omega)]
      exact m_deedL1 hM hs hw n (d + 1) (d + 1) _ _ (by omega) (by omega) rfl rfl (by omega)
theorem m_deedOf {σ : St} (hM : MI (mv σ)) {s : Nat} (hs : s < 3) {w : Int} (hw : in32 w) : f_X9_deedOf σ s w = some (dee (mv σ) s w, σ) := by
  unfold f_X9_deedOf
  exact m_deedL1 hM hs hw FU 0 0 0 0 rfl (by omega) rfl rfl (by rw [FU_eq]; omega)
