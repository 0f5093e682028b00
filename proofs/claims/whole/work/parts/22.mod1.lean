/-! THE REFERENCE, read by read -/
theorem m_in {σ : St} {a b c : Int} (ha : in64 a) (hb : in64 b) (hc : in64 c) : f_X9_in σ a b c = some (if b ≤ a ∧ a ≤ c then 1 else 0, σ) := by
  unfold f_X9_in
  rw [chk_pos ha, chk_pos hb]
  by_cases h1 : a < b
  · rw [if_pos h1, if_neg (by omega)]
  · rw [if_neg h1, chk_pos hc]
    by_cases h2 : c < a
    · rw [if_pos h2, if_neg (by omega)]
    · rw [if_neg h2, if_pos (by omega)]
theorem m_isTwo {σ : St} {a : Int} (ha : in32 a) : f_X9_isTwo σ a = some (if 0 ≤ a ∧ a ≤ 1 then 1 else 0, σ) := by
  unfold f_X9_isTwo
  rw [chk_pos ha, m_in (by omega) (by omega) (by omega), cll_pos, chk_01]
theorem m_isSheet {σ : St} {a : Int} (ha : in32 a) : f_X9_isSheet σ a = some (if 0 ≤ a ∧ a ≤ 3 then 1 else 0, σ) := by
  unfold f_X9_isSheet
  rw [chk_pos ha, m_in (by omega) (by omega) (by omega), cll_pos, chk_01]
theorem m_isText {σ : St} {a : Int} (ha : in32 a) : f_X9_isText σ a = some (if 0 ≤ a ∧ a ≤ 3 then 1 else 0, σ) := by
  unfold f_X9_isText
  rw [chk_pos ha, m_in (by omega) (by omega) (by omega), cll_pos, chk_01]
theorem m_isSpring {σ : St} {a : Int} (ha : in32 a) : f_X9_isSpring σ a = some (if 0 ≤ a ∧ a ≤ 2 then 1 else 0, σ) := by
  unfold f_X9_isSpring
  rw [chk_pos ha, m_in (by omega) (by omega) (by omega), cll_pos, chk_01]
theorem m_isDay {σ : St} {a : Int} (ha : in32 a) : f_X9_isDay σ a = some (if 0 ≤ a ∧ a ≤ 29 then 1 else 0, σ) := by
  unfold f_X9_isDay
  rw [chk_pos ha, m_in (by omega) (by omega) (by omega), cll_pos, chk_01]
theorem m_met {σ : St} {a : Int} : f_X9_met σ a = some (-10 - a, su σ 58 4 a) := rfl
theorem m_isIn {σ : St} {a k : Nat} (ha : a < 2147483648) (hk : k < 32) : f_X9_isIn σ a k = some (if a.testBit k then 1 else 0, σ) := by
  unfold f_X9_isIn
  rw [bit1 ha hk]
  by_cases q : a.testBit k
  · simp only [q, if_true]; rfl
  · simp only [q]; rfl
theorem m_lesser {σ : St} {a b : Int} (ha : in32 a) (hb : in32 b) : f_X9_lesser σ a b = some (min a b, σ) := by
  unfold f_X9_lesser
  rw [chk_pos ha, chk_pos hb]
  by_cases h : b ≤ a
  · rw [if_pos h, show min a b = b by omega]
  · rw [if_neg h, show min a b = a by omega]
theorem FU_eq : FU = 1000 := rfl
theorem m_faultL {σ : St} (hM : MI (mv σ)) {t : Nat} (ht : t < 4) : ∀ (n i : Nat) (v : Int), v = i → (i : Int) ≤ σ 64 t → (σ 64 t - i).toNat < n → L_X9_faultOf_2 n σ t v = some (fltA (mv σ) t (σ 64 t - i).toNat i, σ)
  | 0, i, v, hv, h1, h2 => by omega
  | n + 1, i, v, hv, h1, h2 => by
    subst hv
    have hr := hM.typ ht
    rw [mv_6] at hr
    rw [L_X9_faultOf_2, S_X9_faultOf_2]
    have e0 : (t : Int).toNat = t := by omega
    rw [e0, chk_pos (by omega), chk_pos (by omega), chk_pos (by omega)]
    by_cases hlt : (i : Int) < σ 64 t
    · have hb := hM.byt (i := 30 * t + i) (by omega)
      rw [mv_5] at hb
      have e : (30 * (t : Int) + (i : Int)).toNat = 30 * t + i := by omega
      obtain ⟨k, hk⟩ : ∃ k, (σ 64 t - i).toNat = k + 1 := ⟨(σ 64 t - i).toNat - 1, by omega⟩
      have ih := m_faultL hM ht n (i + 1) (i + 1) (by omega) (by omega) (by omega)
      rw [if_neg (by omega), chk_pos (by omega), e, chk_pos (by omega), m_in (by omega) (by omega) (by omega), cll_pos, chk_b01, ite_b0, ih, hk, show (σ 64 t - ((i + 1 : Nat) : Int)).toNat = k by omega, fltA, mv_5]
      split <;> rfl
    · rw [if_pos (by omega), show (σ 64 t - (i : Int)).toNat = 0 by omega]
      rfl
theorem m_faultOf {σ : St} (hM : MI (mv σ)) {t : Nat} (ht : t < 4) : f_X9_faultOf σ t = some (flt (mv σ) t, σ) := by
  have hr := hM.typ ht
  rw [mv_6] at hr
  unfold f_X9_faultOf
  rw [m_faultL hM ht FU 0 0 rfl (by omega) (by rw [FU_eq]; omega)]
  unfold flt
  rw [mv_6, show σ 64 t - ((0 : Nat) : Int) = σ 64 t by omega]
theorem m_figures {σ : St} (hM : MI (mv σ)) {t : Nat} (ht : t < 4) : f_X9_figures σ t = some (fig (mv σ) t, σ) := by
  have hr := flt_rng hM ht
  unfold f_X9_figures
  rw [m_faultOf hM ht, cll_pos, chk_pos (by omega)]
  unfold fig
  by_cases q : flt (mv σ) t = -1
  · rw [if_pos q, if_pos q, chk_pos (by omega), mv_6, show (t : Int).toNat = t by omega]
  · rw [if_neg q, if_neg q]
theorem m_yards {σ : St} (hM : MI (mv σ)) : f_X9_yards σ = some (yds (mv σ), σ) := by
  have := m_figures hM (t := 3) (by omega)
  rw [show ((3 : Nat) : Int) = 3 from rfl] at this
  unfold f_X9_yards
  rw [this, cll_pos]
  rfl
theorem m_isYard {σ : St} (hM : MI (mv σ)) {a : Int} (ha : in32 a) : f_X9_isYard σ a = some (if 0 ≤ a ∧ a < yds (mv σ) then 1 else 0, σ) := by
  have hy := yds_rng hM
  unfold f_X9_isYard
  rw [chk_pos ha, m_yards hM, cll_pos, chk_pos (by omega), m_in (by omega) (by omega) (by omega), cll_pos, chk_01]
  by_cases q : 0 ≤ a ∧ a < yds (mv σ)
  · rw [if_pos q, if_pos (by omega)]
  · rw [if_neg q, if_neg (by omega)]
theorem m_heightOf {σ : St} {y : Nat} (hy : y < 30) : f_X9_heightOf σ y = some (hgt (mv σ) y, σ) := by
  unfold f_X9_heightOf
  rw [chk_pos (by omega), show (90 + (y : Int)).toNat = 90 + y by omega]
  rfl
theorem m_levelOf {σ : St} (hM : MI (mv σ)) {s d : Nat} (hs : s < 3) (hd : d < 1000) : f_X9_levelOf σ s d = some (lev (mv σ) s d, σ) := by
  have h1 := fig_rng hM (t := s) (by omega)
  have h2 := hM.typ (t := s) (by omega)
  unfold f_X9_levelOf
  rw [m_figures hM (by omega), cll_pos, chk_pos (by omega), chk_pos (by omega)]
  unfold lev
  by_cases q : (d : Int) < fig (mv σ) s
  · rw [if_neg (by omega), if_pos q, chk_pos (by omega), show (30 * (s : Int) + (d : Int)).toNat = 30 * s + d by omega, mv_5]
  · rw [if_pos (by omega), if_neg q]
theorem m_posL {σ : St} (hM : MI (mv σ)) {s : Nat} (hs : s < 3) : ∀ (n d : Nat) (v : Int), v = d → (d : Int) ≤ σ 65 1 + 1 → (σ 65 1 + 1 - d).toNat < n → L_X9_possessionOf_2 n σ s v = some (posA (mv σ) s (σ 65 1 + 1 - d).toNat d, σ)
  | 0, d, v, hv, h1, h2 => by omega
  | n + 1, d, v, hv, h1, h2 => by
    subst hv
    have hr := hM.set.1
    rw [mv_7, mv_7] at hr
    rw [L_X9_possessionOf_2, S_X9_possessionOf_2, chk_pos (by omega), chk_pos (by omega)]
    by_cases hlt : (d : Int) ≤ σ 65 1
    · have hl := lev_rng (M := mv σ) (s := s) (d := d)
      obtain ⟨k, hk⟩ : ∃ k, (σ 65 1 + 1 - d).toNat = k + 1 := ⟨(σ 65 1 + 1 - d).toNat - 1, by omega⟩
      have ih := m_posL hM hs n (d + 1) (d + 1) (by omega) (by omega) (by omega)
      rw [if_neg (by omega), m_levelOf hM hs (by omega), cll_pos, chk_pos (by omega), chk_pos (by omega), ih, hk, show (σ 65 1 + 1 - ((d + 1 : Nat) : Int)).toNat = k by omega, posA, mv_7]
      by_cases q : σ 65 0 ≤ lev (mv σ) s d
      · rw [if_neg (by omega), if_pos q]
      · rw [if_pos (by omega), if_neg q]
    · rw [if_pos (by omega), show (σ 65 1 + 1 - (d : Int)).toNat = 0 by omega]
      rfl
theorem m_possessionOf {σ : St} (hM : MI (mv σ)) {s : Nat} (hs : s < 3) : f_X9_possessionOf σ s = some (pos (mv σ) s, σ) := by
  have hr := hM.set.1
  rw [mv_7, mv_7] at hr
  unfold f_X9_possessionOf
  rw [m_posL hM hs FU 0 0 rfl (by omega) (by rw [FU_eq]; omega)]
  unfold pos
  rw [mv_7, show σ 65 1 + 1 - ((0 : Nat) : Int) = σ 65 1 + 1 by omega]
theorem m_kepL {σ : St} (hM : MI (mv σ)) {d y : Nat} (hd : d < 30) (hy : y < 30) : ∀ (n k : Nat) (v w : Int), v = k → w = (if kepA (mv σ) d y k then 1 else 0) → (k : Int) ≤ σ 58 9 → (σ 58 9 - k).toNat < n → L_X9_isKept_5 n σ d y w v = some (if kep (mv σ) d y then 1 else 0, σ)
  | 0, k, v, w, hv, hw, h1, h2 => by omega
  | n + 1, k, v, w, hv, hw, h1, h2 => by
    subst hv
    subst hw
    have hr := hM.dks
    rw [mv_09] at hr
    rw [L_X9_isKept_5, S_X9_isKept_5, chk_pos (by omega), chk_pos (by omega)]
    by_cases hlt : (k : Int) < σ 58 9
    · have hk := hM.dik (k := k) hlt
      rw [mv_9 (by omega), mv_9 (by omega), mv_9 (by omega)] at hk
      have ih := fun w hw => m_kepL hM hd hy n (k + 1) (k + 1) w (by omega) hw (by omega) (by omega)
      have e0 : (3 * (k : Int)).toNat = 3 * k := by omega
      have e1 : (3 * (k : Int) + 1).toNat = 3 * k + 1 := by omega
      have e2 : (3 * (k : Int) + 2).toNat = 3 * k + 2 := by omega
      rw [if_neg (by omega), chk_b01, ite_b0]
      by_cases q : kepA (mv σ) d y k
      · rw [if_pos q]
        exact ih 1 (by unfold kepA; rw [q]; rfl)
      · rw [if_neg q, chk_pos (by omega), chk_pos (by omega), e0, chk_pos (by omega), chk_pos (by omega), e1, chk_pos (by omega), m_in (by omega) (by omega) (by omega), cll_pos, chk_b01, ite_b0, chk_pos (by omega), chk_pos (by omega), e2, chk_pos (by omega), chk_pos (by omega), m_in (by omega) (by omega) (by omega), cll_pos, chk_b01, ite_b0]
        have qf : kepA (mv σ) d y k = false := by simpa using q
        have g0 : kepA (mv σ) d y (k + 1) = decide ((σ 67 (3 * k) ≤ y ∧ (y : Int) ≤ σ 67 (3 * k + 1)) ∧ σ 67 (3 * k + 2) ≤ d ∧ (d : Int) ≤ σ 67 (3 * k + 2) + 6) := by
          unfold kepA
          rw [qf, mv_9 (by omega), mv_9 (by omega), mv_9 (by omega)]
          rfl
        by_cases q1 : σ 67 (3 * k) ≤ (y : Int) ∧ (y : Int) ≤ σ 67 (3 * k + 1)
        · rw [if_pos q1]
          by_cases q2 : σ 67 (3 * k + 2) ≤ (d : Int) ∧ (d : Int) ≤ σ 67 (3 * k + 2) + 6
          · rw [if_pos q2]
            exact ih 1 (by rw [g0, decide_eq_true ⟨q1, q2⟩]; rfl)
          · rw [if_neg q2]
            exact ih 0 (by rw [g0, decide_eq_false (fun z => q2 z.2)]; rfl)
        · rw [if_neg q1]
          exact ih 0 (by rw [g0, decide_eq_false (fun z => q1 z.1)]; rfl)
    · rw [if_pos (by omega), chk_01]
      unfold kep
      rw [mv_09, show (σ 58 9).toNat = k by omega]
theorem m_isKept {σ : St} (hM : MI (mv σ)) {d y : Nat} (hd : d < 30) (hy : y < 30) : f_X9_isKept σ d y = some (if kep (mv σ) d y then 1 else 0, σ) := by
  have hr := hM.dks
  rw [mv_09] at hr
  unfold f_X9_isKept
  exact m_kepL hM hd hy FU 0 0 0 rfl rfl (by omega) (by rw [FU_eq]; omega)
theorem m_isWet {σ : St} (hM : MI (mv σ)) {s d y : Nat} (hs : s < 3) (hd : d < 30) (hy : y < 30) : f_X9_isWet σ s d y = some (if wet (mv σ) s d y then 1 else 0, σ) := by
  have hp := pos_rng hM (s := s)
  have hr := hM.set.1
  have hl := lev_rng (M := mv σ) (s := s) (d := d)
  have hb := hM.byt (i := 90 + y) (by omega)
  have hh : hgt (mv σ) y = (mv σ) 5 (90 + y) - 48 := rfl
  unfold f_X9_isWet
  rw [mv_7, mv_7] at hr
  rw [mv_7] at hp
  rw [m_possessionOf hM hs, cll_pos, chk_pos (by omega)]
  unfold wet
  rw [mv_7]
  by_cases q1 : pos (mv σ) s = -1
  · rw [if_pos q1, decide_eq_false (fun z => z.1 q1)]
    rfl
  · rw [if_neg q1, chk_pos (by omega), chk_pos (by omega), m_in (by omega) (by omega) (by omega), cll_pos, chk_b01, ite_b0]
    by_cases q2 : pos (mv σ) s ≤ d ∧ (d : Int) ≤ σ 65 1
    · rw [if_pos q2, m_levelOf hM hs (by omega), cll_pos, m_heightOf hy, cll_pos, chk_pos (by omega), chk_pos (by omega)]
      by_cases q3 : hgt (mv σ) y < lev (mv σ) s d
      · rw [if_neg (by omega), m_isKept hM hd hy, cll_pos, chk_b01, ite_b0, decide_eq_true ⟨q1, q2, q3⟩]
        cases kep (mv σ) d y <;> rfl
      · rw [if_pos (by omega), decide_eq_false (fun z => q3 z.2.2)]
        rfl
    · rw [if_neg q2, decide_eq_false (fun z => q2 z.2.1)]
      rfl
