/-! BOTH SIDES: dikes by a sheet -/
/-- the m-th dike that a sheet tells, and whether it may be -/
def rI (M : St) (s i : Nat) : Int := M 3 (60 * s + i)
def rdN (M : St) (s n0 : Nat) : Nat → Nat → Nat
  | 0, m => m
  | r + 1, m => if (3 * (m : Int) + 3 ≤ M 2 s ∧ n0 + m < 8) ∧ (((0 ≤ rI M s (3 * m) ∧ rI M s (3 * m) ≤ 11) ∧ (rI M s (3 * m) ≤ rI M s (3 * m + 1) ∧ rI M s (3 * m + 1) ≤ 11)) ∧ 0 ≤ rI M s (3 * m + 2) ∧ rI M s (3 * m + 2) ≤ 29) then rdN M s n0 r (m + 1) else m
theorem rdN_ok (M : St) (s n0 : Nat) : ∀ r m, n0 + m ≤ 8 → m ≤ rdN M s n0 r m ∧ n0 + rdN M s n0 r m ≤ 8 ∧ ∀ j, m ≤ j → j < rdN M s n0 r m → (((0 ≤ rI M s (3 * j) ∧ rI M s (3 * j) ≤ 11) ∧ (rI M s (3 * j) ≤ rI M s (3 * j + 1) ∧ rI M s (3 * j + 1) ≤ 11)) ∧ 0 ≤ rI M s (3 * j + 2) ∧ rI M s (3 * j + 2) ≤ 29)
  | 0, m, h => ⟨Nat.le_refl _, h, fun j h1 h2 => by unfold rdN at h2; omega⟩
  | r + 1, m, h => by
    unfold rdN
    split
    · rename_i q
      obtain ⟨a1, a2, a3⟩ := rdN_ok M s n0 r (m + 1) (by omega)
      refine ⟨by omega, a2, fun j h1 h2 => ?_⟩
      by_cases e : j = m
      · rw [e]; exact q.2
      · exact a3 j (by omega) h2
    · exact ⟨Nat.le_refl _, h, fun j h1 h2 => by omega⟩
theorem v_item {σ : St} {q i : Nat} {n : Int} (hs : σ (50 + q) 2 = n) (hn : 0 ≤ n ∧ n ≤ 60) (hi : (i : Int) < n) : f_X4_item q σ i = some (σ (54 + q) i, σ) := by
  unfold f_X4_item
  rw [hs, v_inside (by omega) (by omega), cll_pos, chk_b01, ite_b0, if_pos (by omega), v_inside (by omega) (by decide), cll_pos, chk_b01, ite_b0, if_pos (by omega), chk_pos (by omega), show (i : Int).toNat = i by omega]
def AP (M σ σ0 : St) (s n0 m : Nat) : Prop := (∀ k, k ≠ 12 → k ≠ 13 → k ≠ 14 → k ≠ 15 → σ k = σ0 k) ∧ σ 12 3 = ((n0 + m : Nat) : Int) ∧ (∀ i, i < n0 → σ 13 i = σ0 13 i ∧ σ 14 i = σ0 14 i ∧ σ 15 i = σ0 15 i) ∧ (∀ j, j < m → σ 13 (n0 + j) = rI M s (3 * j) ∧ σ 14 (n0 + j) = rI M s (3 * j + 1) ∧ σ 15 (n0 + j) = rI M s (3 * j + 2))
theorem AP.step {M σ σ0 : St} {s n0 m : Nat} (h : AP M σ σ0 s n0 m) : AP M (cBl σ (n0 + m) (rI M s (3 * m)) (rI M s (3 * m + 1)) (rI M s (3 * m + 2))) σ0 s n0 (m + 1) := by
  have r13 : ∀ j, cBl σ (n0 + m) (rI M s (3 * m)) (rI M s (3 * m + 1)) (rI M s (3 * m + 2)) 13 j = if j = n0 + m then rI M s (3 * m) else σ 13 j := fun j => by
    unfold cBl
    rw [su_ne 13 (by decide), su_ne 13 (by decide), su_ne 13 (by decide), su_eq]
  have r14 : ∀ j, cBl σ (n0 + m) (rI M s (3 * m)) (rI M s (3 * m + 1)) (rI M s (3 * m + 2)) 14 j = if j = n0 + m then rI M s (3 * m + 1) else σ 14 j := fun j => by
    unfold cBl
    rw [su_ne 14 (by decide), su_ne 14 (by decide), su_eq, su_ne 14 (by decide)]
  have r15 : ∀ j, cBl σ (n0 + m) (rI M s (3 * m)) (rI M s (3 * m + 1)) (rI M s (3 * m + 2)) 15 j = if j = n0 + m then rI M s (3 * m + 2) else σ 15 j := fun j => by
    unfold cBl
    rw [su_ne 15 (by decide), su_eq, su_ne 15 (by decide), su_ne 15 (by decide)]
  refine ⟨fun k a1 a2 a3 a4 => ?_, ?_, fun i hi => ?_, fun j hj => ?_⟩
  · unfold cBl
    rw [su_ne k a1, su_ne k a4, su_ne k a3, su_ne k a2]
    exact h.1 k a1 a2 a3 a4
  · unfold cBl
    rw [su_eq, if_pos rfl]
    omega
  · rw [r13, r14, r15, if_neg (by omega), if_neg (by omega), if_neg (by omega)]
    exact h.2.2.1 i hi
  · rw [r13, r14, r15]
    by_cases e : j = m
    · subst e
      rw [if_pos rfl, if_pos rfl, if_pos rfl]
      exact ⟨rfl, rfl, rfl⟩
    · rw [if_neg (by omega), if_neg (by omega), if_neg (by omega)]
      exact h.2.2.2 j (by omega)
theorem v_readL {M σ0 : St} (hM : MI M) {s n0 : Nat} {sz : Int} (hsz : σ0 (50 + s) 2 = sz) (hs4 : s < 4) (h2 : M 2 s = sz) (hit : ∀ i : Nat, (i : Int) < sz → σ0 (54 + s) i = rI M s i) (hi32 : ∀ i, i < 60 → in32 (rI M s i)) : ∀ (n m : Nat) (σ : St) (v w : Int), AP M σ σ0 s n0 m → v = m → w = 3 * (m : Int) → n0 + m ≤ 8 → 9 - (n0 + m) < n → ∃ σ', L_X1_buildFrom_4 s n σ v w = some (((rdN M s n0 (n - 1) m : Nat) : Int), σ') ∧ AP M σ' σ0 s n0 (rdN M s n0 (n - 1) m)
  | 0, m, σ, v, w, hA, hv, hw, hm, hn => by omega
  | n + 1, m, σ, v, w, hA, hv, hw, hm, hn => by
    subst hv
    subst hw
    have hr := hM.she hs4
    rw [h2] at hr
    have es : σ (50 + s) 2 = sz := by rw [hA.1 (50 + s) (by omega) (by omega) (by omega) (by omega)]; exact hsz
    obtain ⟨r, hrn⟩ : ∃ r, n = r + 1 := ⟨n - 1, by omega⟩
    rw [L_X1_buildFrom_4, S_X1_buildFrom_4, es, chk_pos (by omega), chk_pos (by omega), show n + 1 - 1 = n from rfl]
    have un : rdN M s n0 n m = if (3 * (m : Int) + 3 ≤ M 2 s ∧ n0 + m < 8) ∧ (((0 ≤ rI M s (3 * m) ∧ rI M s (3 * m) ≤ 11) ∧ (rI M s (3 * m) ≤ rI M s (3 * m + 1) ∧ rI M s (3 * m + 1) ≤ 11)) ∧ 0 ≤ rI M s (3 * m + 2) ∧ rI M s (3 * m + 2) ≤ 29) then rdN M s n0 r (m + 1) else m := by rw [hrn, rdN]
    by_cases q : sz ≤ 3 * (m : Int) + 2
    · rw [if_pos q, un, if_neg (by rw [h2]; omega)]
      exact ⟨σ, rfl, hA⟩
    · have i0 := v_item (σ := σ) (q := s) (i := 3 * m) es hr.2 (by omega)
      have i1 := v_item (σ := σ) (q := s) (i := 3 * m + 1) es hr.2 (by omega)
      have i2 := v_item (σ := σ) (q := s) (i := 3 * m + 2) es hr.2 (by omega)
      have ec : σ (54 + s) = σ0 (54 + s) := hA.1 (54 + s) (by omega) (by omega) (by omega) (by omega)
      rw [ec, hit _ (by omega)] at i0 i1 i2
      rw [show ((3 * m : Nat) : Int) = 3 * (m : Int) by omega] at i0
      rw [show ((3 * m + 1 : Nat) : Int) = 3 * (m : Int) + 1 by omega] at i1
      rw [show ((3 * m + 2 : Nat) : Int) = 3 * (m : Int) + 2 by omega] at i2
      have g0 := hi32 (3 * m) (by omega)
      have g1 := hi32 (3 * m + 1) (by omega)
      have g2 := hi32 (3 * m + 2) (by omega)
      rw [if_neg q, i0, cll_pos, i1, cll_pos, i2, cll_pos]
      unfold f_X1_isFull
      rw [hA.2.1, chk_pos (by omega)]
      by_cases z : ((n0 + m : Nat) : Int) < 8
      · rw [if_pos z, cll_pos, chk_pos (by decide), if_pos rfl, v_mayBe g0 g1 g2, cll_pos, chk_b01, ite_b0]
        by_cases y : ((0 ≤ rI M s (3 * m) ∧ rI M s (3 * m) ≤ 11) ∧ (rI M s (3 * m) ≤ rI M s (3 * m + 1) ∧ rI M s (3 * m + 1) ≤ 11)) ∧ 0 ≤ rI M s (3 * m + 2) ∧ rI M s (3 * m + 2) ≤ 29
        · rw [if_pos y, v_build hA.2.1 (by omega), cll_pos, un, if_pos ⟨by rw [h2]; omega, y⟩]
          obtain ⟨σ', k1, k2⟩ := v_readL hM hsz hs4 h2 hit hi32 n (m + 1) _ ((m : Int) + 1) (3 * (m : Int) + 3) hA.step (by omega) (by omega) (by omega) (by omega)
          rw [show n - 1 = r by omega] at k1 k2
          exact ⟨σ', k1, k2⟩
        · rw [if_neg y, un, if_neg (fun w => y w.2)]
          exact ⟨σ, rfl, hA⟩
      · rw [if_neg z, cll_pos, chk_pos (by decide), if_neg (by decide), un, if_neg (fun w => by omega)]
        exact ⟨σ, rfl, hA⟩
def MP (M σ σ0 : St) (s n0 m : Nat) : Prop := (∀ k, k ≠ 58 → k ≠ 67 → σ k = σ0 k) ∧ (∀ j, j ≠ 9 → σ 58 j = σ0 58 j) ∧ σ 58 9 = ((n0 + m : Nat) : Int) ∧ (∀ i, i < 3 * n0 → σ 67 i = σ0 67 i) ∧ (∀ j, j < m → σ 67 (3 * (n0 + j)) = rI M s (3 * j) ∧ σ 67 (3 * (n0 + j) + 1) = rI M s (3 * j + 1) ∧ σ 67 (3 * (n0 + j) + 2) = rI M s (3 * j + 2))
theorem MP.step {M σ σ0 : St} {s n0 m : Nat} (h : MP M σ σ0 s n0 m) : MP M (mBl σ (n0 + m) (rI M s (3 * m)) (rI M s (3 * m + 1)) (rI M s (3 * m + 2))) σ0 s n0 (m + 1) := by
  have r67 : ∀ j, mBl σ (n0 + m) (rI M s (3 * m)) (rI M s (3 * m + 1)) (rI M s (3 * m + 2)) 67 j = if j = 3 * (n0 + m) + 2 then rI M s (3 * m + 2) else if j = 3 * (n0 + m) + 1 then rI M s (3 * m + 1) else if j = 3 * (n0 + m) then rI M s (3 * m) else σ 67 j := fun j => by
    unfold mBl
    rw [su_ne 67 (by decide), su_eq, su_eq, su_eq]
  refine ⟨fun k a1 a2 => ?_, fun j hj => ?_, ?_, fun i hi => ?_, fun j hj => ?_⟩
  · unfold mBl
    rw [su_ne k a1, su_ne k a2, su_ne k a2, su_ne k a2]
    exact h.1 k a1 a2
  · unfold mBl
    rw [su_eq, if_neg hj, su_ne 58 (by decide), su_ne 58 (by decide), su_ne 58 (by decide)]
    exact h.2.1 j hj
  · unfold mBl
    rw [su_eq, if_pos rfl]
    omega
  · rw [r67, if_neg (by omega), if_neg (by omega), if_neg (by omega)]
    exact h.2.2.2.1 i hi
  · rw [r67, r67, r67]
    by_cases e : j = m
    · subst e
      rw [if_neg (by omega), if_neg (by omega), if_pos rfl, if_neg (by omega), if_pos rfl, if_pos rfl]
      exact ⟨rfl, rfl, rfl⟩
    · rw [if_neg (by omega), if_neg (by omega), if_neg (by omega), if_neg (by omega), if_neg (by omega), if_neg (by omega), if_neg (by omega), if_neg (by omega), if_neg (by omega)]
      exact h.2.2.2.2 j (by omega)
theorem m_readL {M σ0 : St} (hM : MI M) {s n0 : Nat} (hs4 : s < 4) (h2 : σ0 60 s = M 2 s) (hit : ∀ i, i < 60 → σ0 61 (60 * s + i) = rI M s i) (hi32 : ∀ i, i < 60 → in32 (rI M s i)) : ∀ (n m : Nat) (σ : St) (v : Int), MP M σ σ0 s n0 m → v = m → n0 + m ≤ 8 → 9 - (n0 + m) < n → ∃ σ', L_X9_read_29 (n + 1) σ s v 1 = some (((rdN M s n0 (n - 1) m : Nat) : Int), σ') ∧ MP M σ' σ0 s n0 (rdN M s n0 (n - 1) m)
  | 0, m, σ, v, hA, hv, hm, hn => by omega
  | n + 1, m, σ, v, hA, hv, hm, hn => by
    subst hv
    have hr := hM.she hs4
    have es : σ 60 s = M 2 s := by rw [hA.1 60 (by decide) (by decide)]; exact h2
    have ei : ∀ i, i < 60 → σ 61 (60 * s + i) = rI M s i := fun i hi => by rw [hA.1 61 (by decide) (by decide)]; exact hit i hi
    obtain ⟨r, hrn⟩ : ∃ r, n = r + 1 := ⟨n - 1, by omega⟩
    have un : rdN M s n0 n m = if (3 * (m : Int) + 3 ≤ M 2 s ∧ n0 + m < 8) ∧ (((0 ≤ rI M s (3 * m) ∧ rI M s (3 * m) ≤ 11) ∧ (rI M s (3 * m) ≤ rI M s (3 * m + 1) ∧ rI M s (3 * m + 1) ≤ 11)) ∧ 0 ≤ rI M s (3 * m + 2) ∧ rI M s (3 * m + 2) ≤ 29) then rdN M s n0 r (m + 1) else m := by rw [hrn, rdN]
    have stop : ∀ k : Int, L_X9_read_29 (n + 1) σ s k 0 = some (k, σ) := fun k => by
      rw [L_X9_read_29, S_X9_read_29, chk_pos (by decide), if_pos rfl]
    rw [L_X9_read_29, S_X9_read_29, chk_pos (by decide), if_neg (by decide), chk_pos (by omega), chk_pos (by omega), show (s : Int).toNat = s by omega, es, chk_pos (by omega), show n + 1 - 1 = n from rfl]
    by_cases q : M 2 s < 3 * (m : Int) + 3
    · rw [if_pos q, un, if_neg (by omega)]
      exact ⟨σ, rfl, hA⟩
    · have x0 : (60 * (s : Int) + 3 * (m : Int)).toNat = 60 * s + 3 * m := by omega
      have x1 : (60 * (s : Int) + 3 * (m : Int) + 1).toNat = 60 * s + (3 * m + 1) := by omega
      have x2 : (60 * (s : Int) + 3 * (m : Int) + 2).toNat = 60 * s + (3 * m + 2) := by omega
      have g0 := hi32 (3 * m) (by omega)
      have g1 := hi32 (3 * m + 1) (by omega)
      have g2 := hi32 (3 * m + 2) (by omega)
      rw [if_neg q, chk_pos (by omega), chk_pos (by omega), chk_pos (by omega), x0, x1, x2, ei _ (by omega), ei _ (by omega), ei _ (by omega), m_dike g0 g1 g2 hA.2.2.1 (by omega)]
      unfold B_X9_read_94
      by_cases y : ((0 ≤ rI M s (3 * m) ∧ rI M s (3 * m) ≤ 11) ∧ (rI M s (3 * m) ≤ rI M s (3 * m + 1) ∧ rI M s (3 * m + 1) ≤ 11)) ∧ 0 ≤ rI M s (3 * m + 2) ∧ rI M s (3 * m + 2) ≤ 29
      · rw [if_pos y]
        by_cases z : n0 + m = 8
        · rw [if_pos z, cll_pos, chk_pos (by decide), if_pos (by decide), chk_pos (by decide), if_pos rfl, stop, un, if_neg (fun w => by omega), Int.add_zero]
          exact ⟨σ, rfl, hA⟩
        · rw [if_neg z, cll_pos, chk_pos (by omega), if_neg (by omega), chk_pos (by decide), if_neg (by decide), un, if_pos ⟨by omega, y⟩]
          obtain ⟨σ', k1, k2⟩ := m_readL hM hs4 h2 hit hi32 n (m + 1) _ ((m : Int) + 1) hA.step (by omega) (by omega) (by omega)
          rw [show n - 1 = r by omega] at k1 k2
          exact ⟨σ', k1, k2⟩
      · rw [if_neg y, cll_pos, chk_pos (by decide), if_pos (by decide), chk_pos (by decide), if_pos rfl, stop, un, if_neg (fun w => y w.2), Int.add_zero]
        exact ⟨σ, rfl, hA⟩
theorem v_isLost {σ : St} (hI : Inv σ) {s : Nat} (hs : s < 4) : f_X4_isLost s σ = some (if σ 59 s < 0 then 1 else 0, σ) := by
  have hr := (hI.2.1.she hs).1
  rw [mv_1] at hr
  unfold f_X4_isLost
  rw [(hI.1.c7 s hs).1, chk_pos (by omega)]
  by_cases q : σ 59 s = -1
  · rw [if_pos q, if_pos (by omega)]
  · rw [if_neg q, if_neg (by omega)]
theorem b_read {σ : St} (hI : Inv σ) {p1 : Int} (h1 : in32 p1) : Both (fun σ => f_X8_read σ p1) (fun σ => f_X9_read σ p1) σ := by
  unfold Both
  dsimp only
  unfold f_X8_read f_X9_read
  simp only [v_inside h1 z4_32, m_isSheet h1, cll_pos, chk_b01, ite_b0]
  by_cases q : 0 ≤ p1 ∧ p1 < 4
  · obtain ⟨s, rfl⟩ := ex_nat q.1
    have hs : s < 4 := by omega
    have hr := hI.2.1.she hs
    rw [mv_1, mv_2] at hr
    have e0 : (s : Int).toNat = s := by omega
    rw [if_pos q, chk_pos (by omega), e0, v_isLost hI hs, cll_pos, chk_b01, ite_b0]
    by_cases z : σ 59 s < 0
    · rw [if_pos z]
      refine ⟨-11, su σ 0 10 1, su (su σ 0 10 1) 58 4 1, rfl, ?_, inv_find hI (by omega)⟩
      have e59 : su σ 0 10 1 59 = σ 59 := su_ne 59 (by decide)
      rw [if_pos (by omega), chk_pos (by omega), e59, chk_pos (by omega), if_neg (by omega)]
      rfl
    · rw [if_neg z]
      have c7 := (hI.1.c7 s hs).2 (by omega)
      have c4 := hI.1.c4
      have rd := hI.2.1.dks
      rw [mv_09] at rd
      obtain ⟨n0, hn0⟩ := ex_nat rd.1
      have h8 := c4.2.1
      have hi32 : ∀ i, i < 60 → in32 (rI (mv σ) s i) := fun i hi => hI.2.1.itm (by omega)
      obtain ⟨σ1, k1, k2⟩ := v_readL (M := mv σ) (σ0 := σ) hI.2.1 (s := s) (n0 := n0) (sz := σ 60 s) c7.1 hs rfl (fun i hi => c7.2 i hi) hi32 FU 0 σ 0 0 ⟨fun _ _ _ _ _ => rfl, by rw [c4.1, hn0]; omega, fun _ _ => ⟨rfl, rfl, rfl⟩, fun j hj => by omega⟩ rfl rfl (by omega) (by rw [FU_eq]; omega)
      unfold f_X1_buildFrom
      rw [k1, cll_pos]
      unfold f_X6_change
      rw [cll_pos]
      have a59 : ∀ k, k ≠ 12 → k ≠ 13 → k ≠ 14 → k ≠ 15 → k ≠ 16 → su σ1 16 8 1 k = σ k := fun k a1 a2 a3 a4 a5 => by rw [su_ne k a5]; exact k2.1 k a1 a2 a3 a4
      have hmk := m_readL (M := mv σ) (σ0 := su σ1 16 8 1) hI.2.1 (s := s) (n0 := n0) hs (by rw [a59 60 (by decide) (by decide) (by decide) (by decide) (by decide)]; rfl) (fun i hi => by rw [a59 61 (by decide) (by decide) (by decide) (by decide) (by decide)]; rfl) hi32 999 0 (su σ1 16 8 1) 0 ⟨fun _ _ _ => rfl, fun _ _ => rfl, by rw [a59 58 (by decide) (by decide) (by decide) (by decide) (by decide), hn0]; omega, fun _ _ => rfl, fun j hj => by omega⟩ rfl (by omega) (by omega)
      obtain ⟨σ2, j1, j2⟩ := hmk
      have ce : rdN (mv σ) s n0 (FU - 1) 0 = rdN (mv σ) s n0 (999 - 1) 0 := by
        have sat : ∀ r m, 8 - (n0 + m) < r → n0 + m ≤ 8 → rdN (mv σ) s n0 r m = rdN (mv σ) s n0 (r + 1) m := by
          intro r
          induction r with
          | zero => intro m h1 h2; omega
          | succ r ih =>
            intro m h1 h2
            rw [rdN]
            rw [show rdN (mv σ) s n0 (r + 1 + 1) m = if (3 * (m : Int) + 3 ≤ mv σ 2 s ∧ n0 + m < 8) ∧ (((0 ≤ rI (mv σ) s (3 * m) ∧ rI (mv σ) s (3 * m) ≤ 11) ∧ (rI (mv σ) s (3 * m) ≤ rI (mv σ) s (3 * m + 1) ∧ rI (mv σ) s (3 * m + 1) ≤ 11)) ∧ 0 ≤ rI (mv σ) s (3 * m + 2) ∧ rI (mv σ) s (3 * m + 2) ≤ 29) then rdN (mv σ) s n0 (r + 1) (m + 1) else m from rfl]
            split
            · exact ih (m + 1) (by omega) (by omega)
            · rfl
        exact (sat 998 0 (by omega) (by omega)).symm
      rw [← ce] at j1 j2
      refine ⟨_, _, σ2, rfl, ?_, ?_⟩
      · rw [if_pos (by omega), chk_pos (by omega), a59 59 (by decide) (by decide) (by decide) (by decide) (by decide), chk_pos (by omega), if_pos (by omega)]
        exact j1
      · obtain ⟨o1, o2, o3⟩ := rdN_ok (mv σ) s n0 (FU - 1) 0 (by omega)
        generalize rdN (mv σ) s n0 (FU - 1) 0 = cN at k2 j2 o1 o2 o3
        have f12 : ∀ k, k ≠ 58 → k ≠ 67 → k ≠ 16 → σ2 k = σ1 k := fun k a1 a2 a3 => by rw [j2.1 k a1 a2, su_ne k a3]
        refine inv_dikes hI (n := n0 + cN) (fun k a1 a2 a3 a4 a5 a6 a7 => ?_) (fun j hj => ?_) ?_ o2 ?_ ?_ (fun k hk => ?_)
        · rw [f12 k a6 a7 a5]
          exact k2.1 k a1 a2 a3 a4
        · rw [j2.2.1 j hj, a59 58 (by decide) (by decide) (by decide) (by decide) (by decide)]
        · rw [j2.1 16 (by decide) (by decide), su_eq, if_pos rfl]
        · rw [f12 12 (by decide) (by decide) (by decide)]
          exact k2.2.1
        · exact j2.2.2.1
        · rw [f12 13 (by decide) (by decide) (by decide), f12 14 (by decide) (by decide) (by decide), f12 15 (by decide) (by decide) (by decide)]
          rcases Nat.lt_or_ge k n0 with g | g
          · have w1 := k2.2.2.1 k g
            rw [w1.1, w1.2.1, w1.2.2, j2.2.2.2.1 (3 * k) (by omega), j2.2.2.2.1 (3 * k + 1) (by omega), j2.2.2.2.1 (3 * k + 2) (by omega), a59 67 (by decide) (by decide) (by decide) (by decide) (by decide)]
            have o := hI.2.1.dik (k := k) (by rw [mv_09]; omega)
            rw [mv_9 (by omega), mv_9 (by omega), mv_9 (by omega)] at o
            exact ⟨c4.2.2 k (by omega), o⟩
          · obtain ⟨j, hj⟩ : ∃ j, k = n0 + j := ⟨k - n0, by omega⟩
            subst hj
            have w1 := k2.2.2.2 j (by omega)
            have w2 := j2.2.2.2.2 j (by omega)
            rw [w1.1, w1.2.1, w1.2.2, w2.1, w2.2.1, w2.2.2]
            have o := o3 j (by omega) (by omega)
            exact ⟨⟨rfl, rfl, rfl⟩, by omega⟩
  · rw [if_neg q]
    refine ⟨-2, σ, σ, rfl, ?_, hI⟩
    rw [if_neg (by omega)]
