/-! BOTH SIDES: deed, odds, dikes, contracts, facts -/
theorem z32 {n : Nat} (h : n ≤ 1000) : in32 (n : Int) := by omega
theorem b_set {σ : St} (hI : Inv σ) {p1 p2 : Int} (h1 : in32 p1) (h2 : in32 p2) : Both (fun σ => f_X8_set σ p1 p2) (fun σ => f_X9_set σ p1 p2) σ := by
  unfold Both
  dsimp only
  have n0 : ∀ σ' : St, f_X9_set σ' p1 p2 = if 0 ≤ p1 ∧ p1 ≤ 6 then (if rr_TL p1.toNat ≤ p2 ∧ p2 ≤ rr_TM p1.toNat then some (σ' 65 p1.toNat, su σ' 65 p1.toNat p2) else some (-2, σ')) else some (-2, σ') := fun σ' => by
    unfold f_X9_set
    rw [chk_pos h1, m_in (by omega) (by omega) (by omega), cll_pos, chk_b01, ite_b0, chk_pos h2]
    by_cases q : 0 ≤ p1 ∧ p1 ≤ 6
    · rw [if_pos q, if_pos q]
      have hB : ∀ lo mo : Int, (lo = 0 ∨ lo = 1) → f_X9_most σ' p1 = some (mo, σ') → 0 ≤ mo ∧ mo ≤ 99 → B_X9_set_24 σ' p1 p2 lo p2 = if lo ≤ p2 ∧ p2 ≤ mo then some (σ' 65 p1.toNat, su σ' 65 p1.toNat p2) else some (-2, σ') := fun lo mo a1 a2 a3 => by
        unfold B_X9_set_24
        rw [a2, cll_pos, chk_pos (by omega), m_in (by omega) (by omega) (by omega), cll_pos, chk_b01, ite_b0, chk_pos (by omega)]
      rcases (show p1 = 0 ∨ p1 = 1 ∨ p1 = 2 ∨ p1 = 3 ∨ p1 = 4 ∨ p1 = 5 ∨ p1 = 6 by omega) with rfl | rfl | rfl | rfl | rfl | rfl | rfl
      · rw [if_neg (by decide), hB 0 9 (by omega) rfl (by omega)]; rfl
      · rw [if_neg (by decide), hB 0 29 (by omega) rfl (by omega)]; rfl
      · rw [if_neg (by decide), hB 0 99 (by omega) rfl (by omega)]; rfl
      · rw [if_pos rfl, hB 1 9 (by omega) rfl (by omega)]; rfl
      · rw [if_neg (by decide), hB 0 99 (by omega) rfl (by omega)]; rfl
      · rw [if_neg (by decide), hB 0 99 (by omega) rfl (by omega)]; rfl
      · rw [if_neg (by decide), hB 0 9 (by omega) rfl (by omega)]; rfl
    · rw [if_neg q, if_neg q]
  have tl : ∀ j, 0 ≤ rr_TL j ∧ rr_TL j ≤ 1 := fun j => by
    unfold rr_TL
    split <;> omega
  have tm : ∀ j, 0 ≤ rr_TM j ∧ rr_TM j ≤ 99 := fun j => by
    unfold rr_TM
    split <;> omega
  unfold f_X8_set
  rw [v_inside h1 (by decide), cll_pos, chk_b01, ite_b0]
  by_cases q : 0 ≤ p1 ∧ p1 < 7
  · obtain ⟨j, rfl⟩ := ex_nat q.1
    have t1 := tl j
    have t2 := tm j
    have e0 : (j : Int).toNat = j := by omega
    rw [e0] at n0
    rw [if_pos q, chk_pos (by omega), e0, chk_pos h2, chk_pos (by omega)]
    by_cases z1 : p2 < rr_TL j
    · rw [if_pos z1]
      refine ⟨-2, σ, σ, rfl, ?_, hI⟩
      rw [n0, if_pos (by omega), if_neg (by omega)]
    · rw [if_neg z1, chk_pos (by omega)]
      by_cases z2 : p2 ≤ rr_TM j
      · rw [if_pos z2]
        unfold f_X6_change
        rw [cll_pos, hI.1.c2 j (by omega)]
        have l1 : su (su σ 10 j p2) 16 8 1 65 = σ 65 := by rw [su_ne 65 (by decide), su_ne 65 (by decide)]
        refine ⟨σ 65 j, _, su (su (su σ 10 j p2) 16 8 1) 65 j p2, rfl, ?_, ?_⟩
        · rw [n0, if_pos (by omega), if_pos (by omega), l1]
        · have hk : ∀ k, k ≠ 10 → k ≠ 16 → k ≠ 65 → su (su (su σ 10 j p2) 16 8 1) 65 j p2 k = σ k := fun k a1 a2 a3 => by rw [su_ne k a3, su_ne k a2, su_ne k a1]
          have hm : mv (su (su (su σ 10 j p2) 16 8 1) 65 j p2) = su (mv σ) 7 j p2 := by rw [mvw (k := 7) (by omega), mv_lo (by omega), mv_lo (by omega)]
          refine Inv.of8 (hI.1.c1.of fun k h => hk k (by omega) (by omega) (by omega)) ?_ (hI.1.c3.of fun k h => hk k (by omega) (by omega) (by omega)) (hI.1.c4.of (fun k h => hk k (by omega) (by omega) (by omega)) (by rw [hk 58 (by decide) (by decide) (by decide)])) (hI.1.c5.of (fun k h => hk k (by omega) (by omega) (by omega)) (by rw [hk 37 (by decide) (by decide) (by decide)])) (hI.1.c6.of (fun k h => hk k (by omega) (by omega) (by omega)) (by rw [hk 58 (by decide) (by decide) (by decide)])) (hI.1.c7.of fun k h => hk k (by omega) (by omega) (by omega)) (hI.1.c8.of (by rw [hk 0 (by decide) (by decide) (by decide)]) (by rw [hk 58 (by decide) (by decide) (by decide)])) (by rw [hm]; exact hI.2.1.u7 (by omega)) (by unfold GN; rw [hk 58 (by decide) (by decide) (by decide)]; exact hI.2.2.1) (Or.inl (by rw [su_ne 16 (by decide), su_eq, if_pos rfl]))
          intro i hi
          rw [su_ne 10 (by decide), su_ne 10 (by decide), su_eq, su_eq, l1, hI.1.c2 i hi]
      · rw [if_neg z2]
        refine ⟨-2, σ, σ, rfl, ?_, hI⟩
        rw [n0, if_pos (by omega), if_neg (by omega)]
  · rw [if_neg q]
    refine ⟨-2, σ, σ, rfl, ?_, hI⟩
    rw [n0, if_neg (by omega)]
theorem b_odds {σ : St} (hI : Inv σ) {p1 p2 : Int} (h1 : in32 p1) (h2 : in32 p2) : Both (fun σ => f_X8_odds σ p1 p2) (fun σ => f_X9_odds σ p1 p2) σ := by
  unfold Both
  dsimp only
  have n0 : ∀ σ' : St, f_X9_odds σ' p1 p2 = if 0 ≤ p1 ∧ p1 ≤ 2 then (if 0 ≤ p2 ∧ p2 ≤ 99 then chk (ix p1 3) (some (σ' 66 p1.toNat, su σ' 66 p1.toNat p2)) else some (-2, σ')) else some (-2, σ') := fun σ' => by
    unfold f_X9_odds
    rw [m_isSpring h1, cll_pos, chk_b01, ite_b0, chk_pos h2, m_in (by omega) (by omega) (by omega), cll_pos, chk_b01, ite_b0]
  unfold f_X8_odds
  rw [v_inside h1 (by decide), cll_pos, chk_b01, ite_b0, v_inside h2 (by decide), cll_pos, chk_b01, ite_b0]
  by_cases q : 0 ≤ p1 ∧ p1 < 3
  · by_cases q2 : 0 ≤ p2 ∧ p2 < 100
    · obtain ⟨j, rfl⟩ := ex_nat q.1
      have e0 : (j : Int).toNat = j := by omega
      rw [e0] at n0
      rw [if_pos q, if_pos q2, chk_pos (by omega), e0, hI.1.c3 j (by omega)]
      have l1 : su σ 11 j p2 66 = σ 66 := su_ne 66 (by decide)
      refine ⟨σ 66 j, _, su (su σ 11 j p2) 66 j p2, rfl, ?_, ?_⟩
      · rw [n0, if_pos (by omega), if_pos (by omega), chk_pos (by omega), l1]
      · have hk : ∀ k, k ≠ 11 → k ≠ 66 → su (su σ 11 j p2) 66 j p2 k = σ k := fun k a1 a3 => by rw [su_ne k a3, su_ne k a1]
        have hm : mv (su (su σ 11 j p2) 66 j p2) = su (mv σ) 8 j p2 := by rw [mvw (k := 8) (by omega), mv_lo (by omega)]
        refine Inv.of8 (hI.1.c1.of fun k h => hk k (by omega) (by omega)) (hI.1.c2.of fun k h => hk k (by omega) (by omega)) ?_ (hI.1.c4.of (fun k h => hk k (by omega) (by omega)) (by rw [hk 58 (by decide) (by decide)])) (hI.1.c5.of (fun k h => hk k (by omega) (by omega)) (by rw [hk 37 (by decide) (by decide)])) (hI.1.c6.of (fun k h => hk k (by omega) (by omega)) (by rw [hk 58 (by decide) (by decide)])) (hI.1.c7.of fun k h => hk k (by omega) (by omega)) (hI.1.c8.of (by rw [hk 0 (by decide) (by decide)]) (by rw [hk 58 (by decide) (by decide)])) (by rw [hm]; exact hI.2.1.u8 (by omega)) (by unfold GN; rw [hk 58 (by decide) (by decide)]; exact hI.2.2.1) ?_
        · intro i hi
          rw [su_ne 11 (by decide), su_eq, su_eq, l1, hI.1.c3 i hi]
        · exact hI.2.2.2.of2 (by rw [hm, su_ne 5 (by decide)]) (by rw [hm, su_ne 6 (by decide)]) (by rw [hm, su_ne 7 (by decide)]) (by rw [hm, su_ne 9 (by decide)]) (by rw [hm, su_ne 0 (by decide)]) (fun k h1 h2 => hk k (by omega) (by omega))
    · rw [if_pos q, if_neg q2]
      refine ⟨-2, σ, σ, rfl, ?_, hI⟩
      rw [n0, if_pos (by omega), if_neg (by omega)]
  · rw [if_neg q]
    refine ⟨-2, σ, σ, rfl, ?_, hI⟩
    rw [n0, if_neg (by omega)]
/-- what a dike may be -/
def dOk (a b d : Int) : Prop := ((0 ≤ a ∧ a ≤ 11) ∧ (a ≤ b ∧ b ≤ 11)) ∧ 0 ≤ d ∧ d ≤ 29
theorem v_mayBe {σ : St} {a b d : Int} (ha : in32 a) (hb : in32 b) (hd : in32 d) : f_X1_mayBe σ a b d = some (if ((0 ≤ a ∧ a ≤ 11) ∧ (a ≤ b ∧ b ≤ 11)) ∧ 0 ≤ d ∧ d ≤ 29 then 1 else 0, σ) := by
  unfold f_X1_mayBe
  rw [v_inside ha (by decide), cll_pos, chk_b01, ite_b0, v_inside hb (by decide), cll_pos, chk_b01, ite_b0, v_inside hd (by decide), cll_pos, chk_b01, ite_b0, chk_pos ha, chk_pos hb]
  by_cases q1 : 0 ≤ a ∧ a < 12
  · rw [if_pos q1]
    by_cases q2 : 0 ≤ b ∧ b < 12
    · rw [if_pos q2]
      by_cases q3 : 0 ≤ d ∧ d < 30
      · rw [if_pos q3]
        by_cases q4 : b < a
        · rw [if_pos q4, if_neg (by omega)]
        · rw [if_neg q4, if_pos (by omega)]
      · rw [if_neg q3, if_neg (by omega)]
    · rw [if_neg q2, if_neg (by omega)]
  · rw [if_neg q1, if_neg (by omega)]
def cBl (σ : St) (n : Nat) (a b d : Int) : St := su (su (su (su σ 13 n a) 14 n b) 15 n d) 12 3 ((n : Int) + 1)
theorem v_build {σ : St} {n : Nat} {a b d : Int} (hn : σ 12 3 = n) (h8 : n < 8) : f_X1_build σ a b d = some (0, cBl σ n a b d) := by
  have e1 : su σ 13 n a 12 3 = n := by rw [su_ne 12 (by decide)]; exact hn
  have e2 : su (su σ 13 n a) 14 n b 12 3 = n := by rw [su_ne 12 (by decide)]; exact e1
  have e3 : su (su (su σ 13 n a) 14 n b) 15 n d 12 3 = n := by rw [su_ne 12 (by decide)]; exact e2
  have e0 : (n : Int).toNat = n := by omega
  unfold f_X1_build
  rw [hn, v_inside (by omega) (by decide), cll_pos, chk_b01, ite_b0, if_pos (by omega), hn, chk_pos (by omega), e0, e1, chk_pos (by omega), e0, e2, chk_pos (by omega), e0, e3]
  rfl
def mBl (σ : St) (n : Nat) (a b d : Int) : St := su (su (su (su σ 67 (3 * n) a) 67 (3 * n + 1) b) 67 (3 * n + 2) d) 58 9 ((n : Int) + 1)
theorem m_dike {σ : St} {n : Nat} {a b d : Int} (ha : in32 a) (hb : in32 b) (hd : in32 d) (hn : σ 58 9 = n) (h8 : n ≤ 8) : f_X9_dike σ a b d = if ((0 ≤ a ∧ a ≤ 11) ∧ (a ≤ b ∧ b ≤ 11)) ∧ 0 ≤ d ∧ d ≤ 29 then (if n = 8 then some (-4, σ) else some ((n : Int) + 1, mBl σ n a b d)) else some (-2, σ) := by
  have x0 : (3 * (n : Int)).toNat = 3 * n := by omega
  have x1 : (3 * (n : Int) + 1).toNat = 3 * n + 1 := by omega
  have x2 : (3 * (n : Int) + 2).toNat = 3 * n + 2 := by omega
  have e1 : su σ 67 (3 * n) a 58 9 = n := by rw [su_ne 58 (by decide)]; exact hn
  have e2 : su (su σ 67 (3 * n) a) 67 (3 * n + 1) b 58 9 = n := by rw [su_ne 58 (by decide)]; exact e1
  have e3 : su (su (su σ 67 (3 * n) a) 67 (3 * n + 1) b) 67 (3 * n + 2) d 58 9 = n := by rw [su_ne 58 (by decide)]; exact e2
  unfold f_X9_dike
  rw [chk_pos ha, m_in (by omega) (by omega) (by omega), cll_pos, chk_b01, ite_b0, chk_pos hb, m_in (by omega) (by omega) (by omega), cll_pos, chk_b01, ite_b0, m_isDay hd, cll_pos, chk_b01, ite_b0, hn, chk_pos (by omega)]
  by_cases q1 : 0 ≤ a ∧ a ≤ 11
  · rw [if_pos q1]
    by_cases q2 : a ≤ b ∧ b ≤ 11
    · rw [if_pos q2]
      by_cases q3 : 0 ≤ d ∧ d ≤ 29
      · rw [if_pos q3, if_pos (show ((0 ≤ a ∧ a ≤ 11) ∧ (a ≤ b ∧ b ≤ 11)) ∧ 0 ≤ d ∧ d ≤ 29 from ⟨⟨q1, q2⟩, q3⟩)]
        by_cases z : n = 8
        · rw [if_pos (by omega), if_pos z]
        · rw [if_neg (by omega), if_neg z, chk_pos (by omega), x0, e1, chk_pos (by omega), x1, e2, chk_pos (by omega), x2, e3, su_eq, if_pos rfl]
          rfl
      · rw [if_neg q3, if_neg (fun w => q3 w.2)]
    · rw [if_neg q2, if_neg (fun w => q2 w.1.2)]
  · rw [if_neg q1, if_neg (fun w => q1 w.1.1)]
/-- after dikes came on both sides -/
theorem inv_dikes {σ σ' : St} (hI : Inv σ) {n : Nat} (hk : ∀ k, k ≠ 12 → k ≠ 13 → k ≠ 14 → k ≠ 15 → k ≠ 16 → k ≠ 58 → k ≠ 67 → σ' k = σ k) (h58 : ∀ j, j ≠ 9 → σ' 58 j = σ 58 j) (hs : σ' 16 8 = 1) (hn : n ≤ 8) (h12 : σ' 12 3 = n) (h9 : σ' 58 9 = n) (hc : ∀ k, k < n → (σ' 13 k = σ' 67 (3 * k) ∧ σ' 14 k = σ' 67 (3 * k + 1) ∧ σ' 15 k = σ' 67 (3 * k + 2)) ∧ ((0 ≤ σ' 67 (3 * k) ∧ σ' 67 (3 * k) ≤ σ' 67 (3 * k + 1)) ∧ σ' 67 (3 * k + 1) ≤ 11 ∧ 0 ≤ σ' 67 (3 * k + 2) ∧ σ' 67 (3 * k + 2) ≤ 29)) : Inv σ' := by
  refine Inv.of8 (hI.1.c1.of fun k h => hk k (by omega) (by omega) (by omega) (by omega) (by omega) (by omega) (by omega)) (hI.1.c2.of fun k h => hk k (by omega) (by omega) (by omega) (by omega) (by omega) (by omega) (by omega)) (hI.1.c3.of fun k h => hk k (by omega) (by omega) (by omega) (by omega) (by omega) (by omega) (by omega)) ?_ (hI.1.c5.of (fun k h => hk k (by omega) (by omega) (by omega) (by omega) (by omega) (by omega) (by omega)) (by rw [hk 37 (by decide) (by decide) (by decide) (by decide) (by decide) (by decide) (by decide)])) (hI.1.c6.of (fun k h => hk k (by omega) (by omega) (by omega) (by omega) (by omega) (by omega) (by omega)) (h58 17 (by decide))) (hI.1.c7.of fun k h => hk k (by omega) (by omega) (by omega) (by omega) (by omega) (by omega) (by omega)) (hI.1.c8.of (by rw [hk 0 (by decide) (by decide) (by decide) (by decide) (by decide) (by decide) (by decide)]) (h58 4 (by decide))) ?_ (by unfold GN; rw [h58 12 (by decide)]; exact hI.2.2.1) (Or.inl hs)
  · refine ⟨by rw [h12, h9], by rw [h9]; omega, fun k hkn => (hc k (by rw [h9] at hkn; omega)).1⟩
  · refine hI.2.1.ext (fun k h0 h9k => ?_) (h58 4 (by decide)) (h58 17 (by decide)) (by rw [mv_09, h9]; omega) (fun k hkn => ?_)
    · funext j
      match k, h0, h9k with
      | 1, _, _ => exact congrFun (hk 59 (by decide) (by decide) (by decide) (by decide) (by decide) (by decide) (by decide)) j
      | 2, _, _ => exact congrFun (hk 60 (by decide) (by decide) (by decide) (by decide) (by decide) (by decide) (by decide)) j
      | 3, _, _ => exact congrFun (hk 61 (by decide) (by decide) (by decide) (by decide) (by decide) (by decide) (by decide)) j
      | 4, _, _ => rfl
      | 5, _, _ => exact congrFun (hk 63 (by decide) (by decide) (by decide) (by decide) (by decide) (by decide) (by decide)) j
      | 6, _, _ => exact congrFun (hk 64 (by decide) (by decide) (by decide) (by decide) (by decide) (by decide) (by decide)) j
      | 7, _, _ => exact congrFun (hk 65 (by decide) (by decide) (by decide) (by decide) (by decide) (by decide) (by decide)) j
      | 8, _, _ => exact congrFun (hk 66 (by decide) (by decide) (by decide) (by decide) (by decide) (by decide) (by decide)) j
      | 10, _, _ => rfl
      | 11, _, _ => exact congrFun (hk 69 (by decide) (by decide) (by decide) (by decide) (by decide) (by decide) (by decide)) j
      | 12, _, _ => exact congrFun (hk 70 (by decide) (by decide) (by decide) (by decide) (by decide) (by decide) (by decide)) j
      | n + 13, _, _ => rfl
    · rw [mv_09, h9] at hkn
      rw [mv_9 (by rw [h9]; omega), mv_9 (by rw [h9]; omega), mv_9 (by rw [h9]; omega)]
      exact (hc k (by omega)).2
theorem b_dike {σ : St} (hI : Inv σ) {a b d : Int} (ha : in32 a) (hb : in32 b) (hd : in32 d) : Both (fun σ => f_X8_dike σ a b d) (fun σ => f_X9_dike σ a b d) σ := by
  unfold Both
  dsimp only
  have c := hI.1.c4
  have r := hI.2.1.dks
  rw [mv_09] at r
  obtain ⟨n, hn⟩ := ex_nat r.1
  unfold f_X8_dike f_X1_isFull
  rw [v_mayBe ha hb hd, cll_pos, chk_b01, ite_b0, c.1, hn, chk_pos (by omega)]
  by_cases q : ((0 ≤ a ∧ a ≤ 11) ∧ (a ≤ b ∧ b ≤ 11)) ∧ 0 ≤ d ∧ d ≤ 29
  · rw [if_pos q]
    by_cases z : (n : Int) < 8
    · have h8 : n < 8 := by omega
      rw [if_pos z, cll_pos, chk_pos (by decide), if_pos rfl, v_build (by rw [c.1, hn]) h8, cll_pos]
      unfold f_X6_change
      rw [cll_pos]
      have k1 : su (cBl σ n a b d) 16 8 1 12 3 = (n : Int) + 1 := by
        unfold cBl
        rw [su_ne 12 (by decide), su_eq, if_pos rfl]
      have k2 : su (cBl σ n a b d) 16 8 1 58 = σ 58 := by
        unfold cBl
        rw [su_ne 58 (by decide), su_ne 58 (by decide), su_ne 58 (by decide), su_ne 58 (by decide), su_ne 58 (by decide)]
      rw [k1]
      refine ⟨(n : Int) + 1, _, mBl (su (cBl σ n a b d) 16 8 1) n a b d, rfl, ?_, ?_⟩
      · rw [m_dike ha hb hd (n := n) (by rw [k2]; exact hn) (by omega), if_pos q, if_neg (by omega)]
      · have r67 : ∀ j, mBl (su (cBl σ n a b d) 16 8 1) n a b d 67 j = if j = 3 * n + 2 then d else if j = 3 * n + 1 then b else if j = 3 * n then a else σ 67 j := fun j => by
          unfold mBl cBl
          rw [su_ne 67 (by decide), su_eq, su_eq, su_eq, su_ne 67 (by decide), su_ne 67 (by decide), su_ne 67 (by decide), su_ne 67 (by decide), su_ne 67 (by decide)]
        have r13 : ∀ j, mBl (su (cBl σ n a b d) 16 8 1) n a b d 13 j = if j = n then a else σ 13 j := fun j => by
          unfold mBl cBl
          rw [su_ne 13 (by decide), su_ne 13 (by decide), su_ne 13 (by decide), su_ne 13 (by decide), su_ne 13 (by decide), su_ne 13 (by decide), su_ne 13 (by decide), su_ne 13 (by decide), su_eq]
        have r14 : ∀ j, mBl (su (cBl σ n a b d) 16 8 1) n a b d 14 j = if j = n then b else σ 14 j := fun j => by
          unfold mBl cBl
          rw [su_ne 14 (by decide), su_ne 14 (by decide), su_ne 14 (by decide), su_ne 14 (by decide), su_ne 14 (by decide), su_ne 14 (by decide), su_ne 14 (by decide), su_eq, su_ne 14 (by decide)]
        have r15 : ∀ j, mBl (su (cBl σ n a b d) 16 8 1) n a b d 15 j = if j = n then d else σ 15 j := fun j => by
          unfold mBl cBl
          rw [su_ne 15 (by decide), su_ne 15 (by decide), su_ne 15 (by decide), su_ne 15 (by decide), su_ne 15 (by decide), su_ne 15 (by decide), su_eq, su_ne 15 (by decide), su_ne 15 (by decide)]
        refine inv_dikes hI (n := n + 1) (fun k a1 a2 a3 a4 a5 a6 a7 => ?_) (fun j hj => ?_) ?_ (by omega) ?_ ?_ (fun k hk => ?_)
        · unfold mBl cBl
          rw [su_ne k a6, su_ne k a7, su_ne k a7, su_ne k a7, su_ne k a5, su_ne k a1, su_ne k a4, su_ne k a3, su_ne k a2]
        · unfold mBl
          rw [su_eq, if_neg hj, su_ne 58 (by decide), su_ne 58 (by decide), su_ne 58 (by decide), k2]
        · unfold mBl
          rw [su_ne 16 (by decide), su_ne 16 (by decide), su_ne 16 (by decide), su_ne 16 (by decide), su_eq, if_pos rfl]
        · unfold mBl
          rw [su_ne 12 (by decide), su_ne 12 (by decide), su_ne 12 (by decide), su_ne 12 (by decide), k1]
          omega
        · unfold mBl
          rw [su_eq, if_pos rfl]
          omega
        · rw [r67, r67, r67, r13, r14, r15]
          by_cases e : k = n
          · subst e
            rw [if_pos rfl, if_pos rfl, if_pos rfl, if_neg (by omega), if_neg (by omega), if_pos rfl, if_neg (by omega), if_pos rfl, if_pos rfl]
            exact ⟨⟨rfl, rfl, rfl⟩, by omega⟩
          · rw [if_neg e, if_neg e, if_neg e, if_neg (by omega), if_neg (by omega), if_neg (by omega), if_neg (by omega), if_neg (by omega), if_neg (by omega), if_neg (by omega), if_neg (by omega), if_neg (by omega)]
            have o := hI.2.1.dik (k := k) (by rw [mv_09]; omega)
            rw [mv_9 (by omega), mv_9 (by omega), mv_9 (by omega)] at o
            exact ⟨c.2.2 k (by omega), o⟩
    · rw [if_neg z, cll_pos, chk_pos (by decide), if_neg (by decide)]
      refine ⟨-4, σ, σ, rfl, ?_, hI⟩
      have := c.2.1
      rw [m_dike ha hb hd hn (by omega), if_pos q, if_pos (by omega)]
  · rw [if_neg q]
    refine ⟨-2, σ, σ, rfl, ?_, hI⟩
    have := c.2.1
    rw [m_dike ha hb hd hn (by omega), if_neg q]
theorem b_breaks {σ : St} (hI : Inv σ) : Both (fun σ => f_X8_breaks σ) (fun σ => f_X9_breaks σ) σ := by
  unfold Both
  dsimp only
  have c := hI.1.c4
  have r := hI.2.1.dks
  rw [mv_09] at r
  obtain ⟨n, hn⟩ := ex_nat r.1
  unfold f_X8_breaks f_X9_breaks f_X1_dropLast
  rw [c.1, hn, chk_pos (by omega)]
  by_cases z : (n : Int) = 0
  · rw [if_pos z]
    refine ⟨-3, σ, σ, rfl, ?_, hI⟩
    rw [hn, chk_pos (by omega), if_pos z]
  · rw [if_neg z, chk_pos (by omega), show max ((n : Int) - 1) 0 = (n : Int) - 1 by omega, cll_pos]
    unfold f_X6_change
    rw [cll_pos]
    have k1 : su (su σ 12 3 ((n : Int) - 1)) 16 8 1 12 3 = (n : Int) - 1 := by rw [su_ne 12 (by decide), su_eq, if_pos rfl]
    have k2 : su (su σ 12 3 ((n : Int) - 1)) 16 8 1 58 = σ 58 := by rw [su_ne 58 (by decide), su_ne 58 (by decide)]
    rw [k1]
    refine ⟨(n : Int) - 1, _, su (su (su σ 12 3 ((n : Int) - 1)) 16 8 1) 58 9 ((n : Int) - 1), rfl, ?_, ?_⟩
    · rw [k2, hn, chk_pos (by omega), if_neg z, su_eq, if_pos rfl]
    · have := c.2.1
      refine inv_dikes hI (n := n - 1) (fun k a1 a2 a3 a4 a5 a6 a7 => ?_) (fun j hj => ?_) ?_ (by omega) ?_ ?_ (fun k hk => ?_)
      · rw [su_ne k a6, su_ne k a5, su_ne k a1]
      · rw [su_eq, if_neg hj, k2]
      · rw [su_ne 16 (by decide), su_eq, if_pos rfl]
      · rw [su_ne 12 (by decide), k1]; omega
      · rw [su_eq, if_pos rfl]; omega
      · have o := hI.2.1.dik (k := k) (by rw [mv_09]; omega)
        rw [mv_9 (by omega), mv_9 (by omega), mv_9 (by omega)] at o
        simp only [su_ne 67 (show 67 ≠ 58 by decide), su_ne 67 (show 67 ≠ 16 by decide), su_ne 67 (show 67 ≠ 12 by decide), su_ne 13 (show 13 ≠ 58 by decide), su_ne 13 (show 13 ≠ 16 by decide), su_ne 13 (show 13 ≠ 12 by decide), su_ne 14 (show 14 ≠ 58 by decide), su_ne 14 (show 14 ≠ 16 by decide), su_ne 14 (show 14 ≠ 12 by decide), su_ne 15 (show 15 ≠ 58 by decide), su_ne 15 (show 15 ≠ 16 by decide), su_ne 15 (show 15 ≠ 12 by decide)]
        exact ⟨c.2.2 k (by omega), o⟩
