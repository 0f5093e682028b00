/-! BOTH SIDES: contracts and facts -/
theorem inv_rest {σ σ' : St} (hI : Inv σ) (hk : ∀ k, k < 37 ∨ (63 ≤ k ∧ k ≤ 68) → σ' k = σ k) (h58 : ∀ j, j ≠ 17 → σ' 58 j = σ 58 j) (h5 : C5 σ') (h6 : C6 σ') (h7 : C7 σ')
    (r11 : ∀ k, k < 8 → (σ' 69 (4 * k) = 0 ∨ σ' 69 (4 * k) = 1) ∧ (0 ≤ σ' 69 (4 * k + 1) ∧ σ' 69 (4 * k + 1) ≤ 29) ∧ (0 ≤ σ' 69 (4 * k + 2) ∧ σ' 69 (4 * k + 2) ≤ 99) ∧ 0 ≤ σ' 69 (4 * k + 3) ∧ σ' 69 (4 * k + 3) ≤ 99)
    (r17 : 0 ≤ σ' 58 17 ∧ σ' 58 17 ≤ 8) (r12 : ∀ k, k < 8 → (0 ≤ σ' 70 (3 * k) ∧ σ' 70 (3 * k) ≤ 29) ∧ (0 ≤ σ' 70 (3 * k + 1) ∧ σ' 70 (3 * k + 1) ≤ 11) ∧ (σ' 70 (3 * k + 2) = 0 ∨ σ' 70 (3 * k + 2) = 1))
    (r1 : ∀ s, s < 4 → (-1 ≤ σ' 59 s ∧ σ' 59 s ≤ 2) ∧ 0 ≤ σ' 60 s ∧ σ' 60 s ≤ 60) (r3 : ∀ i, i < 240 → in32 (σ' 61 i)) : Inv σ' := by
  obtain ⟨a1, a2, a3, a4, a5, a6, a7, a8, a9, a10, a11, a12⟩ := hI.2.1
  have e5 : mv σ' 5 = mv σ 5 := hk 63 (by omega)
  have e6 : mv σ' 6 = mv σ 6 := hk 64 (by omega)
  have e7 : mv σ' 7 = mv σ 7 := hk 65 (by omega)
  have e8 : mv σ' 8 = mv σ 8 := hk 66 (by omega)
  have e09 : mv σ' 0 9 = mv σ 0 9 := h58 9 (by decide)
  have e04 : mv σ' 0 4 = mv σ 0 4 := h58 4 (by decide)
  have e9 : mv σ' 9 = mv σ 9 := by
    funext j
    show (if (j : Int) < 3 * σ' 58 9 then σ' 67 j else 0) = (if (j : Int) < 3 * σ 58 9 then σ 67 j else 0)
    rw [h58 9 (by decide), hk 67 (by omega)]
  refine Inv.of8 (hI.1.c1.of fun k h => hk k (by omega)) (hI.1.c2.of fun k h => hk k (by omega)) (hI.1.c3.of fun k h => hk k (by omega)) (hI.1.c4.of (fun k h => hk k (by omega)) (h58 9 (by decide))) h5 h6 h7 (hI.1.c8.of (by rw [hk 0 (by omega)]) (h58 4 (by decide))) ?_ (by unfold GN; rw [h58 12 (by decide)]; exact hI.2.2.1) (hI.2.2.2.of2 e5 e6 e7 e9 e09 (fun k g1 g2 => hk k (by omega)))
  exact ⟨by rw [e6]; exact a1, by rw [e5]; exact a2, by rw [e7]; exact a3, by rw [e8]; exact a4, by rw [e09]; exact a5, by rw [e09, e9]; exact a6, r11, r17, r12, r1, r3, by rw [e04]; exact a12⟩
theorem inv_con {σ σ' : St} (hI : Inv σ) (hk : ∀ k, k ≠ 37 → k ≠ 38 → k ≠ 39 → k ≠ 40 → k ≠ 69 → σ' k = σ k) (h5 : C5 σ') (r11 : ∀ k, k < 8 → (σ' 69 (4 * k) = 0 ∨ σ' 69 (4 * k) = 1) ∧ (0 ≤ σ' 69 (4 * k + 1) ∧ σ' 69 (4 * k + 1) ≤ 29) ∧ (0 ≤ σ' 69 (4 * k + 2) ∧ σ' 69 (4 * k + 2) ≤ 99) ∧ 0 ≤ σ' 69 (4 * k + 3) ∧ σ' 69 (4 * k + 3) ≤ 99) : Inv σ' := by
  obtain ⟨a1, a2, a3, a4, a5, a6, a7, a8, a9, a10, a11, a12⟩ := hI.2.1
  have e58 : σ' 58 = σ 58 := hk 58 (by decide) (by decide) (by decide) (by decide) (by decide)
  have e70 : σ' 70 = σ 70 := hk 70 (by decide) (by decide) (by decide) (by decide) (by decide)
  have e59 : σ' 59 = σ 59 := hk 59 (by decide) (by decide) (by decide) (by decide) (by decide)
  have e60 : σ' 60 = σ 60 := hk 60 (by decide) (by decide) (by decide) (by decide) (by decide)
  have e61 : σ' 61 = σ 61 := hk 61 (by decide) (by decide) (by decide) (by decide) (by decide)
  exact inv_rest hI (fun k h => hk k (by omega) (by omega) (by omega) (by omega) (by omega)) (fun j _ => by rw [e58]) h5 (hI.1.c6.of (fun k h => hk k (by omega) (by omega) (by omega) (by omega) (by omega)) (by rw [e58])) (hI.1.c7.of fun k h => hk k (by omega) (by omega) (by omega) (by omega) (by omega)) r11 (by rw [e58]; exact a8) (by rw [e70]; exact a9) (by rw [e59, e60]; exact a10) (by rw [e61]; exact a11)
theorem b_contract {σ : St} (hI : Inv σ) {p1 p2 p3 p4 : Int} (h1 : in32 p1) (h2 : in32 p2) (h3 : in32 p3) (h4 : in32 p4) : Both (fun σ => f_X8_contract σ p1 p2 p3 p4) (fun σ => f_X9_contract σ p1 p2 p3 p4) σ := by
  unfold Both
  dsimp only
  have n1 : ∀ σ', f_X9_contract σ' p1 p2 p3 p4 = if 0 ≤ p1 ∧ p1 ≤ 7 then if 0 ≤ p2 ∧ p2 ≤ 29 then if 0 ≤ p3 ∧ p3 ≤ 99 then if 0 ≤ p4 ∧ p4 ≤ 99 then chk (ix (4 * p1) 32) (chk (ix ((4 * p1) + 1) 32) (chk (ix ((4 * p1) + 2) 32) (chk (ix ((4 * p1) + 3) 32) (some ((σ' 69 (4 * p1).toNat), (su (su (su (su σ' 69 (4 * p1).toNat 1) 69 ((4 * p1) + 1).toNat p2) 69 ((4 * p1) + 2).toNat p3) 69 ((4 * p1) + 3).toNat p4)))))) else some (-2, σ') else some (-2, σ') else some (-2, σ') else some (-2, σ') := fun σ' => by
    unfold f_X9_contract
    rw [chk_pos h1, m_in (by omega) (by omega) (by omega), cll_pos, chk_b01, ite_b0, m_isDay h2, cll_pos, chk_b01, ite_b0, chk_pos h3, m_in (by omega) (by omega) (by omega), cll_pos, chk_b01, ite_b0, chk_pos h4, m_in (by omega) (by omega) (by omega), cll_pos, chk_b01, ite_b0]
  unfold f_X8_contract
  rw [v_inside h1 (by decide), cll_pos, chk_b01, ite_b0, v_inside h2 (by decide), cll_pos, chk_b01, ite_b0, v_inside h3 (by decide), cll_pos, chk_b01, ite_b0, v_inside h4 (by decide), cll_pos, chk_b01, ite_b0]
  by_cases q1 : 0 ≤ p1 ∧ p1 < 8
  · by_cases q2 : 0 ≤ p2 ∧ p2 < 30
    · by_cases q3 : 0 ≤ p3 ∧ p3 < 100
      · by_cases q4 : 0 ≤ p4 ∧ p4 < 100
        · obtain ⟨k, rfl⟩ := ex_nat q1.1
          have hk : k < 8 := by omega
          have c := hI.1.c5
          obtain ⟨N, hN⟩ := ex_nat c.1.1
          have hN2 : N < 256 := by have := c.1.2; omega
          have con := hI.2.1.con hk
          have e0 : (k : Int).toNat = k := by omega
          have p2k : 2 ^ k < 256 := by
            have := Nat.pow_lt_pow_right (a := 2) (by omega) hk
            omega
          rw [if_pos q1, if_pos q2, if_pos q3, if_pos q4, v_isSigned hI.1 hk, cll_pos, chk_b01, ite_b0]
          have hb : ∀ t : Int, B_X8_contract_56 σ k p2 p3 p4 t = some (t, su (su (su (su σ 38 k p2) 39 k p3) 40 k p4) 37 6 ((N ||| 2 ^ k : Nat) : Int)) := fun t => by
            unfold B_X8_contract_56 f_X0_sign
            rw [v_inside h1 (by decide), cll_pos, chk_b01, ite_b0, if_pos q1, chk_pos (by omega), e0, su_ne 37 (by decide), su_ne 37 (by decide), su_ne 37 (by decide), hN, shl1 (by omega), orZ_nat (by omega) (by omega), cll_pos]
          have hr : (if σ 69 (4 * k) = 1 then B_X8_contract_56 σ k p2 p3 p4 1 else B_X8_contract_56 σ k p2 p3 p4 0) = some (σ 69 (4 * k), su (su (su (su σ 38 k p2) 39 k p3) 40 k p4) 37 6 ((N ||| 2 ^ k : Nat) : Int)) := by
            rw [hb, hb]
            have cc : σ 69 (4 * k) = 0 ∨ σ 69 (4 * k) = 1 := con.1
            rcases cc with g | g
            · rw [g, if_neg (by decide)]
            · rw [g, if_pos rfl]
          rw [hr]
          have hNlt : N ||| 2 ^ k < 256 := Nat.or_lt_two_pow (n := 8) hN2 p2k
          generalize hσ1 : su (su (su (su σ 38 k p2) 39 k p3) 40 k p4) 37 6 ((N ||| 2 ^ k : Nat) : Int) = σ1
          have f1 : ∀ j, j ≠ 37 → j ≠ 38 → j ≠ 39 → j ≠ 40 → σ1 j = σ j := fun j a1 a2 a3 a4 => by rw [← hσ1, su_ne j a1, su_ne j a4, su_ne j a3, su_ne j a2]
          have f37 : σ1 37 6 = ((N ||| 2 ^ k : Nat) : Int) := by rw [← hσ1, su_eq, if_pos rfl]
          have f38 : ∀ j, σ1 38 j = if j = k then p2 else σ 38 j := fun j => by rw [← hσ1, su_ne 38 (by decide), su_ne 38 (by decide), su_ne 38 (by decide), su_eq]
          have f39 : ∀ j, σ1 39 j = if j = k then p3 else σ 39 j := fun j => by rw [← hσ1, su_ne 39 (by decide), su_ne 39 (by decide), su_eq, su_ne 39 (by decide)]
          have f40 : ∀ j, σ1 40 j = if j = k then p4 else σ 40 j := fun j => by rw [← hσ1, su_ne 40 (by decide), su_eq, su_ne 40 (by decide), su_ne 40 (by decide)]
          refine ⟨σ 69 (4 * k), σ1, su (su (su (su σ1 69 (4 * k) 1) 69 (4 * k + 1) p2) 69 (4 * k + 2) p3) 69 (4 * k + 3) p4, rfl, ?_, ?_⟩
          · rw [n1, if_pos (by omega), if_pos (by omega), if_pos (by omega), if_pos (by omega), chk_pos (by omega), chk_pos (by omega), chk_pos (by omega), chk_pos (by omega), f1 69 (by decide) (by decide) (by decide) (by decide), show (4 * (k : Int)).toNat = 4 * k by omega, show (4 * (k : Int) + 1).toNat = 4 * k + 1 by omega, show (4 * (k : Int) + 2).toNat = 4 * k + 2 by omega, show (4 * (k : Int) + 3).toNat = 4 * k + 3 by omega]
          · generalize hσ2 : su (su (su (su σ1 69 (4 * k) 1) 69 (4 * k + 1) p2) 69 (4 * k + 2) p3) 69 (4 * k + 3) p4 = σ2
            have g1 : ∀ j, j ≠ 69 → σ2 j = σ1 j := fun j a => by rw [← hσ2, su_ne j a, su_ne j a, su_ne j a, su_ne j a]
            have g69 : ∀ j, σ2 69 j = if j = 4 * k + 3 then p4 else if j = 4 * k + 2 then p3 else if j = 4 * k + 1 then p2 else if j = 4 * k then 1 else σ 69 j := fun j => by rw [← hσ2, su_eq, su_eq, su_eq, su_eq, f1 69 (by decide) (by decide) (by decide) (by decide)]
            have ga : ∀ i, σ2 69 (4 * i) = if i = k then 1 else σ 69 (4 * i) := fun i => by
              rw [g69, if_neg (by omega), if_neg (by omega), if_neg (by omega)]
              by_cases e : i = k
              · rw [if_pos e, if_pos (by omega)]
              · rw [if_neg e, if_neg (by omega)]
            have gb : ∀ i, σ2 69 (4 * i + 1) = if i = k then p2 else σ 69 (4 * i + 1) := fun i => by
              rw [g69, if_neg (by omega), if_neg (by omega)]
              by_cases e : i = k
              · rw [if_pos e, if_pos (by omega)]
              · rw [if_neg e, if_neg (by omega), if_neg (by omega)]
            have gc : ∀ i, σ2 69 (4 * i + 2) = if i = k then p3 else σ 69 (4 * i + 2) := fun i => by
              rw [g69, if_neg (by omega)]
              by_cases e : i = k
              · rw [if_pos e, if_pos (by omega)]
              · rw [if_neg e, if_neg (by omega), if_neg (by omega), if_neg (by omega)]
            have gd : ∀ i, σ2 69 (4 * i + 3) = if i = k then p4 else σ 69 (4 * i + 3) := fun i => by
              rw [g69]
              by_cases e : i = k
              · rw [if_pos e, if_pos (by omega)]
              · rw [if_neg e, if_neg (by omega), if_neg (by omega), if_neg (by omega), if_neg (by omega)]
            refine inv_con hI (fun j a1 a2 a3 a4 a5 => by rw [g1 j a5, f1 j a1 a2 a3 a4]) ⟨?_, fun i hi => ?_⟩ (fun i hi => ?_)
            · rw [g1 37 (by decide), f37]
              omega
            · rw [g1 37 (by decide), f37, g1 38 (by decide), f38, g1 39 (by decide), f39, g1 40 (by decide), f40, ga, gb, gc, gd, Int.toNat_natCast, Nat.testBit_or, Nat.testBit_two_pow]
              have o := c.2 i hi
              rw [hN, Int.toNat_natCast] at o
              by_cases e : i = k
              · rw [if_pos e, if_pos e, if_pos e, if_pos e, if_pos e, if_pos e, if_pos e, decide_eq_true e.symm, Bool.or_true]
                exact ⟨rfl, rfl, rfl, rfl⟩
              · rw [if_neg e, if_neg e, if_neg e, if_neg e, if_neg e, if_neg e, if_neg e, decide_eq_false (fun w => e w.symm), Bool.or_false]
                exact o
            · rw [ga, gb, gc, gd]
              have o := hI.2.1.con hi
              by_cases e : i = k
              · rw [if_pos e, if_pos e, if_pos e, if_pos e]
                exact ⟨Or.inr rfl, by omega, by omega, by omega⟩
              · rw [if_neg e, if_neg e, if_neg e, if_neg e]
                exact o
        · rw [if_pos q1, if_pos q2, if_pos q3, if_neg q4]
          refine ⟨-2, σ, σ, rfl, ?_, hI⟩
          rw [n1, if_pos (by omega), if_pos (by omega), if_pos (by omega), if_neg (by omega)]
      · rw [if_pos q1, if_pos q2, if_neg q3]
        refine ⟨-2, σ, σ, rfl, ?_, hI⟩
        rw [n1, if_pos (by omega), if_pos (by omega), if_neg (by omega)]
    · rw [if_pos q1, if_neg q2]
      refine ⟨-2, σ, σ, rfl, ?_, hI⟩
      rw [n1, if_pos (by omega), if_neg (by omega)]
  · rw [if_neg q1]
    refine ⟨-2, σ, σ, rfl, ?_, hI⟩
    rw [n1, if_neg (by omega)]
theorem b_tears {σ : St} (hI : Inv σ) {p1 : Int} (h1 : in32 p1) : Both (fun σ => f_X8_tears σ p1) (fun σ => f_X9_tears σ p1) σ := by
  unfold Both
  dsimp only
  have n1 : ∀ σ', f_X9_tears σ' p1 = if 0 ≤ p1 ∧ p1 ≤ 7 then chk (ix (4 * p1) 32) (some ((σ' 69 (4 * p1).toNat), (su σ' 69 (4 * p1).toNat 0))) else some (-2, σ') := fun σ' => by
    unfold f_X9_tears
    rw [chk_pos h1, m_in (by omega) (by omega) (by omega), cll_pos, chk_b01, ite_b0]
  unfold f_X8_tears
  rw [v_inside h1 (by decide), cll_pos, chk_b01, ite_b0]
  by_cases q1 : 0 ≤ p1 ∧ p1 < 8
  · obtain ⟨k, rfl⟩ := ex_nat q1.1
    have hk : k < 8 := by omega
    have c := hI.1.c5
    obtain ⟨N, hN⟩ := ex_nat c.1.1
    have hN2 : N < 256 := by have := c.1.2; omega
    have con := hI.2.1.con hk
    have e0 : (k : Int).toNat = k := by omega
    have p2k : 2 ^ k < 256 := by
      have := Nat.pow_lt_pow_right (a := 2) (by omega) hk
      omega
    rw [if_pos q1, v_isSigned hI.1 hk, cll_pos, chk_b01, ite_b0]
    have hb : ∀ t : Int, B_X8_tears_28 σ k t = some (t, su σ 37 6 ((N ^^^ (N &&& 2 ^ k) : Nat) : Int)) := fun t => by
      unfold B_X8_tears_28 f_X0_tearUp
      rw [hN, shl1 (by omega), andnZ_nat (by omega) (by omega), cll_pos]
    have hr : (if σ 69 (4 * k) = 1 then B_X8_tears_28 σ k 1 else B_X8_tears_28 σ k 0) = some (σ 69 (4 * k), su σ 37 6 ((N ^^^ (N &&& 2 ^ k) : Nat) : Int)) := by
      rw [hb, hb]
      have cc : σ 69 (4 * k) = 0 ∨ σ 69 (4 * k) = 1 := con.1
      rcases cc with g | g
      · rw [g, if_neg (by decide)]
      · rw [g, if_pos rfl]
    rw [hr]
    have hNlt : N ^^^ (N &&& 2 ^ k) < 256 := Nat.xor_lt_two_pow (n := 8) hN2 (Nat.lt_of_le_of_lt Nat.and_le_left hN2)
    have f69 : su σ 37 6 ((N ^^^ (N &&& 2 ^ k) : Nat) : Int) 69 = σ 69 := su_ne 69 (by decide)
    refine ⟨σ 69 (4 * k), _, su (su σ 37 6 ((N ^^^ (N &&& 2 ^ k) : Nat) : Int)) 69 (4 * k) 0, rfl, ?_, ?_⟩
    · rw [n1, if_pos (by omega), chk_pos (by omega), f69, show (4 * (k : Int)).toNat = 4 * k by omega]
    · refine inv_con hI (fun j a1 a2 a3 a4 a5 => by rw [su_ne j a5, su_ne j a1]) ⟨?_, fun i hi => ?_⟩ (fun i hi => ?_)
      · rw [su_ne 37 (by decide), su_eq, if_pos rfl]
        omega
      · rw [su_ne 37 (by decide), su_ne 38 (by decide), su_ne 39 (by decide), su_ne 40 (by decide), su_ne 38 (by decide), su_ne 39 (by decide), su_ne 40 (by decide), su_eq, su_eq, su_eq, su_eq, su_eq, f69, if_pos rfl, Int.toNat_natCast, Nat.testBit_xor, Nat.testBit_and, Nat.testBit_two_pow, if_neg (show ¬ 4 * i + 1 = 4 * k by omega), if_neg (show ¬ 4 * i + 2 = 4 * k by omega), if_neg (show ¬ 4 * i + 3 = 4 * k by omega)]
        have o := c.2 i hi
        rw [hN, Int.toNat_natCast] at o
        by_cases e : i = k
        · rw [decide_eq_true e.symm, if_pos (by omega), Bool.and_true, Bool.xor_self]
          exact ⟨rfl, o.2⟩
        · rw [decide_eq_false (fun w => e w.symm), if_neg (by omega), Bool.and_false, Bool.xor_false]
          exact o
      · rw [su_eq, su_eq, su_eq, su_eq, f69, if_neg (show ¬ 4 * i + 1 = 4 * k by omega), if_neg (show ¬ 4 * i + 2 = 4 * k by omega), if_neg (show ¬ 4 * i + 3 = 4 * k by omega)]
        have o := hI.2.1.con hi
        refine ⟨?_, o.2⟩
        by_cases e : 4 * i = 4 * k
        · rw [if_pos e]; exact Or.inl rfl
        · rw [if_neg e]; exact o.1
  · rw [if_neg q1]
    refine ⟨-2, σ, σ, rfl, ?_, hI⟩
    rw [n1, if_neg (by omega)]
theorem inv_fac {σ σ' : St} (hI : Inv σ) (hk : ∀ k, k ≠ 45 → k ≠ 46 → k ≠ 47 → k ≠ 48 → k ≠ 58 → k ≠ 70 → σ' k = σ k) (h58 : ∀ j, j ≠ 17 → σ' 58 j = σ 58 j) (h6 : C6 σ') (r17 : 0 ≤ σ' 58 17 ∧ σ' 58 17 ≤ 8) (r12 : ∀ k, k < 8 → (0 ≤ σ' 70 (3 * k) ∧ σ' 70 (3 * k) ≤ 29) ∧ (0 ≤ σ' 70 (3 * k + 1) ∧ σ' 70 (3 * k + 1) ≤ 11) ∧ (σ' 70 (3 * k + 2) = 0 ∨ σ' 70 (3 * k + 2) = 1)) : Inv σ' := by
  obtain ⟨a1, a2, a3, a4, a5, a6, a7, a8, a9, a10, a11, a12⟩ := hI.2.1
  have e69 : σ' 69 = σ 69 := hk 69 (by decide) (by decide) (by decide) (by decide) (by decide) (by decide)
  have e59 : σ' 59 = σ 59 := hk 59 (by decide) (by decide) (by decide) (by decide) (by decide) (by decide)
  have e60 : σ' 60 = σ 60 := hk 60 (by decide) (by decide) (by decide) (by decide) (by decide) (by decide)
  have e61 : σ' 61 = σ 61 := hk 61 (by decide) (by decide) (by decide) (by decide) (by decide) (by decide)
  exact inv_rest hI (fun k h => hk k (by omega) (by omega) (by omega) (by omega) (by omega) (by omega)) h58 (hI.1.c5.of (fun k h => hk k (by omega) (by omega) (by omega) (by omega) (by omega) (by omega)) (by rw [hk 37 (by decide) (by decide) (by decide) (by decide) (by decide) (by decide)])) h6 (hI.1.c7.of fun k h => hk k (by omega) (by omega) (by omega) (by omega) (by omega) (by omega)) (by rw [e69]; exact a7) r17 r12 (by rw [e59, e60]; exact a10) (by rw [e61]; exact a11)
theorem b_forget {σ : St} (hI : Inv σ) : Both (fun σ => f_X8_forget σ) (fun σ => f_X9_forget σ) σ := by
  unfold Both
  dsimp only
  have c := hI.1.c6
  unfold f_X8_forget f_X2_clear f_X9_forget
  refine ⟨σ 45 3, su σ 45 3 0, su (su σ 45 3 0) 58 17 0, rfl, ?_, ?_⟩
  · rw [su_ne 58 (by decide), c.1]
  · refine inv_fac hI (fun k a1 a2 a3 a4 a5 a6 => by rw [su_ne k a5, su_ne k a1]) (fun j hj => by rw [su_eq, if_neg hj, su_ne 58 (by decide)]) ⟨?_, fun k hk => ?_⟩ ?_ (fun k hk => ?_)
    · rw [su_ne 45 (by decide), su_eq, if_pos rfl, su_eq, if_pos rfl]
    · rw [su_eq, if_pos rfl] at hk
      omega
    · rw [su_eq, if_pos rfl]
      decide
    · rw [su_ne 70 (by decide), su_ne 70 (by decide)]
      exact hI.2.1.fac hk
