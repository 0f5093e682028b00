/-! BOTH SIDES: facts told, sheets -/
theorem b_fact {σ : St} (hI : Inv σ) {p1 p2 p3 : Int} (h1 : in32 p1) (h2 : in32 p2) (h3 : in32 p3) : Both (fun σ => f_X8_fact σ p1 p2 p3) (fun σ => f_X9_fact σ p1 p2 p3) σ := by
  unfold Both
  dsimp only
  have c := hI.1.c6
  have r : 0 ≤ σ 58 17 ∧ σ 58 17 ≤ 8 := hI.2.1.2.2.2.2.2.2.2.1
  obtain ⟨n, hn⟩ := ex_nat r.1
  have hn8 : n ≤ 8 := by omega
  have e0 : (n : Int).toNat = n := by omega
  have s58 : ∀ (s : St) i v, su s 70 i v 58 = s 58 := fun s i v => su_ne 58 (by decide)
  have n1 : ∀ σ' : St, σ' 58 = σ 58 → f_X9_fact σ' p1 p2 p3 = if 0 ≤ p1 ∧ p1 ≤ 29 then if 0 ≤ p2 ∧ p2 ≤ 11 then if 0 ≤ p3 ∧ p3 ≤ 1 then if n = 8 then some (-4, σ') else some ((n : Int) + 1, su (su (su (su σ' 70 (3 * n) p1) 70 (3 * n + 1) p2) 70 (3 * n + 2) p3) 58 17 ((n : Int) + 1)) else some (-2, σ') else some (-2, σ') else some (-2, σ') := fun σ' h => by
    unfold f_X9_fact
    rw [m_isDay h1, cll_pos, chk_b01, ite_b0, chk_pos h2, m_in (by omega) (by omega) (by omega), cll_pos, chk_b01, ite_b0, m_isTwo h3, cll_pos, chk_b01, ite_b0]
    simp only [s58, h, hn]
    rw [chk_pos (by omega)]
    by_cases q : n = 8
    · rw [if_pos (show (n : Int) = 8 by omega), if_pos q]
    · rw [if_neg (show ¬ (n : Int) = 8 by omega), if_neg q, chk_pos (by omega), chk_pos (by omega), chk_pos (by omega), su_eq, if_pos rfl, show (3 * (n : Int)).toNat = 3 * n by omega, show (3 * (n : Int) + 1).toNat = 3 * n + 1 by omega, show (3 * (n : Int) + 2).toNat = 3 * n + 2 by omega]
  unfold f_X8_fact
  rw [v_inside h1 (by decide), cll_pos, chk_b01, ite_b0, v_inside h2 (by decide), cll_pos, chk_b01, ite_b0, v_inside h3 (by decide), cll_pos, chk_b01, ite_b0]
  by_cases q1 : 0 ≤ p1 ∧ p1 < 30
  · by_cases q2 : 0 ≤ p2 ∧ p2 < 12
    · by_cases q3 : 0 ≤ p3 ∧ p3 < 2
      · rw [if_pos q1, if_pos q2, if_pos q3]
        unfold f_X2_isFull
        rw [c.1, hn, chk_pos (by omega)]
        by_cases z : (n : Int) < 8
        · rw [if_pos z, cll_pos, chk_pos (by decide), if_pos rfl]
          have lr : f_X2_learn σ p1 p2 p3 = some (0, su (su (su (su σ 46 n p1) 47 n p2) 48 n p3) 45 3 ((n : Int) + 1)) := by
            unfold f_X2_learn
            have t46 : ∀ (s : St) i v, su s 46 i v 45 = s 45 := fun s i v => su_ne 45 (by decide)
            have t47 : ∀ (s : St) i v, su s 47 i v 45 = s 45 := fun s i v => su_ne 45 (by decide)
            have t48 : ∀ (s : St) i v, su s 48 i v 45 = s 45 := fun s i v => su_ne 45 (by decide)
            rw [c.1, hn, v_inside (by omega) (by omega), cll_pos, chk_b01, ite_b0, if_pos (by omega)]
            simp only [t46, t47, t48, c.1, hn, e0]
            rw [chk_pos (by omega), chk_pos (by omega), chk_pos (by omega)]
          rw [lr, cll_pos, su_eq, if_pos rfl]
          generalize hσ1 : su (su (su (su σ 46 n p1) 47 n p2) 48 n p3) 45 3 ((n : Int) + 1) = σ1
          have f1 : ∀ j, j ≠ 45 → j ≠ 46 → j ≠ 47 → j ≠ 48 → σ1 j = σ j := fun j a1 a2 a3 a4 => by rw [← hσ1, su_ne j a1, su_ne j a4, su_ne j a3, su_ne j a2]
          have f45 : σ1 45 3 = (n : Int) + 1 := by rw [← hσ1, su_eq, if_pos rfl]
          have f46 : ∀ j, σ1 46 j = if j = n then p1 else σ 46 j := fun j => by rw [← hσ1, su_ne 46 (by decide), su_ne 46 (by decide), su_ne 46 (by decide), su_eq]
          have f47 : ∀ j, σ1 47 j = if j = n then p2 else σ 47 j := fun j => by rw [← hσ1, su_ne 47 (by decide), su_ne 47 (by decide), su_eq, su_ne 47 (by decide)]
          have f48 : ∀ j, σ1 48 j = if j = n then p3 else σ 48 j := fun j => by rw [← hσ1, su_ne 48 (by decide), su_eq, su_ne 48 (by decide), su_ne 48 (by decide)]
          have f58 : σ1 58 = σ 58 := f1 58 (by decide) (by decide) (by decide) (by decide)
          refine ⟨(n : Int) + 1, σ1, su (su (su (su σ1 70 (3 * n) p1) 70 (3 * n + 1) p2) 70 (3 * n + 2) p3) 58 17 ((n : Int) + 1), rfl, ?_, ?_⟩
          · rw [n1 _ f58, if_pos (by omega), if_pos (by omega), if_pos (by omega), if_neg (by omega)]
          · generalize hσ2 : su (su (su (su σ1 70 (3 * n) p1) 70 (3 * n + 1) p2) 70 (3 * n + 2) p3) 58 17 ((n : Int) + 1) = σ2
            have g1 : ∀ j, j ≠ 58 → j ≠ 70 → σ2 j = σ1 j := fun j a b => by rw [← hσ2, su_ne j a, su_ne j b, su_ne j b, su_ne j b]
            have g58 : ∀ j, σ2 58 j = if j = 17 then (n : Int) + 1 else σ 58 j := fun j => by rw [← hσ2, su_eq, s58, s58, s58, f58]
            have g70 : ∀ j, σ2 70 j = if j = 3 * n + 2 then p3 else if j = 3 * n + 1 then p2 else if j = 3 * n then p1 else σ 70 j := fun j => by rw [← hσ2, su_ne 70 (by decide), su_eq, su_eq, su_eq, f1 70 (by decide) (by decide) (by decide) (by decide)]
            have ga : ∀ i, σ2 70 (3 * i) = if i = n then p1 else σ 70 (3 * i) := fun i => by
              rw [g70, if_neg (by omega), if_neg (by omega)]
              by_cases e : i = n
              · rw [if_pos e, if_pos (by omega)]
              · rw [if_neg e, if_neg (by omega)]
            have gb : ∀ i, σ2 70 (3 * i + 1) = if i = n then p2 else σ 70 (3 * i + 1) := fun i => by
              rw [g70, if_neg (by omega)]
              by_cases e : i = n
              · rw [if_pos e, if_pos (by omega)]
              · rw [if_neg e, if_neg (by omega), if_neg (by omega)]
            have gc : ∀ i, σ2 70 (3 * i + 2) = if i = n then p3 else σ 70 (3 * i + 2) := fun i => by
              rw [g70]
              by_cases e : i = n
              · rw [if_pos e, if_pos (by omega)]
              · rw [if_neg e, if_neg (by omega), if_neg (by omega), if_neg (by omega)]
            refine inv_fac hI (fun k a1 a2 a3 a4 a5 a6 => by rw [g1 k a5 a6, f1 k a1 a2 a3 a4]) (fun j hj => by rw [g58, if_neg hj]) ⟨?_, fun k hk => ?_⟩ ?_ (fun k hk => ?_)
            · rw [g1 45 (by decide) (by decide), f45, g58, if_pos rfl]
            · rw [g58, if_pos rfl] at hk
              rw [g1 46 (by decide) (by decide), g1 47 (by decide) (by decide), g1 48 (by decide) (by decide), f46, f47, f48, ga, gb, gc]
              by_cases e : k = n
              · simp only [if_pos e]
                exact ⟨trivial, trivial, trivial⟩
              · simp only [if_neg e]
                exact c.2 k (by omega)
            · rw [g58, if_pos rfl]
              omega
            · rw [ga, gb, gc]
              have o := hI.2.1.fac hk
              by_cases e : k = n
              · simp only [if_pos e]
                exact ⟨by omega, by omega, by omega⟩
              · simp only [if_neg e]
                exact o
        · rw [if_neg z, cll_pos, chk_pos (by decide), if_neg (by decide)]
          refine ⟨-4, σ, σ, rfl, ?_, hI⟩
          rw [n1 _ rfl, if_pos (by omega), if_pos (by omega), if_pos (by omega), if_pos (by omega)]
      · rw [if_pos q1, if_pos q2, if_neg q3]
        refine ⟨-2, σ, σ, rfl, ?_, hI⟩
        rw [n1 _ rfl, if_pos (by omega), if_pos (by omega), if_neg (by omega)]
    · rw [if_pos q1, if_neg q2]
      refine ⟨-2, σ, σ, rfl, ?_, hI⟩
      rw [n1 _ rfl, if_pos (by omega), if_neg (by omega)]
  · rw [if_neg q1]
    refine ⟨-2, σ, σ, rfl, ?_, hI⟩
    rw [n1 _ rfl, if_neg (by omega)]
theorem inv_she {σ σ' : St} (hI : Inv σ) (hk : ∀ k, k < 50 ∨ k = 58 ∨ 63 ≤ k → σ' k = σ k) (h7 : C7 σ') (r1 : ∀ s, s < 4 → (-1 ≤ σ' 59 s ∧ σ' 59 s ≤ 2) ∧ 0 ≤ σ' 60 s ∧ σ' 60 s ≤ 60) (r3 : ∀ i, i < 240 → in32 (σ' 61 i)) : Inv σ' := by
  obtain ⟨a1, a2, a3, a4, a5, a6, a7, a8, a9, a10, a11, a12⟩ := hI.2.1
  exact inv_rest hI (fun k h => hk k (by omega)) (fun j _ => by rw [hk 58 (by omega)]) (hI.1.c5.of (fun k h => hk k (by omega)) (by rw [hk 37 (by omega)])) (hI.1.c6.of (fun k h => hk k (by omega)) (by rw [hk 58 (by omega)])) h7 (by rw [hk 69 (by omega)]; exact a7) (by rw [hk 58 (by omega)]; exact a8) (by rw [hk 70 (by omega)]; exact a9) r1 r3
/-- one sheet changes, the others stay -/
theorem inv_one {σ σ' : St} (hI : Inv σ) {t : Nat} (ht : t < 4) (hk : ∀ k, k ≠ 50 + t → k ≠ 54 + t → k ≠ 59 → k ≠ 60 → k ≠ 61 → k ≠ 62 → σ' k = σ k) (h59 : ∀ u, u ≠ t → σ' 59 u = σ 59 u) (h60 : ∀ u, u ≠ t → σ' 60 u = σ 60 u) (h61 : ∀ i, (i < 60 * t ∨ 60 * t + 60 ≤ i) → σ' 61 i = σ 61 i) (hc : σ' (50 + t) 1 = σ' 59 t ∧ (0 ≤ σ' 59 t → σ' (50 + t) 2 = σ' 60 t ∧ ∀ i : Nat, (i : Int) < σ' 60 t → σ' (54 + t) i = σ' 61 (60 * t + i))) (r1 : (-1 ≤ σ' 59 t ∧ σ' 59 t ≤ 2) ∧ 0 ≤ σ' 60 t ∧ σ' 60 t ≤ 60) (r3 : ∀ i, i < 60 → in32 (σ' 61 (60 * t + i))) : Inv σ' := by
  refine inv_she hI (fun k h => hk k (by omega) (by omega) (by omega) (by omega) (by omega) (by omega)) (fun s hs => ?_) (fun s hs => ?_) (fun i hi => ?_)
  · by_cases e : s = t
    · rw [e]; exact hc
    · have o := hI.1.c7 s hs
      have r := hI.2.1.she hs
      rw [mv_1, mv_2] at r
      rw [hk (50 + s) (by omega) (by omega) (by omega) (by omega) (by omega) (by omega), hk (54 + s) (by omega) (by omega) (by omega) (by omega) (by omega) (by omega), h59 s e, h60 s e]
      refine ⟨o.1, fun g => ⟨(o.2 g).1, fun i hi => ?_⟩⟩
      rw [h61 _ (by omega)]
      exact (o.2 g).2 i hi
  · by_cases e : s = t
    · rw [e]; exact r1
    · rw [h59 s e, h60 s e]
      exact hI.2.1.she hs
  · by_cases e : i < 60 * t ∨ 60 * t + 60 ≤ i
    · rw [h61 i e]
      exact hI.2.1.itm hi
    · have := r3 (i - 60 * t) (by omega)
      rw [show 60 * t + (i - 60 * t) = i by omega] at this
      exact this
theorem v_renewL {q : Nat} {σ0 : St} : ∀ (n j : Nat) (σ : St) (v : Int), v = j → (∀ k, k ≠ 54 + q → σ k = σ0 k) → (∀ i, i < j → σ (54 + q) i = 0) → j ≤ 60 → 61 - j < n → ∃ σ', L_X4_renew_21 q n σ v = some (0, σ') ∧ (∀ k, k ≠ 54 + q → σ' k = σ0 k) ∧ ∀ i, i < 60 → σ' (54 + q) i = 0
  | 0, j, σ, v, hv, h1, h2, hj, hn => by omega
  | n + 1, j, σ, v, hv, h1, h2, hj, hn => by
    subst hv
    rw [L_X4_renew_21, S_X4_renew_21, chk_pos (by omega)]
    by_cases e : 60 ≤ (j : Int)
    · rw [if_pos e]
      exact ⟨σ, rfl, h1, fun i hi => h2 i (by omega)⟩
    · rw [if_neg e, chk_pos (by omega), show (j : Int).toNat = j by omega]
      exact v_renewL n (j + 1) _ _ (by omega) (fun k hk => by rw [su_ne k hk]; exact h1 k hk) (fun i hi => by
        rw [su_eq]
        split
        · rfl
        · exact h2 i (by omega)) (by omega) (by omega)
theorem m_sheetL {t m : Nat} {σ0 : St} (ht : t < 4) (hm : m ≤ 60) : ∀ (n j : Nat) (σ : St) (v : Int), v = j → (∀ k, k ≠ 61 → σ k = σ0 k) → (∀ i, (i < 60 * t ∨ 60 * t + j ≤ i) → σ 61 i = σ0 61 i) → (∀ i, i < j → σ 61 (60 * t + i) = 0) → j ≤ m → m + 1 - j < n → ∃ σ', L_X9_sheet_55 n σ t m v = some ((m : Int), σ') ∧ (∀ k, k ≠ 61 → σ' k = σ0 k) ∧ (∀ i, (i < 60 * t ∨ 60 * t + m ≤ i) → σ' 61 i = σ0 61 i) ∧ ∀ i, i < m → σ' 61 (60 * t + i) = 0
  | 0, j, σ, v, hv, h1, h2, h3, hj, hn => by omega
  | n + 1, j, σ, v, hv, h1, h2, h3, hj, hn => by
    subst hv
    rw [L_X9_sheet_55, S_X9_sheet_55, chk_pos (by omega), chk_pos (by omega)]
    by_cases e : (m : Int) ≤ (j : Int)
    · rw [if_pos e]
      have : j = m := by omega
      subst this
      exact ⟨σ, rfl, h1, h2, h3⟩
    · rw [if_neg e, chk_pos (by omega), show (60 * (t : Int) + (j : Int)).toNat = 60 * t + j by omega]
      exact m_sheetL ht hm n (j + 1) _ _ (by omega) (fun k hk => by rw [su_ne k hk]; exact h1 k hk) (fun i hi => by rw [su_eq, if_neg (by omega)]; exact h2 i (by omega)) (fun i hi => by
        rw [su_eq]
        split
        · rfl
        · exact h3 i (by omega)) (by omega) (by omega)
theorem b_sheet {σ : St} (hI : Inv σ) {p1 p2 p3 : Int} (h1 : in32 p1) (h2 : in32 p2) (h3 : in32 p3) : Both (fun σ => f_X8_sheet σ p1 p2 p3) (fun σ => f_X9_sheet σ p1 p2 p3) σ := by
  unfold Both
  dsimp only
  have n1 : ∀ σ' : St, f_X9_sheet σ' p1 p2 p3 = if 0 ≤ p1 ∧ p1 ≤ 3 then if 0 ≤ p2 ∧ p2 ≤ 2 then if p3 ≤ 60 then if 0 ≤ p3 then chk (ix p1 4) (L_X9_sheet_55 FU (su (su σ' 59 p1.toNat p2) 60 p1.toNat p3) p1 p3 0) else some (-15, su σ' 58 4 5) else some (-2, σ') else some (-2, σ') else some (-2, σ') := fun σ' => by
    unfold f_X9_sheet
    rw [m_isSheet h1, cll_pos, chk_b01, ite_b0, chk_pos h2, m_in (by omega) (by omega) (by omega), cll_pos, chk_b01, ite_b0, chk_pos h3, m_met, cll_pos]
    rfl
  unfold f_X8_sheet
  rw [v_inside h1 (by decide), cll_pos, chk_b01, ite_b0, v_inside h2 (by decide), cll_pos, chk_b01, ite_b0, chk_pos h3]
  by_cases q1 : 0 ≤ p1 ∧ p1 < 4
  · by_cases q2 : 0 ≤ p2 ∧ p2 < 3
    · rw [if_pos q1, if_pos q2]
      by_cases q3 : p3 ≤ 60
      · rw [if_pos q3]
        by_cases q4 : 0 ≤ p3
        · rw [if_pos q4]
          obtain ⟨t, rfl⟩ := ex_nat q1.1
          obtain ⟨m, rfl⟩ := ex_nat q4
          have ht : t < 4 := by omega
          have hm : m ≤ 60 := by omega
          have e0 : (t : Int).toNat = t := by omega
          rw [chk_pos (by omega), e0]
          unfold f_X4_renew
          rw [chk_pos h3, chk_pos (by omega), show max 0 (min (m : Int) 60) = (m : Int) by omega]
          obtain ⟨σ1, k1, k2, k3⟩ := v_renewL (q := t) (σ0 := su (su σ (50 + t) 1 p2) (50 + t) 2 m) FU 0 _ 0 rfl (fun k _ => rfl) (fun i hi => by omega) (by omega) (by rw [FU_eq]; omega)
          rw [k1, cll_pos]
          obtain ⟨σ2, j1, j2, j3, j4⟩ := m_sheetL (t := t) (m := m) (σ0 := su (su σ1 59 t p2) 60 t m) ht hm FU 0 _ 0 rfl (fun k _ => rfl) (fun i _ => rfl) (fun i hi => by omega) (by omega) (by rw [FU_eq]; omega)
          refine ⟨m, σ1, σ2, rfl, ?_, ?_⟩
          · rw [n1, if_pos (by omega), if_pos (by omega), if_pos q3, if_pos q4, chk_pos (by omega), e0]
            exact j1
          · have f0 : ∀ k, k ≠ 50 + t → k ≠ 54 + t → σ1 k = σ k := fun k a1 a2 => by rw [k2 k a2, su_ne k a1, su_ne k a1]
            have f1 : ∀ k, k ≠ 59 → k ≠ 60 → k ≠ 61 → σ2 k = σ1 k := fun k a1 a2 a3 => by rw [j2 k a3, su_ne k a2, su_ne k a1]
            have g59 : ∀ u, σ2 59 u = if u = t then p2 else σ 59 u := fun u => by rw [j2 59 (by decide), su_ne 59 (by decide), su_eq, f0 59 (by omega) (by omega)]
            have g60 : ∀ u, σ2 60 u = if u = t then (m : Int) else σ 60 u := fun u => by rw [j2 60 (by decide), su_eq, su_ne 60 (by decide), f0 60 (by omega) (by omega)]
            have g61 : ∀ i, (i < 60 * t ∨ 60 * t + m ≤ i) → σ2 61 i = σ 61 i := fun i hi => by rw [j3 i hi, su_ne 61 (by decide), su_ne 61 (by decide), f0 61 (by omega) (by omega)]
            refine inv_one hI ht (fun k a1 a2 a3 a4 a5 a6 => by rw [f1 k a3 a4 a5, f0 k a1 a2]) (fun u hu => by rw [g59, if_neg hu]) (fun u hu => by rw [g60, if_neg hu]) (fun i hi => g61 i (by omega)) ⟨?_, fun _ => ⟨?_, fun i hi => ?_⟩⟩ ?_ (fun i hi => ?_)
            · rw [f1 (50 + t) (by omega) (by omega) (by omega), k2 (50 + t) (by omega), su_eq, if_neg (by decide), su_eq, if_pos rfl, g59, if_pos rfl]
            · rw [f1 (50 + t) (by omega) (by omega) (by omega), k2 (50 + t) (by omega), su_eq, if_pos rfl, g60, if_pos rfl]
            · rw [g60, if_pos rfl] at hi
              rw [f1 (54 + t) (by omega) (by omega) (by omega), k3 i (by omega), j4 i (by omega)]
            · rw [g59, if_pos rfl, g60, if_pos rfl]
              omega
            · by_cases e : i < m
              · rw [j4 i e]; decide
              · rw [g61 _ (by omega)]
                exact hI.2.1.itm (by omega)
        · rw [if_neg q4]
          refine ⟨-15, su σ 0 10 5, su (su σ 0 10 5) 58 4 5, rfl, ?_, inv_find hI (by omega)⟩
          rw [n1, if_pos (by omega), if_pos (by omega), if_pos q3, if_neg q4]
      · rw [if_neg q3]
        refine ⟨-2, σ, σ, rfl, ?_, hI⟩
        rw [n1, if_pos (by omega), if_pos (by omega), if_neg q3]
    · rw [if_pos q1, if_neg q2]
      refine ⟨-2, σ, σ, rfl, ?_, hI⟩
      rw [n1, if_pos (by omega), if_neg (by omega)]
  · rw [if_neg q1]
    refine ⟨-2, σ, σ, rfl, ?_, hI⟩
    rw [n1, if_neg (by omega)]
theorem b_lose {σ : St} (hI : Inv σ) {p1 : Int} (h1 : in32 p1) : Both (fun σ => f_X8_lose σ p1) (fun σ => f_X9_lose σ p1) σ := by
  unfold Both
  dsimp only
  unfold f_X8_lose f_X9_lose
  simp only [v_inside h1 z4_32, m_isSheet h1, cll_pos, chk_b01, ite_b0]
  by_cases q : 0 ≤ p1 ∧ p1 < 4
  · obtain ⟨s, rfl⟩ := ex_nat q.1
    have hs : s < 4 := by omega
    have hr := hI.2.1.she hs
    rw [mv_1, mv_2] at hr
    have e0 : (s : Int).toNat = s := by omega
    rw [if_pos q, chk_pos (by omega), e0, v_isLost hI hs, cll_pos, chk_b01, ite_b0]
    by_cases z : σ 59 s < 0
    · rw [if_pos z]
      refine ⟨-11, su σ 0 10 1, su (su σ 0 10 1) 58 4 1, rfl, ?_, inv_find hI (by omega)⟩
      have e59 : su σ 0 10 1 59 = σ 59 := su_ne 59 (by decide)
      rw [if_pos (by omega), chk_pos (by omega), e59, chk_pos (by omega), if_neg (by omega)]
      rfl
    · rw [if_neg z]
      have c7 := (hI.1.c7 s hs).2 (by omega)
      unfold f_X4_drop
      rw [cll_pos, c7.1]
      generalize hσ1 : su (su σ (50 + s) 1 (-1)) (50 + s) 2 0 = σ1
      have f1 : ∀ k, k ≠ 50 + s → σ1 k = σ k := fun k a => by rw [← hσ1, su_ne k a, su_ne k a]
      have f50 : σ1 (50 + s) 1 = -1 := by rw [← hσ1, su_eq, if_neg (by decide), su_eq, if_pos rfl]
      refine ⟨σ 60 s, σ1, su σ1 59 s (-1), rfl, ?_, ?_⟩
      · rw [if_pos (by omega), chk_pos (by omega), f1 59 (by omega), chk_pos (by omega), if_pos (by omega), su_ne 60 (by decide), f1 60 (by omega)]
      · have g59 : ∀ u, su σ1 59 s (-1) 59 u = if u = s then -1 else σ 59 u := fun u => by rw [su_eq, f1 59 (by omega)]
        refine inv_one hI hs (fun k a1 a2 a3 a4 a5 a6 => by rw [su_ne k a3, f1 k a1]) (fun u hu => by rw [g59, if_neg hu]) (fun u hu => by rw [su_ne 60 (by decide), f1 60 (by omega)]) (fun i hi => by rw [su_ne 61 (by decide), f1 61 (by omega)]) ⟨?_, fun g => ?_⟩ ?_ (fun i hi => ?_)
        · rw [su_ne (50 + s) (by omega), f50, g59, if_pos rfl]
        · rw [g59, if_pos rfl] at g
          omega
        · rw [g59, if_pos rfl, su_ne 60 (by decide), f1 60 (by omega)]
          omega
        · rw [su_ne 61 (by decide), f1 61 (by omega)]
          exact hI.2.1.itm (by omega)
  · rw [if_neg q]
    refine ⟨-2, σ, σ, rfl, ?_, hI⟩
    rw [if_neg (by omega)]
