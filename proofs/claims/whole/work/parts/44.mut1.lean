/-! BOTH SIDES: changes of texts, deed, odds, dikes, contracts, facts -/
theorem Inv.of8 {σ : St} (h1 : C1 σ) (h2 : C2 σ) (h3 : C3 σ) (h4 : C4 σ) (h5 : C5 σ) (h6 : C6 σ) (h7 : C7 σ) (h8 : C8 σ) (hM : MI (mv σ)) (hg : GN σ) (hf : FRS σ) : Inv σ := ⟨⟨h1, h2, h3, h4, h5, h6, h7, h8⟩, hM, hg, hf⟩
theorem z4_32 : in32 4 := by decide
theorem Inv.stale {σ : St} (hI : Inv σ) : Inv (su σ 16 8 1) := by
  have cv : CV (su σ 16 8 1) σ := CV.su (by omega)
  exact hI.eq cv.eq (Or.inl (by rw [su_eq, if_pos rfl]))
theorem mv_lo {σ : St} {k i : Nat} {v : Int} (h : k < 58) : mv (su σ k i v) = mv σ := mv_of fun j hj => su_ne j (by omega)
theorem inv_find {σ : St} (hI : Inv σ) {f : Int} (hf : 0 ≤ f ∧ f ≤ 5) : Inv (su (su σ 0 10 f) 58 4 f) := by
  have hm : mv (su (su σ 0 10 f) 58 4 f) = su (mv σ) 0 4 f := by rw [mvw4, mv_lo (by omega)]
  have e : ∀ k, k ≠ 0 → k ≠ 58 → su (su σ 0 10 f) 58 4 f k = σ k := fun k h1 h2 => by rw [su_ne k h2, su_ne k h1]
  have e58 : ∀ j, j ≠ 4 → su (su σ 0 10 f) 58 4 f 58 j = σ 58 j := fun j hj => by rw [su_eq, if_neg hj, su_ne 58 (by decide)]
  refine Inv.of8 (hI.1.c1.of fun k h => e k (by omega) (by omega)) (hI.1.c2.of fun k h => e k (by omega) (by omega)) (hI.1.c3.of fun k h => e k (by omega) (by omega)) (hI.1.c4.of (fun k h => e k (by omega) (by omega)) (e58 9 (by decide))) (hI.1.c5.of (fun k h => e k (by omega) (by omega)) (by rw [e 37 (by decide) (by decide)])) (hI.1.c6.of (fun k h => e k (by omega) (by omega)) (e58 17 (by decide))) (hI.1.c7.of fun k h => e k (by omega) (by omega)) ?_ (by rw [hm]; exact hI.2.1.u04 hf) ?_ ?_
  · unfold C8
    rw [su_eq, if_pos rfl, su_ne 0 (by decide), su_eq, if_pos rfl]
  · unfold GN
    rw [e58 12 (by decide)]
    exact hI.2.2.1
  · refine hI.2.2.2.of2 ?_ ?_ ?_ ?_ ?_ (fun k h1 h2 => e k (by omega) (by omega))
    · rw [hm, su_ne 5 (by decide)]
    · rw [hm, su_ne 6 (by decide)]
    · rw [hm, su_ne 7 (by decide)]
    · rw [hm, su_ne 9 (by decide)]
    · rw [hm, su_eq, if_neg (by decide)]
/-- a change of texts or deed: the valley is stale -/
theorem inv_text {σ : St} (hI : Inv σ) {t n : Nat} (ht : t < 4) {σ' : St} (hk : ∀ k, k ≠ 2 + t → k ≠ 6 + t → k ≠ 16 → k ≠ 63 → k ≠ 64 → σ' k = σ k) (hs : σ' 16 8 = 1) (hn : n ≤ rr_tl t) (hl : σ' (2 + t) 1 = n) (hm6 : σ' 64 = su σ 64 t n 64) (hb : ∀ i, i < n → σ' (6 + t) i = σ' 63 (30 * t + i)) (h63 : ∀ j, (j < 30 * t ∨ 30 * t + 30 ≤ j) → σ' 63 j = σ 63 j) (hr : ∀ j, j < 120 → 0 ≤ σ' 63 j ∧ σ' 63 j ≤ 255) : Inv σ' := by
  have htl : rr_tl t ≤ 30 := by unfold rr_tl; split <;> omega
  refine Inv.of8 ?_ (hI.1.c2.of fun k h => hk k (by omega) (by omega) (by omega) (by omega) (by omega)) (hI.1.c3.of fun k h => hk k (by omega) (by omega) (by omega) (by omega) (by omega)) (hI.1.c4.of (fun k h => hk k (by omega) (by omega) (by omega) (by omega) (by omega)) (by rw [hk 58 (by omega) (by omega) (by omega) (by omega) (by omega)])) (hI.1.c5.of (fun k h => hk k (by omega) (by omega) (by omega) (by omega) (by omega)) (by rw [hk 37 (by omega) (by omega) (by omega) (by omega) (by omega)])) (hI.1.c6.of (fun k h => hk k (by omega) (by omega) (by omega) (by omega) (by omega)) (by rw [hk 58 (by omega) (by omega) (by omega) (by omega) (by omega)])) (hI.1.c7.of fun k h => hk k (by omega) (by omega) (by omega) (by omega) (by omega)) (hI.1.c8.of (by rw [hk 0 (by omega) (by omega) (by omega) (by omega) (by omega)]) (by rw [hk 58 (by omega) (by omega) (by omega) (by omega) (by omega)])) ?_ (by unfold GN; rw [hk 58 (by omega) (by omega) (by omega) (by omega) (by omega)]; exact hI.2.2.1) (Or.inl hs)
  · intro u hu
    by_cases e : u = t
    · subst e
      rw [hl, hm6, su_eq, if_pos rfl]
      exact ⟨rfl, fun i hi => hb i (by omega)⟩
    · have o := hI.1.c1 u hu
      have r := hI.2.1.1 u hu
      rw [mv_6] at r
      have utl : rr_tl u ≤ 30 := by unfold rr_tl; split <;> omega
      rw [hm6, su_eq, if_neg e, hk (2 + u) (by omega) (by omega) (by omega) (by omega) (by omega), hk (6 + u) (by omega) (by omega) (by omega) (by omega) (by omega)]
      refine ⟨o.1, fun i hi => ?_⟩
      rw [h63 (30 * u + i) (by omega)]
      exact o.2 i hi
  · have e0 : ∀ j, mv σ' 0 j = mv σ 0 j := fun j => by
      match j with
      | 4 => exact congrFun (hk 58 (by omega) (by omega) (by omega) (by omega) (by omega)) 4
      | 9 => exact congrFun (hk 58 (by omega) (by omega) (by omega) (by omega) (by omega)) 9
      | 17 => exact congrFun (hk 58 (by omega) (by omega) (by omega) (by omega) (by omega)) 17
      | 0 | 1 | 2 | 3 | 5 | 6 | 7 | 8 | 10 | 11 | 12 | 13 | 14 | 15 | 16 => rfl
      | n + 18 => rfl
    obtain ⟨a1, a2, a3, a4, a5, a6, a7, a8, a9, a10, a11, a12⟩ := hI.2.1
    have e7 : mv σ' 7 = mv σ 7 := hk 65 (by omega) (by omega) (by omega) (by omega) (by omega)
    have e8 : mv σ' 8 = mv σ 8 := hk 66 (by omega) (by omega) (by omega) (by omega) (by omega)
    have e11 : mv σ' 11 = mv σ 11 := hk 69 (by omega) (by omega) (by omega) (by omega) (by omega)
    have e12 : mv σ' 12 = mv σ 12 := hk 70 (by omega) (by omega) (by omega) (by omega) (by omega)
    have e1 : mv σ' 1 = mv σ 1 := hk 59 (by omega) (by omega) (by omega) (by omega) (by omega)
    have e2 : mv σ' 2 = mv σ 2 := hk 60 (by omega) (by omega) (by omega) (by omega) (by omega)
    have e3 : mv σ' 3 = mv σ 3 := hk 61 (by omega) (by omega) (by omega) (by omega) (by omega)
    have e9 : mv σ' 9 = mv σ 9 := by
      funext j
      show (if (j : Int) < 3 * σ' 58 9 then σ' 67 j else 0) = (if (j : Int) < 3 * σ 58 9 then σ 67 j else 0)
      rw [hk 58 (by omega) (by omega) (by omega) (by omega) (by omega), hk 67 (by omega) (by omega) (by omega) (by omega) (by omega)]
    refine ⟨fun u hu => ?_, hr, by rw [e7]; exact a3, by rw [e8]; exact a4, by rw [e0]; exact a5, by rw [e0, e9]; exact a6, by rw [e11]; exact a7, by rw [e0]; exact a8, by rw [e12]; exact a9, by rw [e1, e2]; exact a10, by rw [e3]; exact a11, by rw [e0]; exact a12⟩
    rw [mv_6, hm6, su_eq]
    by_cases e : u = t
    · rw [if_pos e, e]
      omega
    · rw [if_neg e]
      exact a1 u hu
theorem b_type {σ : St} (hI : Inv σ) {p1 p2 : Int} (h1 : in32 p1) (h2 : in32 p2) : Both (fun σ => f_X8_type σ p1 p2) (fun σ => f_X9_type σ p1 p2) σ := by
  unfold Both
  dsimp only
  unfold f_X8_type
  rw [v_inside h1 (by decide), cll_pos, chk_b01, ite_b0, v_inside h2 (by decide), cll_pos, chk_b01, ite_b0]
  have n1 : ∀ σ', f_X9_type σ' p1 p2 = if 0 ≤ p1 ∧ p1 ≤ 3 then (if 0 ≤ p2 ∧ p2 ≤ 255 then chk (ix p1 4) (chk (in32 p1) (if p1 = 3 then B_X9_type_40 σ' p1 p2 12 (σ' 64 p1.toNat) else B_X9_type_40 σ' p1 p2 30 (σ' 64 p1.toNat))) else some (-2, σ')) else some (-2, σ') := fun σ' => by
    unfold f_X9_type
    rw [m_isText h1, cll_pos, chk_b01, ite_b0, chk_pos h2, m_in (by omega) (by omega) (by omega), cll_pos, chk_b01, ite_b0]
  by_cases q1 : 0 ≤ p1 ∧ p1 < 4
  · by_cases q2 : 0 ≤ p2 ∧ p2 < 256
    · obtain ⟨t, rfl⟩ := ex_nat q1.1
      have ht : t < 4 := by omega
      have c := hI.1.c1 t ht
      have r := hI.2.1.1 t ht
      rw [mv_6] at r
      have htl := rr_tl_le t
      have htl2 : rr_tl t ≤ 30 := by unfold rr_tl; split <;> omega
      obtain ⟨n, hn⟩ := ex_nat r.1
      have e0 : (t : Int).toNat = t := by omega
      have tl3 : (rr_tl t : Nat) = if (t : Int) = 3 then 12 else 30 := by
        unfold rr_tl
        by_cases z : t = 3
        · rw [if_pos z, if_pos (by omega)]
        · rw [if_neg z, if_neg (by omega)]
      rw [if_pos q1, if_pos q2, chk_pos (by omega), e0]
      unfold f_X5_isFull
      rw [c.1, hn, chk_pos (by omega), chk_pos (by omega)]
      have nB : ∀ σ' : St, σ' 64 t = (n : Int) → f_X9_type σ' t p2 = B_X9_type_40 σ' t p2 (rr_tl t : Nat) n := fun σ' hσ => by
        rw [n1, if_pos (by omega), if_pos (by omega), chk_pos (by omega), chk_pos h1, e0, hσ, tl3]
        by_cases z : (t : Int) = 3
        · rw [if_pos z, if_pos z]; rfl
        · rw [if_neg z, if_neg z]; rfl
      by_cases z : (n : Int) < (rr_tl t : Nat)
      · rw [if_pos z, cll_pos, chk_pos (by decide), if_pos rfl]
        have ap : f_X5_append t σ p2 = some (0, su (su σ (6 + t) n p2) (2 + t) 1 (n + 1)) := by
          unfold f_X5_append
          rw [c.1, hn, v_inside (by omega) (by omega), cll_pos, chk_b01, ite_b0, if_pos (by omega), c.1, hn, chk_pos (by omega), show (n : Int).toNat = n by omega, su_ne (2 + t) (by omega), c.1, hn]
        rw [ap, cll_pos]
        unfold f_X6_change
        rw [cll_pos]
        have l1 : su (su (su σ (6 + t) n p2) (2 + t) 1 ((n : Int) + 1)) 16 8 1 (2 + t) 1 = (n : Int) + 1 := by rw [su_ne (2 + t) (by omega), su_eq, if_pos rfl]
        have l2 : su (su (su σ (6 + t) n p2) (2 + t) 1 ((n : Int) + 1)) 16 8 1 64 = σ 64 := by rw [su_ne 64 (by omega), su_ne 64 (by omega), su_ne 64 (by omega)]
        have l3 : su (su (su σ (6 + t) n p2) (2 + t) 1 ((n : Int) + 1)) 16 8 1 63 = σ 63 := by rw [su_ne 63 (by omega), su_ne 63 (by omega), su_ne 63 (by omega)]
        have l4 : su (su (su (su σ (6 + t) n p2) (2 + t) 1 ((n : Int) + 1)) 16 8 1) 63 (30 * t + n) p2 64 t = (n : Int) := by rw [su_ne 64 (by decide), l2]; exact hn
        rw [l1]
        refine ⟨(n : Int) + 1, _, su (su (su (su (su σ (6 + t) n p2) (2 + t) 1 ((n : Int) + 1)) 16 8 1) 63 (30 * t + n) p2) 64 t ((n : Int) + 1), rfl, ?_, ?_⟩
        · rw [nB _ (by rw [l2]; exact hn)]
          unfold B_X9_type_40
          rw [chk_pos (by omega), chk_pos (by omega), if_neg (by omega), chk_pos (by omega), e0, l2, hn, show (30 * (t : Int) + (n : Int)).toNat = 30 * t + n by omega, chk_pos (by omega), l4, su_eq, if_pos rfl]
        · refine inv_text hI ht (n := n + 1) (fun k a1 a2 a3 a4 a5 => ?_) ?_ (by omega) ?_ ?_ (fun i hi => ?_) (fun j hj => ?_) (fun j hj => ?_)
          · rw [su_ne k a5, su_ne k a4, su_ne k a3, su_ne k a1, su_ne k a2]
          · rw [su_ne 16 (by decide), su_ne 16 (by decide), su_eq, if_pos rfl]
          · rw [su_ne (2 + t) (by omega), su_ne (2 + t) (by omega), l1]; omega
          · funext i
            rw [su_eq, su_eq, su_ne 64 (by decide), l2]
            rfl
          · rw [su_ne (6 + t) (by omega), su_ne (6 + t) (by omega), su_ne (6 + t) (by omega), su_ne (6 + t) (by omega), su_eq, su_ne 63 (by decide), su_eq, l3]
            by_cases e : i = n
            · rw [if_pos e, if_pos (by omega)]
            · rw [if_neg e, if_neg (by omega)]
              exact c.2 i (by omega)
          · rw [su_ne 63 (by decide), su_eq, if_neg (by omega), l3]
          · rw [su_ne 63 (by decide), su_eq, l3]
            split
            · omega
            · exact hI.2.1.byt hj
      · rw [if_neg z, cll_pos, chk_pos (by decide), if_neg (by decide)]
        refine ⟨-4, σ, σ, rfl, ?_, hI⟩
        rw [nB σ hn]
        unfold B_X9_type_40
        rw [chk_pos (by omega), chk_pos (by omega), if_pos (by omega)]
    · rw [if_pos q1, if_neg q2]
      refine ⟨-2, σ, σ, rfl, ?_, hI⟩
      rw [n1, if_pos (by omega), if_neg (by omega)]
  · rw [if_neg q1]
    refine ⟨-2, σ, σ, rfl, ?_, hI⟩
    rw [n1, if_neg (by omega)]
theorem b_undo {σ : St} (hI : Inv σ) {p1 : Int} (h1 : in32 p1) : Both (fun σ => f_X8_undo σ p1) (fun σ => f_X9_undo σ p1) σ := by
  unfold Both
  dsimp only
  unfold f_X8_undo f_X9_undo
  simp only [v_inside h1 z4_32, m_isText h1, cll_pos, chk_b01, ite_b0]
  by_cases q1 : 0 ≤ p1 ∧ p1 < 4
  · obtain ⟨t, rfl⟩ := ex_nat q1.1
    have ht : t < 4 := by omega
    have c := hI.1.c1 t ht
    have r := hI.2.1.1 t ht
    rw [mv_6] at r
    have htl := rr_tl_le t
    obtain ⟨n, hn⟩ := ex_nat r.1
    have e0 : (t : Int).toNat = t := by omega
    rw [if_pos q1, chk_pos (by omega), e0, c.1, hn, chk_pos (by omega)]
    by_cases z : (n : Int) = 0
    · rw [if_pos z]
      refine ⟨-3, σ, σ, rfl, ?_, hI⟩
      rw [if_pos (by omega), chk_pos (by omega), hn, chk_pos (by omega), if_pos z]
    · rw [if_neg z]
      have dl : f_X5_dropLast t σ = some (0, su σ (2 + t) 1 ((n : Int) - 1)) := by
        unfold f_X5_dropLast
        rw [c.1, hn, chk_pos (by omega), show max ((n : Int) - 1) 0 = (n : Int) - 1 by omega]
      rw [dl, cll_pos]
      unfold f_X6_change
      rw [cll_pos]
      have l1 : su (su σ (2 + t) 1 ((n : Int) - 1)) 16 8 1 (2 + t) 1 = (n : Int) - 1 := by rw [su_ne (2 + t) (by omega), su_eq, if_pos rfl]
      have l2 : su (su σ (2 + t) 1 ((n : Int) - 1)) 16 8 1 64 = σ 64 := by rw [su_ne 64 (by omega), su_ne 64 (by omega)]
      rw [l1]
      refine ⟨(n : Int) - 1, _, su (su (su σ (2 + t) 1 ((n : Int) - 1)) 16 8 1) 64 t ((n : Int) - 1), rfl, ?_, ?_⟩
      · rw [if_pos (by omega), chk_pos (by omega), l2, hn, chk_pos (by omega), if_neg z, su_eq, if_pos rfl]
      · have e1 : (n : Int) - 1 = ((n - 1 : Nat) : Int) := by omega
        refine inv_text hI ht (n := n - 1) (fun k a1 a2 a3 a4 a5 => ?_) ?_ (by omega) ?_ ?_ (fun i hi => ?_) (fun j hj => ?_) (fun j hj => ?_)
        · rw [su_ne k a5, su_ne k a3, su_ne k a1]
        · rw [su_ne 16 (by decide), su_eq, if_pos rfl]
        · rw [su_ne (2 + t) (by omega), l1, e1]
        · funext i
          rw [su_eq, su_eq, l2, e1]
        · rw [su_ne (6 + t) (by omega), su_ne (6 + t) (by omega), su_ne (6 + t) (by omega), su_ne 63 (by decide), su_ne 63 (by decide), su_ne 63 (by omega)]
          exact c.2 i (by omega)
        · rw [su_ne 63 (by decide), su_ne 63 (by decide), su_ne 63 (by omega)]
        · rw [su_ne 63 (by decide), su_ne 63 (by decide), su_ne 63 (by omega)]
          exact hI.2.1.byt hj
  · rw [if_neg q1]
    refine ⟨-2, σ, σ, rfl, ?_, hI⟩
    rw [if_neg (by omega)]
theorem b_wipe {σ : St} (hI : Inv σ) {p1 : Int} (h1 : in32 p1) : Both (fun σ => f_X8_wipe σ p1) (fun σ => f_X9_wipe σ p1) σ := by
  unfold Both
  dsimp only
  unfold f_X8_wipe f_X9_wipe
  simp only [v_inside h1 z4_32, m_isText h1, cll_pos, chk_b01, ite_b0]
  by_cases q1 : 0 ≤ p1 ∧ p1 < 4
  · obtain ⟨t, rfl⟩ := ex_nat q1.1
    have ht : t < 4 := by omega
    have c := hI.1.c1 t ht
    have e0 : (t : Int).toNat = t := by omega
    rw [if_pos q1, chk_pos (by omega), e0, c.1]
    unfold f_X5_clear f_X6_change
    rw [cll_pos, cll_pos]
    have l2 : su (su σ (2 + t) 1 0) 16 8 1 64 = σ 64 := by rw [su_ne 64 (by omega), su_ne 64 (by omega)]
    refine ⟨σ 64 t, _, su (su (su σ (2 + t) 1 0) 16 8 1) 64 t 0, rfl, ?_, ?_⟩
    · rw [if_pos (by omega), chk_pos (by omega), l2]
    · refine inv_text hI ht (n := 0) (fun k a1 a2 a3 a4 a5 => ?_) ?_ (by omega) ?_ ?_ (fun i hi => by omega) (fun j hj => ?_) (fun j hj => ?_)
      · rw [su_ne k a5, su_ne k a3, su_ne k a1]
      · rw [su_ne 16 (by decide), su_eq, if_pos rfl]
      · rw [su_ne (2 + t) (by omega), su_ne (2 + t) (by omega), su_eq, if_pos rfl]; rfl
      · funext i
        rw [su_eq, su_eq, l2]
        rfl
      · rw [su_ne 63 (by decide), su_ne 63 (by decide), su_ne 63 (by omega)]
      · rw [su_ne 63 (by decide), su_ne 63 (by decide), su_ne 63 (by omega)]
        exact hI.2.1.byt hj
  · rw [if_neg q1]
    refine ⟨-2, σ, σ, rfl, ?_, hI⟩
    rw [if_neg (by omega)]
