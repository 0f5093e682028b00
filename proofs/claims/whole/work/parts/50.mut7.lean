/-! BOTH SIDES: copying and writing sheets -/
theorem b_copy {σ : St} (hI : Inv σ) {p1 p2 p3 p4 p5 : Int} (h1 : in32 p1) (h2 : in32 p2) (h3 : in32 p3) (h4 : in32 p4) (h5 : in32 p5) : Both (fun σ => f_X8_copy σ p1 p2 p3 p4 p5) (fun σ => f_X9_copy σ p1 p2 p3 p4 p5) σ := by
  unfold Both
  dsimp only
  have n1 : ∀ σ' : St, f_X9_copy σ' p1 p2 p3 p4 p5 = if 0 ≤ p1 ∧ p1 ≤ 3 then if 0 ≤ p3 ∧ p3 ≤ 3 then chk (ix p1 4) (chk (in32 (σ' 59 p1.toNat)) (if σ' 59 p1.toNat < 0 then some (-11, su σ' 58 4 1) else chk (ix p3 4) (chk (in32 (σ' 59 p3.toNat)) (if 0 ≤ σ' 59 p3.toNat then (if σ' 59 p1.toNat = σ' 59 p3.toNat then (if p2 < 0 then some (-12, su σ' 58 4 2) else (if p4 < 0 then some (-12, su σ' 58 4 2) else (if p5 < 0 then some (-12, su σ' 58 4 2) else chk (in32 (σ' 60 p1.toNat)) (chk (in64 (p2 + p5)) (if σ' 60 p1.toNat < p2 + p5 then some (-12, su σ' 58 4 2) else chk (in32 (σ' 60 p3.toNat)) (chk (in64 (p4 + p5)) (if p4 + p5 ≤ σ' 60 p3.toNat then L_X9_copy_120 FU σ' p1 p2 p3 p4 p5 0 else some (-12, su σ' 58 4 2)))))))) else some (-14, su σ' 58 4 4)) else some (-11, su σ' 58 4 1))))) else some (-2, σ') else some (-2, σ') := fun σ' => by
    unfold f_X9_copy B_X9_copy_35 B_X9_copy_111
    rw [m_isSheet h1, cll_pos, chk_b01, ite_b0, m_isSheet h3, cll_pos, chk_b01, ite_b0, chk_pos h2, chk_pos h4, chk_pos h5, m_met, m_met, m_met, cll_pos, cll_pos, cll_pos]
    rfl
  unfold f_X8_copy
  rw [v_inside h1 (by decide), cll_pos, chk_b01, ite_b0, v_inside h3 (by decide), cll_pos, chk_b01, ite_b0]
  by_cases q1 : 0 ≤ p1 ∧ p1 < 4
  · by_cases q3 : 0 ≤ p3 ∧ p3 < 4
    · obtain ⟨s, rfl⟩ := ex_nat q1.1
      obtain ⟨t, rfl⟩ := ex_nat q3.1
      have hs : s < 4 := by omega
      have ht : t < 4 := by omega
      have hr := hI.2.1.she hs
      have hrt := hI.2.1.she ht
      rw [mv_1, mv_2] at hr hrt
      have c := hI.1.c7 s hs
      have d := hI.1.c7 t ht
      have e0 : (s : Int).toNat = s := by omega
      have et : (t : Int).toNat = t := by omega
      have e59 : ∀ f, su σ 0 10 f 59 = σ 59 := fun f => su_ne 59 (by decide)
      have e60 : ∀ f, su σ 0 10 f 60 = σ 60 := fun f => su_ne 60 (by decide)
      rw [if_pos q1, if_pos q3, chk_pos (by omega), e0, v_isLost hI hs, cll_pos, chk_b01, ite_b0]
      by_cases z : σ 59 s < 0
      · rw [if_pos z]
        refine ⟨-11, su σ 0 10 1, su (su σ 0 10 1) 58 4 1, rfl, ?_, inv_find hI (by omega)⟩
        rw [n1, if_pos (by omega), if_pos (by omega), chk_pos (by omega), e0, e59, chk_pos (by omega), if_pos z]
      · rw [if_neg z, chk_pos (by omega), et, v_isLost hI ht, cll_pos, chk_b01, ite_b0]
        by_cases y : σ 59 t < 0
        · rw [if_pos y]
          refine ⟨-11, su σ 0 10 1, su (su σ 0 10 1) 58 4 1, rfl, ?_, inv_find hI (by omega)⟩
          rw [n1, if_pos (by omega), if_pos (by omega), chk_pos (by omega), e0, e59, chk_pos (by omega), if_neg z, chk_pos (by omega), et, chk_pos (by omega), if_neg (by omega)]
        · have c2 := c.2 (by omega)
          have d2 := d.2 (by omega)
          rw [if_neg y, c.1, d.1, chk_pos (by omega), chk_pos (by omega), v_hasRun c2.1 hr.2 h2 h5, cll_pos, chk_b01, ite_b0, v_hasRun d2.1 hrt.2 h4 h5, cll_pos, chk_b01, ite_b0]
          by_cases x : σ 59 s = σ 59 t
          · rw [if_pos x]
            by_cases w : (((0 ≤ p2 ∧ 0 ≤ p5) ∧ p2 + p5 ≤ σ 60 s) ∧ ((0 ≤ p4 ∧ 0 ≤ p5) ∧ p4 + p5 ≤ σ 60 t))
            · obtain ⟨a, rfl⟩ := ex_nat w.1.1.1
              obtain ⟨m, rfl⟩ := ex_nat w.1.1.2
              obtain ⟨b, rfl⟩ := ex_nat w.2.1.1
              rw [if_pos w.1, if_pos w.2, chk_pos (by omega), show (a : Int).toNat = a by omega, show (b : Int).toNat = b by omega, show (m : Int).toNat = m by omega]
              generalize hσ1 : scp σ (54 + s) a (54 + t) b m = σ1
              have f1 : ∀ k, k ≠ 54 + t → σ1 k = σ k := fun k hk => by rw [← hσ1]; exact scp_ne k hk
              have f54 : ∀ i, σ1 (54 + t) i = if b ≤ i ∧ i < b + m then σ (54 + s) (a + (i - b)) else σ (54 + t) i := fun i => by
                rw [← hσ1]
                unfold scp
                by_cases g : b ≤ i ∧ i < b + m
                · rw [if_pos ⟨rfl, g⟩, if_pos g]
                · rw [if_neg (fun r => g r.2), if_neg g]
              have hf59 : σ1 59 = σ 59 := f1 59 (by omega)
              have hf60 : σ1 60 = σ 60 := f1 60 (by omega)
              have hf61 : σ1 61 = σ 61 := f1 61 (by omega)
              obtain ⟨σ2, k1, k2, k3, k4⟩ := m_copy1 (σ0 := σ1) (a := a) (b := b) (m := m) hs ht (by omega) (by omega) FU 0 σ1 0 rfl (fun _ _ => rfl) (fun i hi => by omega) (by omega) (by rw [FU_eq]; omega)
              refine ⟨1, σ1, σ2, rfl, ?_, ?_⟩
              · rw [n1, if_pos (by omega), if_pos (by omega), chk_pos (by omega), e0, hf59, hf60, chk_pos (by omega), if_neg z, chk_pos (by omega), et, chk_pos (by omega), if_pos (by omega), if_pos x, if_neg (by omega), if_neg (by omega), if_neg (by omega), chk_pos (by omega), chk_pos (by omega), if_neg (by omega), chk_pos (by omega), chk_pos (by omega), if_pos (by omega)]
                exact k1
              · have g59 : σ2 59 = σ 59 := by rw [k2 59 (by decide) (by decide), hf59]
                have g60 : σ2 60 = σ 60 := by rw [k2 60 (by decide) (by decide), hf60]
                refine inv_one hI ht (fun k a1 a2 a3 a4 a5 a6 => by rw [k2 k a5 a6, f1 k a2]) (fun u hu => by rw [g59]) (fun u hu => by rw [g60]) (fun j hj => by rw [k3 j (by omega), hf61]) ⟨?_, fun g => ⟨?_, fun j hj => ?_⟩⟩ ?_ (fun j hj => ?_)
                · rw [k2 (50 + t) (by omega) (by omega), f1 (50 + t) (by omega), g59]
                  exact d.1
                · rw [k2 (50 + t) (by omega) (by omega), f1 (50 + t) (by omega), g60]
                  exact d2.1
                · rw [g60] at hj
                  rw [k2 (54 + t) (by omega) (by omega), f54]
                  by_cases g : b ≤ j ∧ j < b + m
                  · have := k4 (j - b) (by omega)
                    rw [show 60 * t + b + (j - b) = 60 * t + j by omega] at this
                    rw [if_pos g, this, hf61, show 60 * s + a + (j - b) = 60 * s + (a + (j - b)) by omega]
                    exact c2.2 _ (by omega)
                  · rw [if_neg g, k3 _ (by omega), hf61]
                    exact d2.2 j hj
                · rw [g59, g60]
                  exact hrt
                · by_cases g : b ≤ j ∧ j < b + m
                  · have := k4 (j - b) (by omega)
                    rw [show 60 * t + b + (j - b) = 60 * t + j by omega] at this
                    rw [this, hf61]
                    exact hI.2.1.itm (by omega)
                  · rw [k3 _ (by omega), hf61]
                    exact hI.2.1.itm (by omega)
            · have hb : B_X8_copy_107 σ = some (-12, su σ 0 10 2) := rfl
              refine ⟨-12, su σ 0 10 2, su (su σ 0 10 2) 58 4 2, ?_, ?_, inv_find hI (by omega)⟩
              · rw [hb]
                by_cases g : (0 ≤ p2 ∧ 0 ≤ p5) ∧ p2 + p5 ≤ σ 60 s
                · rw [if_pos g, if_neg (fun r => w ⟨g, r⟩)]
                · rw [if_neg g]
              · rw [n1, if_pos (by omega), if_pos (by omega), chk_pos (by omega), e0, e59, e60, chk_pos (by omega), if_neg z, chk_pos (by omega), et, chk_pos (by omega), if_pos (by omega), if_pos x]
                by_cases g1 : p2 < 0
                · rw [if_pos g1]
                · rw [if_neg g1]
                  by_cases g2 : p4 < 0
                  · rw [if_pos g2]
                  · rw [if_neg g2]
                    by_cases g3 : p5 < 0
                    · rw [if_pos g3]
                    · rw [if_neg g3, chk_pos (by omega), chk_pos (by omega)]
                      by_cases g4 : σ 60 s < p2 + p5
                      · rw [if_pos g4]
                      · rw [if_neg g4, chk_pos (by omega), chk_pos (by omega), if_neg (by omega)]
          · rw [if_neg x]
            refine ⟨-14, su σ 0 10 4, su (su σ 0 10 4) 58 4 4, rfl, ?_, inv_find hI (by omega)⟩
            rw [n1, if_pos (by omega), if_pos (by omega), chk_pos (by omega), e0, e59, chk_pos (by omega), if_neg z, chk_pos (by omega), et, chk_pos (by omega), if_pos (by omega), if_neg x]
    · rw [if_pos q1, if_neg q3]
      refine ⟨-2, σ, σ, rfl, ?_, hI⟩
      rw [n1, if_pos (by omega), if_neg (by omega)]
  · rw [if_neg q1]
    refine ⟨-2, σ, σ, rfl, ?_, hI⟩
    rw [n1, if_neg (by omega)]
theorem clo_congr {M' M : St} (h5 : M' 5 = M 5) (h6 : M' 6 = M 6) (h7 : M' 7 = M 7) (h9 : M' 9 = M 9) (h09 : M' 0 9 = M 0 9) (s y : Nat) : clo M' s y = clo M s y := by
  have hw : (fun d => wet M' s d y) = (fun d => wet M s d y) := by
    funext d
    have hk : kep M' d y = kep M d y := by
      unfold kep
      rw [h09]
      exact kepA_congr d y _ (fun j _ => by rw [h9])
    unfold wet hgt
    rw [hk, pos_congr h5 h6 h7, lev_congr h5 h6, h5, h7]
  unfold clo
  rw [hw]
theorem v_writeL {σ0 : St} (hM : MI (mv σ0)) (hF : FR σ0) {s t m : Nat} (hs : s < 3) (ht : t < 4) {f z : Int} (h50 : σ0 (50 + t) 2 = z) (hz : 0 ≤ z ∧ z ≤ 60) (hf : σ0 (50 + t) 1 = f) (h3 : in32 f) (hm1 : (m : Int) ≤ z) (hm2 : (m : Int) ≤ yds (mv σ0)) : ∀ (n j : Nat) (σ : St) (v : Int), v = j → (∀ k, k ≠ 54 + t → σ k = σ0 k) → (∀ i, σ (54 + t) i = if i < j then cutZ f (clo (mv σ0) s i) else σ0 (54 + t) i) → j ≤ m → m - j < n → ∃ σ', L_X8_write_69 n σ s t m v = some ((m : Int), σ') ∧ (∀ k, k ≠ 54 + t → σ' k = σ0 k) ∧ (∀ i, σ' (54 + t) i = if i < m then cutZ f (clo (mv σ0) s i) else σ0 (54 + t) i)
  | 0, j, σ, v, hv, a1, a2, hj, hn => by omega
  | n + 1, j, σ, v, hv, a1, a2, hj, hn => by
    subst hv
    rw [L_X8_write_69, S_X8_write_69, chk_pos (by omega), chk_pos (by omega)]
    by_cases e : (m : Int) ≤ (j : Int)
    · rw [if_pos e]
      have : j = m := by omega
      subst this
      exact ⟨σ, rfl, a1, a2⟩
    · have hmv : mv σ = mv σ0 := mv_of fun k hk => a1 k (by omega)
      rw [if_neg e, chk_pos (by omega), v_closedDays (by rw [hmv]; exact hM) (hF.of hmv (fun k g1 g2 => a1 k (by omega))) hs (by rw [hmv]; omega), cll_pos, show (t : Int).toNat = t by omega, v_put (by rw [a1 (50 + t) (by omega)]; exact h50) hz (by omega) (by rw [a1 (50 + t) (by omega)]; exact hf) h3, cll_pos, hmv]
      exact v_writeL hM hF hs ht h50 hz hf h3 hm1 hm2 n (j + 1) _ _ (by omega) (fun k hk => by rw [su_ne k hk]; exact a1 k hk) (fun i => by
        rw [su_eq, a2]
        by_cases g : i = j
        · rw [if_pos g, if_pos (by omega), g]
        · rw [if_neg g]
          by_cases g2 : i < j
          · rw [if_pos g2, if_pos (by omega)]
          · rw [if_neg g2, if_neg (by omega)]) (by omega) (by omega)
theorem m_writeL {σ0 : St} (hM : MI (mv σ0)) {s t m : Nat} (hs : s < 3) (ht : t < 4) {f : Int} (hf : σ0 59 t = f) (h3 : in32 f) (hm1 : m ≤ 60) (hm2 : m ≤ 12) : ∀ (n j : Nat) (σ : St) (v : Int), v = j → (∀ k, k ≠ 61 → σ k = σ0 k) → (∀ i, (i < 60 * t ∨ 60 * t + j ≤ i) → σ 61 i = σ0 61 i) → (∀ i, i < j → σ 61 (60 * t + i) = cutZ f (clo (mv σ0) s i)) → MI (mv σ) → j ≤ m → m - j < n → ∃ σ', L_X9_write_49 n σ s t m v = some ((m : Int), σ') ∧ (∀ k, k ≠ 61 → σ' k = σ0 k) ∧ (∀ i, (i < 60 * t ∨ 60 * t + m ≤ i) → σ' 61 i = σ0 61 i) ∧ (∀ i, i < m → σ' 61 (60 * t + i) = cutZ f (clo (mv σ0) s i))
  | 0, j, σ, v, hv, a1, a2, a3, hMj, hj, hn => by omega
  | n + 1, j, σ, v, hv, a1, a2, a3, hMj, hj, hn => by
    subst hv
    rw [L_X9_write_49, S_X9_write_49, chk_pos (by omega), chk_pos (by omega)]
    by_cases e : (m : Int) ≤ (j : Int)
    · rw [if_pos e]
      have : j = m := by omega
      subst this
      exact ⟨σ, rfl, a1, a2, a3⟩
    · have hcl : clo (mv σ) s j = clo (mv σ0) s j := clo_congr (a1 63 (by decide)) (a1 64 (by decide)) (a1 65 (by decide)) (by
        funext i
        show (if (i : Int) < 3 * σ 58 9 then σ 67 i else 0) = (if (i : Int) < 3 * σ0 58 9 then σ0 67 i else 0)
        rw [a1 58 (by decide), a1 67 (by decide)]) (congrFun (a1 58 (by decide)) 9) s j
      have cr := @clo_rng (mv σ0) s j
      rw [if_neg e, chk_pos (by omega), m_closedOf hMj hs (by omega), cll_pos, show (t : Int).toNat = t by omega, a1 59 (by decide), hf, m_cut h3, cll_pos, chk_pos (by omega), show (60 * (t : Int) + (j : Int)).toNat = 60 * t + j by omega, hcl]
      exact m_writeL hM hs ht hf h3 hm1 hm2 n (j + 1) _ _ (by omega) (fun k hk => by rw [su_ne k hk]; exact a1 k hk) (fun i hi => by rw [su_eq, if_neg (by omega)]; exact a2 i (by omega)) (fun i hi => by
        rw [su_eq]
        by_cases g : i = j
        · rw [if_pos (by omega), g]
        · rw [if_neg (by omega)]; exact a3 i (by omega)) (by rw [mvw (k := 3) (by omega)]; exact hMj.u3 (cutZ_32 (by omega))) (by omega) (by omega)
theorem b_write {σ : St} (hI : Inv σ) {p1 p2 : Int} (h1 : in32 p1) (h2 : in32 p2) : Both (fun σ => f_X8_write σ p1 p2) (fun σ => f_X9_write σ p1 p2) σ := by
  unfold Both
  dsimp only
  have n1 : ∀ σ' : St, f_X9_write σ' p1 p2 = if 0 ≤ p1 ∧ p1 ≤ 2 then if 0 ≤ p2 ∧ p2 ≤ 3 then chk (ix p2 4) (chk (in32 (σ' 59 p2.toNat)) ((if 0 ≤ (σ' 59 p2.toNat) then cll (f_X9_yards σ') (fun r9 s10 => cll (f_X9_lesser s10 (σ' 60 p2.toNat) r9) (fun r11 s12 => L_X9_write_49 FU s12 p1 p2 r11 0)) else some (-11, su σ' 58 4 1)))) else some (-2, σ') else some (-2, σ') := fun σ' => by
    unfold f_X9_write
    rw [m_isSpring h1, cll_pos, chk_b01, ite_b0, m_isSheet h2, cll_pos, chk_b01, ite_b0, m_met, cll_pos]
    rfl
  unfold f_X8_write
  rw [v_inside h1 (by decide), cll_pos, chk_b01, ite_b0, v_inside h2 (by decide), cll_pos, chk_b01, ite_b0]
  by_cases q1 : 0 ≤ p1 ∧ p1 < 3
  · by_cases q2 : 0 ≤ p2 ∧ p2 < 4
    · obtain ⟨s, rfl⟩ := ex_nat q1.1
      obtain ⟨t, rfl⟩ := ex_nat q2.1
      have hs : s < 3 := by omega
      have ht : t < 4 := by omega
      have hrt := hI.2.1.she ht
      rw [mv_1, mv_2] at hrt
      have d := hI.1.c7 t ht
      have et : (t : Int).toNat = t := by omega
      rw [if_pos q1, if_pos q2, chk_pos (by omega), et, v_isLost hI ht, cll_pos, chk_b01, ite_b0]
      by_cases y : σ 59 t < 0
      · rw [if_pos y]
        refine ⟨-11, su σ 0 10 1, su (su σ 0 10 1) 58 4 1, rfl, ?_, inv_find hI (by omega)⟩
        have e59 : su σ 0 10 1 59 = σ 59 := su_ne 59 (by decide)
        rw [n1, if_pos (by omega), if_pos (by omega), chk_pos (by omega), et, e59, chk_pos (by omega), if_neg (by omega)]
      · rw [if_neg y]
        obtain ⟨σ1, r1, r2, r3⟩ := v_refresh hI
        have hI1 : Inv σ1 := hI.eq r2.eq (Or.inr r3)
        have hy := yds_rng hI1.2.1
        have e59 : σ1 59 = σ 59 := r2 59 (by omega)
        have e60 : σ1 60 = σ 60 := r2 60 (by omega)
        have d1 := hI1.1.c7 t ht
        rw [e59, e60] at d1
        have d2 := d1.2 (by omega)
        rw [r1, cll_pos, v_told hI1.1 hI1.2.1 (by omega), cll_pos, d2.1, show fig (mv σ1) 3 = yds (mv σ1) from rfl, chk_pos (by omega), chk_pos (by omega)]
        obtain ⟨m, hm⟩ : ∃ m : Nat, min (σ 60 t) (yds (mv σ1)) = m := ex_nat (by omega)
        rw [hm]
        obtain ⟨σ2, k1, k2, k3⟩ := v_writeL hI1.2.1 r3.2 (s := s) (t := t) (m := m) hs ht d2.1 hrt.2 d1.1 (by omega) (by omega) (by omega) FU 0 σ1 0 rfl (fun _ _ => rfl) (fun i => by rw [if_neg (by omega)]) (by omega) (by rw [FU_eq]; omega)
        have hmv : mv σ2 = mv σ1 := mv_of fun k hk => k2 k (by omega)
        have f59 : σ2 59 = σ 59 := by rw [k2 59 (by omega), e59]
        have f60 : σ2 60 = σ 60 := by rw [k2 60 (by omega), e60]
        have f61 : σ2 61 = σ1 61 := by rw [k2 61 (by omega)]
        obtain ⟨σ3, j1, j2, j3, j4⟩ := m_writeL (σ0 := σ2) (by rw [hmv]; exact hI1.2.1) (s := s) (t := t) (m := m) (f := σ 59 t) hs ht (by rw [f59]) (by omega) (by omega) (by omega) FU 0 σ2 0 rfl (fun _ _ => rfl) (fun i _ => rfl) (fun i hi => by omega) (by rw [hmv]; exact hI1.2.1) (by omega) (by rw [FU_eq]; omega)
        refine ⟨m, σ2, σ3, k1, ?_, ?_⟩
        · rw [n1, if_pos (by omega), if_pos (by omega), chk_pos (by omega), et, f59, chk_pos (by omega), if_pos (by omega), m_yards (by rw [hmv]; exact hI1.2.1), cll_pos, f60, m_lesser (by omega) (by rw [hmv]; omega), cll_pos, hmv, hm]
          exact j1
        · have g59 : σ3 59 = σ1 59 := by rw [j2 59 (by decide), k2 59 (by omega)]
          have g60 : σ3 60 = σ1 60 := by rw [j2 60 (by decide), k2 60 (by omega)]
          refine inv_one hI1 ht (fun k a1 a2 a3 a4 a5 a6 => by rw [j2 k a5, k2 k a2]) (fun u hu => by rw [g59]) (fun u hu => by rw [g60]) (fun j hj => by rw [j3 j (by omega), f61]) ⟨?_, fun g => ⟨?_, fun j hj => ?_⟩⟩ ?_ (fun j hj => ?_)
          · rw [j2 (50 + t) (by omega), k2 (50 + t) (by omega), g59, e59]
            exact d1.1
          · rw [j2 (50 + t) (by omega), k2 (50 + t) (by omega), g60, e60]
            exact d2.1
          · rw [g60, e60] at hj
            rw [j2 (54 + t) (by omega), k3]
            by_cases g : j < m
            · rw [if_pos g, j4 j g, hmv]
            · rw [if_neg g, j3 _ (by omega), f61]
              exact d2.2 j hj
          · rw [g59, e59, g60, e60]
            exact hrt
          · by_cases g : j < m
            · rw [j4 j g]
              have cr := @clo_rng (mv σ2) s j
              exact cutZ_32 (by omega)
            · rw [j3 _ (by omega), f61]
              exact hI1.2.1.itm (by omega)
    · rw [if_pos q1, if_neg q2]
      refine ⟨-2, σ, σ, rfl, ?_, hI⟩
      rw [n1, if_pos (by omega), if_neg (by omega)]
  · rw [if_neg q1]
    refine ⟨-2, σ, σ, rfl, ?_, hI⟩
    rw [n1, if_neg (by omega)]
