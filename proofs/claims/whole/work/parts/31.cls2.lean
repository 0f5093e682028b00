/-! THE CLASS: refresh -/
theorem CI.cv {σ' σ : St} (h : CI σ) (c : CV σ' σ) : CI σ' := h.eq c.eq
theorem v_lowL2 {M : St} (hM : MI M) {lv : Nat} (hlv : lv < 10) {rec12 : St → Int → Int → Option Rt} {σ : St} (hC : CI σ) (hm : mv σ = M) : ∀ (n y : Nat) (v acc : Int), v = y → (y : Int) ≤ yds M → acc = (bts (fun y => decide (hgt M y < lv)) y : Nat) → 14 - y < n → L_X6_fillLowYards_23 rec12 n σ (yds M) lv acc v = rec12 (su σ 26 lv (bts (fun y => decide (hgt M y < lv)) (yds M).toNat : Nat)) (yds M) (lv + 1)
  | 0, y, v, acc, hv, h1, ha, hn => by
    have := yds_rng hM
    omega
  | n + 1, y, v, acc, hv, h1, ha, hn => by
    subst hv
    subst ha
    have hy := yds_rng hM
    have hM' : MI (mv σ) := by rw [hm]; exact hM
    rw [L_X6_fillLowYards_23, S_X6_fillLowYards_23, chk_pos (by omega), chk_pos (by omega)]
    by_cases q : yds M ≤ y
    · rw [if_pos q, chk_pos (by omega), show (yds M).toNat = y by omega, show (lv : Int).toNat = lv by omega]
    · have hf := fig_rng hM (t := 3) (by omega)
      have h6 : M 6 3 = σ 64 3 := by rw [← hm]; rfl
      have hh := hgt_rng (M := M) (y := y) (by omega)
      have e5 : σ 63 (30 * 3 + y) - 48 = hgt M y := by rw [← hm]; rfl
      have hyf : yds M = fig M 3 := rfl
      have ih := fun acc ha => v_lowL2 hM hlv (rec12 := rec12) hC hm n (y + 1) (y + 1) acc (by omega) (by omega) ha (by omega)
      have o := or_bit (P := fun y => decide (hgt M y < lv)) (n := y) (by omega)
      rw [if_neg q, v_figure hC hM' (t := 3) (by omega) (by omega), cll_pos, e5, chk_pos (by omega), chk_pos (by omega)]
      by_cases z : (lv : Int) ≤ hgt M y
      · rw [if_pos z]
        refine ih _ (congrArg Nat.cast ?_)
        rw [bts, decide_eq_false (by omega)]
        simp
      · rw [if_neg z]
        rw [decide_eq_true (show hgt M y < lv by omega), if_pos rfl] at o
        exact ih _ o
theorem v_lowL1 {M : St} (hM : MI M) {σ0 : St} (hC : CI σ0) (hm : mv σ0 = M) : ∀ (n lv : Nat) (σ : St) (v : Int), CV σ σ0 → v = lv → lv ≤ 10 → (∀ l, l < lv → σ 26 l = (bts (fun y => decide (hgt M y < l)) (yds M).toNat : Nat)) → 10 - lv < n → ∃ σ', L_X6_fillLowYards_12 n σ (yds M) v = some (0, σ') ∧ CV σ' σ0 ∧ (∀ l, l < 10 → σ' 26 l = (bts (fun y => decide (hgt M y < l)) (yds M).toNat : Nat))
  | 0, lv, σ, v, hF, hv, h1, hl, hn => by omega
  | n + 1, lv, σ, v, hF, hv, h1, hl, hn => by
    subst hv
    have hy := yds_rng hM
    rw [L_X6_fillLowYards_12, S_X6_fillLowYards_12, chk_pos (by omega)]
    by_cases q : 10 ≤ (lv : Int)
    · rw [if_pos q]
      exact ⟨σ, rfl, hF, fun l h => hl l (by omega)⟩
    · rw [if_neg q, v_lowL2 hM (by omega) (hC.cv hF) (hF.mv.trans hm) FU 0 0 0 rfl (by omega) rfl (by rw [FU_eq]; omega)]
      refine v_lowL1 hM hC hm n (lv + 1) _ (lv + 1) ((CV.su (by omega)).tr hF) (by omega) (by omega) (fun l h => ?_) (by omega)
      rw [su_eq]
      by_cases e : l = lv
      · rw [if_pos e, e]
      · rw [if_neg e]
        exact hl l (by omega)
theorem v_fillLow {σ : St} (hC : CI σ) (hM : MI (mv σ)) : ∃ σ', f_X6_fillLowYards σ = some (0, σ') ∧ CV σ' σ ∧ (∀ l, l < 10 → σ' 26 l = (bts (fun y => decide (hgt (mv σ) y < l)) (yds (mv σ)).toNat : Nat)) := by
  unfold f_X6_fillLowYards
  rw [v_told hC hM (by omega), cll_pos]
  exact v_lowL1 hM hC rfl FU 0 σ 0 (CV.rf σ) rfl (by omega) (fun l h => by omega) (by rw [FU_eq]; omega)
theorem v_levL {M : St} (hM : MI M) {σ0 : St} (hC : CI σ0) (hm : mv σ0 = M) {s : Nat} (hs : s < 3) : ∀ (n d : Nat) (σ : St) (v : Int), CV σ σ0 → (∀ k, k ≠ 18 + s → σ k = σ0 k) → v = d → d ≤ 30 → (∀ e, e < d → σ (18 + s) e = lev M s e) → 30 - d < n → ∃ σ', L_X6_fillLevels_12 n σ s (fig M s) v = some (0, σ') ∧ CV σ' σ0 ∧ (∀ k, k ≠ 18 + s → σ' k = σ0 k) ∧ (∀ e, e < 30 → σ' (18 + s) e = lev M s e)
  | 0, d, σ, v, hF, hk, hv, h1, hl, hn => by omega
  | n + 1, d, σ, v, hF, hk, hv, h1, hl, hn => by
    subst hv
    have hf := fig_rng hM (t := s) (by omega)
    have ht := hM.typ (t := s) (by omega)
    rw [L_X6_fillLevels_12, S_X6_fillLevels_12, chk_pos (by omega)]
    by_cases q : 30 ≤ (d : Int)
    · rw [if_pos q]
      exact ⟨σ, rfl, hF, hk, fun e h => hl e (by omega)⟩
    · have nx : ∀ x : Int, x = lev M s d → ∃ σ', L_X6_fillLevels_12 n (su σ (18 + s) d x) s (fig M s) (d + 1) = some (0, σ') ∧ CV σ' σ0 ∧ (∀ k, k ≠ 18 + s → σ' k = σ0 k) ∧ (∀ e, e < 30 → σ' (18 + s) e = lev M s e) := by
        intro x hx
        refine v_levL hM hC hm hs n (d + 1) _ (d + 1) ((CV.su (by omega)).tr hF) (fun k h => by rw [su_ne k h]; exact hk k h) (by omega) (by omega) (fun e h => ?_) (by omega)
        rw [su_eq]
        by_cases y : e = d
        · rw [if_pos y, hx, y]
        · rw [if_neg y]
          exact hl e (by omega)
      have e0 : (s : Int).toNat = s := by omega
      have e1 : (d : Int).toNat = d := by omega
      rw [if_neg q, chk_pos (by omega), chk_pos (by omega)]
      by_cases z : fig M s ≤ d
      · rw [if_pos z, chk_pos (by omega), e0, e1]
        exact nx 0 (by unfold lev; rw [if_neg (by omega)])
      · have hmσ : mv σ = M := hF.mv.trans hm
        have h6 : M 6 s = σ 64 s := by rw [← hmσ]; rfl
        have hfg := v_figure (hC.cv hF) (by rw [hmσ]; exact hM) (t := s) (i := d) (by omega) (by omega)
        rw [if_neg z, chk_pos (by omega), e0, hfg, cll_pos, chk_pos (by omega), e1]
        exact nx _ (by unfold lev; rw [if_pos (by omega), ← hmσ]; rfl)
theorem v_fillLevels {σ : St} (hC : CI σ) (hM : MI (mv σ)) {s : Nat} (hs : s < 3) : ∃ σ', f_X6_fillLevels σ s = some (0, σ') ∧ CV σ' σ ∧ (∀ k, k ≠ 18 + s → σ' k = σ k) ∧ (∀ e, e < 30 → σ' (18 + s) e = lev (mv σ) s e) := by
  unfold f_X6_fillLevels
  rw [chk_pos (by omega), show (s : Int).toNat = s by omega, v_told hC hM (by omega), cll_pos]
  exact v_levL hM hC rfl hs FU 0 σ 0 (CV.rf σ) (fun _ _ => rfl) rfl (by omega) (fun e h => by omega) (by rw [FU_eq]; omega)
theorem v_thawL {σ : St} (hC : CI σ) (hM : MI (mv σ)) {s : Nat} (hs : s < 3) (hl : ∀ e, e < 30 → σ (18 + s) e = lev (mv σ) s e) : ∀ (n d : Nat) (v : Int), v = d → (d : Int) ≤ σ 65 1 + 1 → 31 - d < n → L_X6_firstThaw_2 n σ s v = some (posA (mv σ) s (σ 65 1 + 1 - d).toNat d, σ)
  | 0, d, v, hv, h1, hn => by
    have hr := hM.set.1
    rw [mv_7, mv_7] at hr
    omega
  | n + 1, d, v, hv, h1, hn => by
    subst hv
    have hr := hM.set.1
    rw [mv_7, mv_7] at hr
    have t0 := hC.2.1 0 (by omega)
    have t1 := hC.2.1 1 (by omega)
    rw [L_X6_firstThaw_2, S_X6_firstThaw_2, t0, t1, chk_pos (by omega), chk_pos (by omega)]
    by_cases q : σ 65 1 < d
    · rw [if_pos q, show (σ 65 1 + 1 - (d : Int)).toNat = 0 by omega]
      rfl
    · have lr := lev_rng (M := mv σ) (s := s) (d := d)
      obtain ⟨k, hk⟩ : ∃ k, (σ 65 1 + 1 - d).toNat = k + 1 := ⟨(σ 65 1 + 1 - d).toNat - 1, by omega⟩
      have ih := v_thawL hC hM hs hl n (d + 1) (d + 1) (by omega) (by omega) (by omega)
      rw [if_neg q, if_neg (by omega), chk_pos (by omega), chk_pos (by omega), show (s : Int).toNat = s by omega, show (d : Int).toNat = d by omega, hl d (by omega), chk_pos (by omega), chk_pos (by omega), ih, hk, show (σ 65 1 + 1 - ((d + 1 : Nat) : Int)).toNat = k by omega, posA, mv_7]
      by_cases z : lev (mv σ) s d < σ 65 0
      · rw [if_pos z, if_neg (by omega)]
      · rw [if_neg z, if_pos (by omega)]
theorem v_firstThaw {σ : St} (hC : CI σ) (hM : MI (mv σ)) {s : Nat} (hs : s < 3) (hl : ∀ e, e < 30 → σ (18 + s) e = lev (mv σ) s e) : f_X6_firstThaw σ s = some (pos (mv σ) s, σ) := by
  have hr := hM.set.1
  rw [mv_7, mv_7] at hr
  unfold f_X6_firstThaw
  rw [v_thawL hC hM hs hl FU 0 0 rfl (by omega) (by rw [FU_eq]; omega)]
  unfold pos
  rw [mv_7, show σ 65 1 + 1 - ((0 : Nat) : Int) = σ 65 1 + 1 by omega]
/-- the wet yards of a day, out of the low ones and the kept ones -/
theorem wb_of {M : St} (hM : MI M) {s d : Nat} (h : pos M s ≠ -1 ∧ pos M s ≤ d ∧ (d : Int) ≤ M 7 1) : andZ (bts (fun y => decide (hgt M y < lev M s d)) (yds M).toNat : Nat) (xorZ (bts (fun y => kep M d y) 12 : Nat) (-1)) = ((wb M s d : Nat) : Int) := by
  have hy := yds_rng hM
  have h1 := bts_small (fun y => decide (hgt M y < lev M s d)) (n := (yds M).toNat) (by omega)
  have h2 := bts_small (fun y => kep M d y) (n := 12) (by omega)
  rw [andnZ_nat (by omega) (by omega)]
  refine congrArg Nat.cast (bts_eq fun i => ?_)
  rw [Nat.testBit_xor, Nat.testBit_and, bts_bit, bts_bit]
  unfold wet
  by_cases q : i < (yds M).toNat
  · rw [decide_eq_true q, decide_eq_true (show i < 12 by omega), Bool.true_and, Bool.true_and, Bool.true_and]
    by_cases z : hgt M i < lev M s d
    · rw [decide_eq_true z, decide_eq_true ⟨h.1, h.2, z⟩]
      cases kep M d i <;> rfl
    · rw [decide_eq_false z, decide_eq_false (fun w => z w.2.2)]
      cases kep M d i <;> rfl
  · rw [decide_eq_false q]
    simp
theorem wb_dry {M : St} {s d : Nat} (h : ¬ (pos M s ≠ -1 ∧ pos M s ≤ d ∧ (d : Int) ≤ M 7 1)) : wb M s d = 0 := by
  refine Nat.eq_of_testBit_eq fun i => ?_
  have e : wet M s d i = false := by
    unfold wet
    rw [decide_eq_false (fun w => h ⟨w.1, w.2.1⟩)]
    rfl
  rw [wb_bit, e]
  simp
theorem v_wetL {M : St} (hM : MI M) {σ0 : St} (hC : CI σ0) (hm : mv σ0 = M) {s : Nat} (hs : s < 3) (hlow : ∀ l, l < 10 → σ0 26 l = (bts (fun y => decide (hgt M y < l)) (yds M).toNat : Nat)) (hkep : ∀ d, d < 30 → σ0 27 d = (bts (fun y => kep M d y) 12 : Nat)) (hlev : ∀ e, e < 30 → σ0 (18 + s) e = lev M s e) : ∀ (n d : Nat) (σ : St) (v : Int), CV σ σ0 → (∀ k, k ≠ 22 + s → σ k = σ0 k) → v = d → d ≤ 30 → (∀ e, e < d → σ (22 + s) e = (wb M s e : Nat)) → 30 - d < n → ∃ σ', L_X6_fillWet_9 n σ s (pos M s) v = some (0, σ') ∧ CV σ' σ0 ∧ (∀ k, k ≠ 22 + s → σ' k = σ0 k) ∧ (∀ e, e < 30 → σ' (22 + s) e = (wb M s e : Nat))
  | 0, d, σ, v, hF, hk, hv, h1, hl, hn => by omega
  | n + 1, d, σ, v, hF, hk, hv, h1, hl, hn => by
    subst hv
    have hp := pos_rng hM (s := s)
    have hr := hM.set.1
    have h7 : σ 10 1 = M 7 1 := by rw [hk 10 (by omega), hC.2.1 1 (by omega), ← hm]; rfl
    rw [L_X6_fillWet_9, S_X6_fillWet_9, h7, chk_pos (by omega)]
    by_cases q : 30 ≤ (d : Int)
    · rw [if_pos q]
      exact ⟨σ, rfl, hF, hk, fun e h => hl e (by omega)⟩
    · have nx : ∀ x : Int, x = (wb M s d : Nat) → ∃ σ', L_X6_fillWet_9 n (su σ (22 + s) d x) s (pos M s) (d + 1) = some (0, σ') ∧ CV σ' σ0 ∧ (∀ k, k ≠ 22 + s → σ' k = σ0 k) ∧ (∀ e, e < 30 → σ' (22 + s) e = (wb M s e : Nat)) := by
        intro x hx
        refine v_wetL hM hC hm hs hlow hkep hlev n (d + 1) _ (d + 1) ((CV.su (by omega)).tr hF) (fun k h => by rw [su_ne k h]; exact hk k h) (by omega) (by omega) (fun e h => ?_) (by omega)
        rw [su_eq]
        by_cases y : e = d
        · rw [if_pos y, hx, y]
        · rw [if_neg y]
          exact hl e (by omega)
      have e0 : (s : Int).toNat = s := by omega
      have e1 : (d : Int).toNat = d := by omega
      have lr := lev_rng (M := M) (s := s) (d := d)
      have el : σ (18 + s) d = lev M s d := by rw [hk (18 + s) (by omega)]; exact hlev d (by omega)
      have B0 : ¬ (pos M s ≠ -1 ∧ pos M s ≤ d ∧ (d : Int) ≤ M 7 1) → ∃ σ', B_X6_fillWet_40 (L_X6_fillWet_9 n) σ s (pos M s) d 0 = some (0, σ') ∧ CV σ' σ0 ∧ (∀ k, k ≠ 22 + s → σ' k = σ0 k) ∧ (∀ e, e < 30 → σ' (22 + s) e = (wb M s e : Nat)) := by
        intro h
        unfold B_X6_fillWet_40
        rw [chk_pos (by omega), chk_pos (by omega), chk_pos (by decide), if_pos rfl, e0, e1]
        exact nx 0 (by rw [wb_dry h]; rfl)
      rw [if_neg q, chk_pos (by omega)]
      by_cases z1 : pos M s = -1
      · rw [if_pos z1]
        exact B0 (fun w => w.1 z1)
      · rw [if_neg z1]
        by_cases z2 : (d : Int) < pos M s
        · rw [if_pos z2]
          exact B0 (fun w => by omega)
        · rw [if_neg z2, chk_pos (by omega)]
          by_cases z3 : M 7 1 < d
          · rw [if_pos z3]
            exact B0 (fun w => by omega)
          · rw [if_neg z3]
            unfold B_X6_fillWet_40
            rw [chk_pos (by omega), chk_pos (by omega), chk_pos (by decide), if_neg (by decide), e0, e1, el, v_inside (by omega) (by omega), cll_pos, chk_b01, ite_b0, if_pos (by omega), chk_pos (by omega)]
            refine nx _ ?_
            rw [hk 26 (by omega), hk 27 (by omega), hlow _ (by omega), hkep d (by omega)]
            have el2 : (((lev M s d).toNat : Nat) : Int) = lev M s d := by omega
            rw [el2]
            exact wb_of hM ⟨z1, by omega, by omega⟩
theorem v_fillWet {σ : St} (hC : CI σ) (hM : MI (mv σ)) {s : Nat} (hs : s < 3) (hlow : ∀ l, l < 10 → σ 26 l = (bts (fun y => decide (hgt (mv σ) y < l)) (yds (mv σ)).toNat : Nat)) (hkep : ∀ d, d < 30 → σ 27 d = (bts (fun y => kep (mv σ) d y) 12 : Nat)) (hlev : ∀ e, e < 30 → σ (18 + s) e = lev (mv σ) s e) (hpos : σ 25 s = pos (mv σ) s) : ∃ σ', f_X6_fillWet σ s = some (0, σ') ∧ CV σ' σ ∧ (∀ k, k ≠ 22 + s → σ' k = σ k) ∧ (∀ e, e < 30 → σ' (22 + s) e = (wb (mv σ) s e : Nat)) := by
  unfold f_X6_fillWet
  rw [chk_pos (by omega), show (s : Int).toNat = s by omega, hpos]
  exact v_wetL hM hC rfl hs hlow hkep hlev FU 0 σ 0 (CV.rf σ) (fun _ _ => rfl) rfl (by omega) (fun e h => by omega) (by rw [FU_eq]; omega)
theorem v_refL2 {M : St} (hM : MI M) {σ0 : St} (hC : CI σ0) (hm : mv σ0 = M) (hlow : ∀ l, l < 10 → σ0 26 l = (bts (fun y => decide (hgt M y < l)) (yds M).toNat : Nat)) (hkep : ∀ d, d < 30 → σ0 27 d = (bts (fun y => kep M d y) 12 : Nat)) : ∀ (n s : Nat) (σ : St) (v : Int), CV σ σ0 → σ 26 = σ0 26 → σ 27 = σ0 27 → v = s → s ≤ 3 → (∀ t, t < s → σ 25 t = pos M t ∧ ∀ d, d < 30 → σ (18 + t) d = lev M t d ∧ σ (22 + t) d = (wb M t d : Nat)) → 3 - s < n → ∃ σ', L_X6_refresh_42 n σ v = some (0, σ') ∧ CV σ' σ0 ∧ FRE σ'
  | 0, s, σ, v, hF, h26, h27, hv, h1, hd, hn => by omega
  | n + 1, s, σ, v, hF, h26, h27, hv, h1, hd, hn => by
    subst hv
    have hmσ : mv σ = M := hF.mv.trans hm
    have hMσ : MI (mv σ) := by rw [hmσ]; exact hM
    rw [L_X6_refresh_42, S_X6_refresh_42, chk_pos (by omega)]
    by_cases q : 3 ≤ (s : Int)
    · rw [if_pos q]
      have cv : CV (su σ 16 8 0) σ := CV.su (by omega)
      refine ⟨su σ 16 8 0, rfl, cv.tr hF, by rw [su_eq, if_pos rfl], fun t ht => ?_⟩
      rw [cv.mv, hmσ, su_ne 25 (by decide), su_ne (18 + t) (by omega), su_ne (22 + t) (by omega)]
      exact hd t (by omega)
    · obtain ⟨σ1, a1, a2, a3, a4⟩ := v_fillLevels (hC.cv hF) hMσ (s := s) (by omega)
      have m1 : mv σ1 = M := a2.mv.trans hmσ
      have M1 : MI (mv σ1) := by rw [m1]; exact hM
      have c1 := hC.cv (a2.tr hF)
      have t1 := v_firstThaw c1 M1 (s := s) (by omega) (by rw [m1, ← hmσ]; exact a4)
      have cv2 : CV (su σ1 25 s (pos M s)) σ1 := CV.su (by omega)
      have m2 : mv (su σ1 25 s (pos M s)) = M := cv2.mv.trans m1
      have M2 : MI (mv (su σ1 25 s (pos M s))) := by rw [m2]; exact hM
      have hW := v_fillWet (σ := su σ1 25 s (pos M s)) (hC.cv (cv2.tr (a2.tr hF))) M2 (s := s) (by omega)
        (fun l h => by rw [m2, su_ne 26 (by decide), a3 26 (by omega), h26]; exact hlow l h)
        (fun d h => by rw [m2, su_ne 27 (by decide), a3 27 (by omega), h27]; exact hkep d h)
        (fun e h => by rw [m2, su_ne (18 + s) (by omega), a4 e h, hmσ])
        (by rw [m2, su_eq, if_pos rfl])
      obtain ⟨σ3, b1, b2, b3, b4⟩ := hW
      rw [m2] at b4
      rw [m1] at t1
      rw [if_neg q, a1, cll_pos, t1, cll_pos, chk_pos (by omega), show (s : Int).toNat = s by omega, b1, cll_pos]
      refine v_refL2 hM hC hm hlow hkep n (s + 1) σ3 (s + 1) (b2.tr (cv2.tr (a2.tr hF))) (by rw [b3 26 (by omega), su_ne 26 (by decide), a3 26 (by omega), h26]) (by rw [b3 27 (by omega), su_ne 27 (by decide), a3 27 (by omega), h27]) (by omega) (by omega) (fun t ht => ?_) (by omega)
      by_cases y : t = s
      · subst y
        refine ⟨by rw [b3 25 (by omega), su_eq, if_pos rfl], fun d hd => ⟨?_, b4 d hd⟩⟩
        rw [b3 (18 + t) (by omega), su_ne (18 + t) (by omega), a4 d hd, hmσ]
      · have o := hd t (by omega)
        refine ⟨by rw [b3 25 (by omega), su_eq, if_neg y, a3 25 (by omega)]; exact o.1, fun d hd => ?_⟩
        rw [b3 (18 + t) (by omega), su_ne (18 + t) (by omega), a3 (18 + t) (by omega), b3 (22 + t) (by omega), su_ne (22 + t) (by omega), a3 (22 + t) (by omega)]
        exact o.2 d hd
theorem v_refL1 {M : St} (hM : MI M) {σ0 : St} (hC : CI σ0) (hm : mv σ0 = M) (hlow : ∀ l, l < 10 → σ0 26 l = (bts (fun y => decide (hgt M y < l)) (yds M).toNat : Nat)) : ∀ (n d : Nat) (σ : St) (v : Int), CV σ σ0 → σ 26 = σ0 26 → v = d → d ≤ 30 → (∀ e, e < d → σ 27 e = (bts (fun y => kep M e y) 12 : Nat)) → 30 - d < n → ∃ σ', L_X6_refresh_14 n σ v = some (0, σ') ∧ CV σ' σ0 ∧ FRE σ'
  | 0, d, σ, v, hF, h26, hv, h1, hk, hn => by omega
  | n + 1, d, σ, v, hF, h26, hv, h1, hk, hn => by
    subst hv
    have hmσ : mv σ = M := hF.mv.trans hm
    have hMσ : MI (mv σ) := by rw [hmσ]; exact hM
    rw [L_X6_refresh_14, S_X6_refresh_14, chk_pos (by omega)]
    by_cases q : 30 ≤ (d : Int)
    · rw [if_pos q]
      obtain ⟨σ', k1, k2, k3⟩ := v_refL2 hM (hC.cv hF) hmσ (fun l h => by rw [h26]; exact hlow l h) (fun e h => hk e (by omega)) FU 0 σ 0 (CV.rf σ) rfl rfl rfl (by omega) (fun t h => by omega) (by rw [FU_eq]; omega)
      exact ⟨σ', k1, k2.tr hF, k3⟩
    · have hy := v_keptYards (hC.cv hF) hMσ (d := d) (by omega)
      rw [hmσ] at hy
      rw [if_neg q, hy, cll_pos, chk_pos (by omega), show (d : Int).toNat = d by omega]
      refine v_refL1 hM hC hm hlow n (d + 1) _ (d + 1) ((CV.su (by omega)).tr hF) (by rw [su_ne 26 (by decide), h26]) (by omega) (by omega) (fun e h => ?_) (by omega)
      rw [su_eq]
      by_cases y : e = d
      · rw [if_pos y, y]
      · rw [if_neg y]
        exact hk e (by omega)
/-- REFRESH: whatever was there, the valley is right behind it -/
theorem v_refresh {σ : St} (hI : Inv σ) : ∃ σ', f_X6_refresh σ = some (0, σ') ∧ CV σ' σ ∧ FRE σ' := by
  obtain ⟨hC, hM, -, hf⟩ := hI
  unfold f_X6_refresh
  rcases hf with h | h
  · obtain ⟨σ1, a1, a2, a3⟩ := v_fillLow hC hM
    rw [h, chk_pos (by decide), if_neg (by decide), a1, cll_pos]
    obtain ⟨σ', k1, k2, k3⟩ := v_refL1 (M := mv σ) hM (hC.cv a2) a2.mv a3 FU 0 σ1 0 (CV.rf σ1) rfl rfl (by omega) (fun e h => by omega) (by rw [FU_eq]; omega)
    exact ⟨σ', k1, k2.tr a2, k3⟩
  · rw [h.1, chk_pos (by decide), if_pos rfl]
    exact ⟨σ, rfl, CV.rf σ, h⟩
theorem Inv.cv {σ' σ : St} (hI : Inv σ) (c : CV σ' σ) (h : FRE σ') : Inv σ' := hI.eq c.eq (Or.inr h)
