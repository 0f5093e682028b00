/-! BOTH SIDES: more questions -/
theorem V_waits {σ : St} (hI : Inv σ) {s d a b w : Int} (hs : in32 s) (hd : in32 d) (ha : in32 a) (hb : in32 b) (hw : in32 w) : ∃ σ1, f_X8_waits σ s d a b w = some (aWaits (mv σ) s d a b w, σ1) ∧ QC σ1 σ := by
  have hr := yds_rng hI.2.1
  unfold f_X8_waits aWaits
  rw [v_isSpringDay hs hd, cll_pos, chk_b01, ite_b0, v_isYard hI.1 hI.2.1 ha, cll_pos, chk_b01, ite_b0, v_isYard hI.1 hI.2.1 hb, cll_pos, chk_b01, ite_b0, v_inside hw (by decide), cll_pos, chk_b01, ite_b0]
  by_cases q : (((0 ≤ s ∧ s < 3) ∧ 0 ≤ d ∧ d < 30) ∧ (0 ≤ a ∧ a < yds (mv σ)) ∧ 0 ≤ b ∧ b < yds (mv σ)) ∧ 0 ≤ w ∧ w < 2
  · obtain ⟨σ1, r1, r2, r3⟩ := v_refresh hI
    have hI1 := hI.cv r2 r3
    obtain ⟨s, rfl⟩ := ex_nat q.1.1.1.1
    obtain ⟨d, rfl⟩ := ex_nat q.1.1.2.1
    obtain ⟨a, rfl⟩ := ex_nat q.1.2.1.1
    obtain ⟨b, rfl⟩ := ex_nat q.1.2.2.1
    have e1 : min (a : Int) (b : Int) = ((min a b : Nat) : Int) := by omega
    have e2 : max (a : Int) (b : Int) = ((max a b : Nat) : Int) := by omega
    obtain ⟨σ2, k1, k2, k3, k4⟩ := v_reckon hI1.1 hI1.2.1 r3.2 (fr := d) (a := min a b) (b := max a b) (by omega) (by omega) (by omega)
    rw [r2.mv] at k4
    have m2 : mv σ2 = mv σ := k2.mv.trans r2.mv
    have hwe := wei_rng hI.2.1 (s := s) (d := d)
    have hwo := wor_rng hI.2.1 (a := min a b) (b := max a b) (by omega) (by omega) (29 - d) s
    have wo : f_X7_weightOf σ2 s d = some (wei (mv σ) s d, σ2) := by
      unfold f_X7_weightOf
      rw [v_inside (by omega) (by omega), cll_pos, chk_b01, ite_b0, if_pos (by omega), v_sumOfAlike k3 (by omega) (by omega), cll_pos, v_wei (hI1.1.eq k2.eq), m2]
    have wc : f_X7_weightedCost σ2 s = some (worA (mv σ) (min a b) (max a b) (29 - d) s, σ2) := by
      unfold f_X7_weightedCost
      rw [v_inside (by omega) (by omega), cll_pos, chk_b01, ite_b0, if_pos (by omega), chk_pos (by omega), show (s : Int).toNat = s by omega, (k4 s (by omega)).1]
    have qc : QC σ2 σ := ⟨k2.eq.tr r2.eq, Or.inr (k2.fre r3)⟩
    rw [if_pos q.1.1, if_pos q.1.2.1, if_pos q.1.2.2, if_pos q.2, if_pos q, r1, cll_pos, chk_pos ha, chk_pos hb, e1, e2, k1, cll_pos, wo, cll_pos, chk_pos (by omega)]
    unfold wai
    simp only [Int.toNat_natCast]
    by_cases z : wei (mv σ) s d = 0
    · rw [if_pos z, if_pos z]
      exact ⟨σ2, rfl, qc⟩
    · rw [if_neg z, if_neg z, wc, cll_pos]
      have f1 : worA (mv σ) (min a b) (max a b) (29 - d) s = (((worA (mv σ) (min a b) (max a b) (29 - d) s).toNat : Nat) : Int) := by omega
      have f2 : wei (mv σ) s d = (((wei (mv σ) s d).toNat : Nat) : Int) := by omega
      have h := v_fraction (σ := σ2) (x := (worA (mv σ) (min a b) (max a b) (29 - d) s).toNat) (y := (wei (mv σ) s d).toNat) (w := w) (by omega) (by omega) (by omega) hw
      rw [← f1, ← f2] at h
      rw [h, cll_pos]
      exact ⟨σ2, rfl, qc⟩
  · rw [if_neg q]
    refine ⟨σ, ?_, QC.rf hI⟩
    by_cases z1 : (0 ≤ s ∧ s < 3) ∧ 0 ≤ d ∧ d < 30
    · rw [if_pos z1]
      by_cases z2 : 0 ≤ a ∧ a < yds (mv σ)
      · rw [if_pos z2]
        by_cases z3 : 0 ≤ b ∧ b < yds (mv σ)
        · rw [if_pos z3, if_neg (fun z => q ⟨⟨z1, z2, z3⟩, z⟩)]
        · rw [if_neg z3]
      · rw [if_neg z2]
    · rw [if_neg z1]
theorem N_waits {σ : St} (hM : MI (mv σ)) (hg : GN σ) {s d a b w : Int} (hs : in32 s) (hd : in32 d) (ha : in32 a) (hb : in32 b) (hw : in32 w) : ∃ σ1, f_X9_waits σ s d a b w = some (aWaits (mv σ) s d a b w, σ1) ∧ QM σ1 σ := by
  have hr := yds_rng hM
  have no : f_X9_no σ (-2) = some (-9223372036854775806, σ) := by rw [m_no (by decide)]; rfl
  unfold f_X9_waits aWaits B_X9_waits_34
  rw [m_isWay hM hs hd ha hb, cll_pos, chk_b01, ite_b0, no, cll_pos]
  by_cases q1 : ((0 ≤ s ∧ s < 3) ∧ 0 ≤ d ∧ d < 30) ∧ (0 ≤ a ∧ a < yds (mv σ)) ∧ 0 ≤ b ∧ b < yds (mv σ)
  · rw [if_pos q1, m_isTwo hw, cll_pos, chk_b01, ite_b0]
    by_cases q2 : 0 ≤ w ∧ w < 2
    · obtain ⟨s, rfl⟩ := ex_nat q1.1.1.1
      obtain ⟨d, rfl⟩ := ex_nat q1.1.2.1
      obtain ⟨a, rfl⟩ := ex_nat q1.2.1.1
      obtain ⟨b, rfl⟩ := ex_nat q1.2.2.1
      obtain ⟨σ', k1, k2, k3⟩ := m_waitsOf hM hg (s := s) (d := d) (p3 := a) (p4 := b) (by omega) (by omega) (by omega) (by omega) hw
      rw [if_pos (by omega), if_pos ⟨q1, q2⟩, k1, cll_pos]
      exact ⟨σ', rfl, k2.qm k3⟩
    · rw [if_neg (by omega), if_neg (fun z => q2 z.2)]
      exact ⟨σ, rfl, QM.rf σ⟩
  · rw [if_neg q1, if_neg (fun z => q1 z.1)]
    exact ⟨σ, rfl, QM.rf σ⟩
theorem V_goes {σ : St} (hI : Inv σ) {s d a b : Int} (hs : in32 s) (hd : in32 d) (ha : in32 a) (hb : in32 b) : ∃ σ1, f_X8_goes σ s d a b = some (aGoes (mv σ) s d a b, σ1) ∧ QC σ1 σ := by
  have hr := yds_rng hI.2.1
  unfold f_X8_goes aGoes
  rw [v_isSpringDay hs hd, cll_pos, chk_b01, ite_b0, v_isYard hI.1 hI.2.1 ha, cll_pos, chk_b01, ite_b0, v_isYard hI.1 hI.2.1 hb, cll_pos, chk_b01, ite_b0]
  by_cases q : ((0 ≤ s ∧ s < 3) ∧ 0 ≤ d ∧ d < 30) ∧ (0 ≤ a ∧ a < yds (mv σ)) ∧ 0 ≤ b ∧ b < yds (mv σ)
  · obtain ⟨σ1, r1, r2, r3⟩ := v_refresh hI
    have hI1 := hI.cv r2 r3
    obtain ⟨s, rfl⟩ := ex_nat q.1.1.1
    obtain ⟨d, rfl⟩ := ex_nat q.1.2.1
    obtain ⟨a, rfl⟩ := ex_nat q.2.1.1
    obtain ⟨b, rfl⟩ := ex_nat q.2.2.1
    have e1 : min (a : Int) (b : Int) = ((min a b : Nat) : Int) := by omega
    have e2 : max (a : Int) (b : Int) = ((max a b : Nat) : Int) := by omega
    obtain ⟨σ2, k1, k2, k3, k4⟩ := v_reckon hI1.1 hI1.2.1 r3.2 (fr := d) (a := min a b) (b := max a b) (by omega) (by omega) (by omega)
    rw [r2.mv] at k4
    have m2 : mv σ2 = mv σ := k2.mv.trans r2.mv
    have hwe := wei_rng hI.2.1 (s := s) (d := d)
    have wo : f_X7_weightOf σ2 s d = some (wei (mv σ) s d, σ2) := by
      unfold f_X7_weightOf
      rw [v_inside (by omega) (by omega), cll_pos, chk_b01, ite_b0, if_pos (by omega), v_sumOfAlike k3 (by omega) (by omega), cll_pos, v_wei (hI1.1.eq k2.eq), m2]
    have wb1 : f_X7_isBestAtOnce σ2 s = some (if goe (mv σ) (min a b) (max a b) s d then 1 else 0, σ2) := by
      unfold f_X7_isBestAtOnce
      rw [v_inside (by omega) (by omega), cll_pos, chk_b01, ite_b0, if_pos (by omega), chk_pos (by omega), show (s : Int).toNat = s by omega, (k4 s (by omega)).2, chk_b01, ite_b0]
      split <;> rfl
    have qc : QC σ2 σ := ⟨k2.eq.tr r2.eq, Or.inr (k2.fre r3)⟩
    rw [if_pos q.1, if_pos q.2.1, if_pos q.2.2, if_pos q, r1, cll_pos, chk_pos ha, chk_pos hb, e1, e2, k1, cll_pos, wo, cll_pos, chk_pos (by omega)]
    unfold gos
    simp only [Int.toNat_natCast]
    refine ⟨σ2, ?_, qc⟩
    by_cases z : wei (mv σ) s d = 0
    · rw [if_pos z, if_pos z]
    · rw [if_neg z, if_neg z, wb1, cll_pos, chk_b01, ite_b0]
      split <;> rfl
  · rw [if_neg q]
    refine ⟨σ, ?_, QC.rf hI⟩
    by_cases z1 : (0 ≤ s ∧ s < 3) ∧ 0 ≤ d ∧ d < 30
    · rw [if_pos z1]
      by_cases z2 : 0 ≤ a ∧ a < yds (mv σ)
      · rw [if_pos z2, if_neg (fun z => q ⟨z1, z2, z⟩)]
      · rw [if_neg z2]
    · rw [if_neg z1]
theorem N_goes {σ : St} (hM : MI (mv σ)) (hg : GN σ) {s d a b : Int} (hs : in32 s) (hd : in32 d) (ha : in32 a) (hb : in32 b) : ∃ σ1, f_X9_goes σ s d a b = some (aGoes (mv σ) s d a b, σ1) ∧ QM σ1 σ := by
  have hr := yds_rng hM
  unfold f_X9_goes aGoes
  rw [m_isWay hM hs hd ha hb, cll_pos, chk_b01, ite_b0]
  by_cases q1 : ((0 ≤ s ∧ s < 3) ∧ 0 ≤ d ∧ d < 30) ∧ (0 ≤ a ∧ a < yds (mv σ)) ∧ 0 ≤ b ∧ b < yds (mv σ)
  · obtain ⟨s, rfl⟩ := ex_nat q1.1.1.1
    obtain ⟨d, rfl⟩ := ex_nat q1.1.2.1
    obtain ⟨a, rfl⟩ := ex_nat q1.2.1.1
    obtain ⟨b, rfl⟩ := ex_nat q1.2.2.1
    obtain ⟨σ', k1, k2, k3⟩ := m_goesOf hM hg (s := s) (d := d) (p3 := a) (p4 := b) (by omega) (by omega) (by omega) (by omega)
    rw [if_pos q1, if_pos q1, k1, cll_pos]
    exact ⟨σ', rfl, k2.qm k3⟩
  · rw [if_neg q1, if_neg q1]
    exact ⟨σ, rfl, QM.rf σ⟩
theorem V_keep {σ : St} (hI : Inv σ) {s d a b n w : Int} (hs : in32 s) (hd : in32 d) (ha : in32 a) (hb : in32 b) (hn : in32 n) (hw : in32 w) : ∃ σ1, f_X8_keep σ s d a b n w = some (aKeep (mv σ) s d a b n w, σ1) ∧ QC σ1 σ := by
  have hr := yds_rng hI.2.1
  unfold f_X8_keep aKeep
  rw [v_isSpringDay hs hd, cll_pos, chk_b01, ite_b0, v_isYard hI.1 hI.2.1 ha, cll_pos, chk_b01, ite_b0, v_isYard hI.1 hI.2.1 hb, cll_pos, chk_b01, ite_b0, chk_pos hn, v_inside hw (by decide), cll_pos, chk_b01, ite_b0]
  by_cases q : ((((0 ≤ s ∧ s < 3) ∧ 0 ≤ d ∧ d < 30) ∧ (0 ≤ a ∧ a < yds (mv σ)) ∧ 0 ≤ b ∧ b < yds (mv σ)) ∧ 1 ≤ n ∧ n ≤ 12) ∧ 0 ≤ w ∧ w < 3
  · obtain ⟨σ1, r1, r2, r3⟩ := v_refresh hI
    have hI1 := hI.cv r2 r3
    obtain ⟨s, rfl⟩ := ex_nat q.1.1.1.1.1
    obtain ⟨d, rfl⟩ := ex_nat q.1.1.1.2.1
    obtain ⟨a, rfl⟩ := ex_nat q.1.1.2.1.1
    obtain ⟨b, rfl⟩ := ex_nat q.1.1.2.2.1
    obtain ⟨n, rfl⟩ := ex_nat (show 0 ≤ n by omega)
    have e1 : min (a : Int) (b : Int) = ((min a b : Nat) : Int) := by omega
    have e2 : max (a : Int) (b : Int) = ((max a b : Nat) : Int) := by omega
    obtain ⟨σ2, k1, k2, k3⟩ := v_kpReckon hI1.2.1 r3.2 (s := s) (day := d) (lo := min a b) (hi := max a b) (mo := n) (by omega) (by omega) (by omega) (by rw [r2.mv]; omega) (by omega)
    rw [r2.mv] at k3
    have u1 : σ2 36 1 = (kOut (mv σ) s d (min a b) (max a b) n).1 := congrArg Prod.fst k3
    have u2 : σ2 36 2 = (kOut (mv σ) s d (min a b) (max a b) n).2.1 := congrArg (fun u => u.2.1) k3
    have u3 : σ2 36 3 = (kOut (mv σ) s d (min a b) (max a b) n).2.2 := congrArg (fun u => u.2.2) k3
    have qc : QC σ2 σ := ⟨k2.eq.tr r2.eq, Or.inr (k2.fre r3)⟩
    rw [if_pos q.1.1.1, if_pos q.1.1.2.1, if_pos q.1.1.2.2, if_neg (by omega), if_neg (by omega), if_pos q.2, if_pos q, r1, cll_pos, chk_pos ha, chk_pos hb, e1, e2, k1, cll_pos, chk_pos hw, u1, u2, u3]
    refine ⟨σ2, ?_, qc⟩
    unfold k3w
    simp only [Int.toNat_natCast]
    split
    · rfl
    · split <;> rfl
  · rw [if_neg q]
    refine ⟨σ, ?_, QC.rf hI⟩
    by_cases z1 : (0 ≤ s ∧ s < 3) ∧ 0 ≤ d ∧ d < 30
    · rw [if_pos z1]
      by_cases z2 : 0 ≤ a ∧ a < yds (mv σ)
      · rw [if_pos z2]
        by_cases z3 : 0 ≤ b ∧ b < yds (mv σ)
        · rw [if_pos z3]
          by_cases z4 : n < 1
          · rw [if_pos z4]
          · rw [if_neg z4]
            by_cases z5 : 12 < n
            · rw [if_pos z5]
            · rw [if_neg z5, if_neg (fun z => q ⟨⟨⟨z1, z2, z3⟩, by omega, by omega⟩, z⟩)]
        · rw [if_neg z3]
      · rw [if_neg z2]
    · rw [if_neg z1]
theorem N_keep {σ : St} (hM : MI (mv σ)) (h8 : σ 58 9 ≤ 8) {s d a b n w : Int} (hs : in32 s) (hd : in32 d) (ha : in32 a) (hb : in32 b) (hn : in32 n) (hw : in32 w) : ∃ σ1, f_X9_keep σ s d a b n w = some (aKeep (mv σ) s d a b n w, σ1) ∧ QM σ1 σ := by
  have hr := yds_rng hM
  unfold f_X9_keep aKeep
  rw [m_isWay hM hs hd ha hb, cll_pos, chk_b01, ite_b0]
  by_cases q1 : ((0 ≤ s ∧ s < 3) ∧ 0 ≤ d ∧ d < 30) ∧ (0 ≤ a ∧ a < yds (mv σ)) ∧ 0 ≤ b ∧ b < yds (mv σ)
  · rw [if_pos q1, chk_pos hn, m_in (by omega) (by omega) (by omega), cll_pos, chk_b01, ite_b0]
    by_cases q2 : 1 ≤ n ∧ n ≤ 12
    · rw [if_pos q2, chk_pos hw, m_in (by omega) (by omega) (by omega), cll_pos, chk_b01, ite_b0]
      by_cases q3 : 0 ≤ w ∧ w < 3
      · obtain ⟨s, rfl⟩ := ex_nat q1.1.1.1
        obtain ⟨d, rfl⟩ := ex_nat q1.1.2.1
        obtain ⟨a, rfl⟩ := ex_nat q1.2.1.1
        obtain ⟨b, rfl⟩ := ex_nat q1.2.2.1
        obtain ⟨n, rfl⟩ := ex_nat (show 0 ≤ n by omega)
        obtain ⟨σ', k1, k2⟩ := m_keepOf hM h8 (s := s) (day := d) (p3 := a) (p4 := b) (yards := n) (by omega) (by omega) (by omega) (by omega) (by omega) hw
        rw [if_pos (by omega), if_pos ⟨⟨q1, q2⟩, q3⟩, k1, cll_pos]
        exact ⟨σ', rfl, k2⟩
      · rw [if_neg (by omega), if_neg (fun z => q3 z.2)]
        exact ⟨σ, rfl, QM.rf σ⟩
    · rw [if_neg q2, if_neg (fun z => q2 z.1.2)]
      exact ⟨σ, rfl, QM.rf σ⟩
  · rw [if_neg q1, if_neg (fun z => q1 z.1.1)]
    exact ⟨σ, rfl, QM.rf σ⟩
theorem V_never {σ : St} (hI : Inv σ) {w : Int} (hw : in32 w) : ∃ σ1, f_X8_never σ w = some (aNever (mv σ) w, σ1) ∧ QC σ1 σ := by
  unfold f_X8_never aNever
  rw [v_inside hw (by decide), cll_pos, chk_b01, ite_b0]
  by_cases q : 0 ≤ w ∧ w < 2
  · obtain ⟨σ1, r1, r2, r3⟩ := v_refresh hI
    have hI1 := hI.cv r2 r3
    obtain ⟨σ2, k1, k2, k3⟩ := v_crReckon hI1.1 hI1.2.1 r3.2
    rw [r2.mv] at k3
    have u1 : σ2 37 7 = (nvA (mv σ) 256).1 := congrArg Prod.fst k3
    have u2 : σ2 37 8 = (nvA (mv σ) 256).2.1 := congrArg (fun u => u.2.1) k3
    rw [if_pos q, if_pos q, r1, cll_pos, k1, cll_pos, chk_pos hw, u1, u2]
    refine ⟨σ2, ?_, k2.eq.tr r2.eq, Or.inr (k2.fre r3)⟩
    unfold nev
    split <;> rfl
  · rw [if_neg q, if_neg q]
    exact ⟨σ, rfl, QC.rf hI⟩
theorem N_never {σ : St} (hM : MI (mv σ)) {w : Int} (hw : in32 w) : ∃ σ1, f_X9_never σ w = some (aNever (mv σ) w, σ1) ∧ QM σ1 σ := by
  unfold f_X9_never aNever
  rw [m_isTwo hw, cll_pos, chk_b01, ite_b0]
  by_cases q : 0 ≤ w ∧ w < 2
  · obtain ⟨σ', k1, k2⟩ := m_neverOf hM hw
    rw [if_pos (by omega), if_pos q, k1, cll_pos]
    exact ⟨σ', rfl, k2⟩
  · rw [if_neg (by omega), if_neg q]
    exact ⟨σ, rfl, QM.rf σ⟩
/-- where all odds are 0, no set brings more than 0 -/
theorem nv_zero {M : St} (hM : MI M) (h : allw M = 0) : ∀ S, (nvA M S).2.2 = 0
  | 0 => rfl
  | S + 1 => by
    have ih := nv_zero hM h S
    have c0 := hM.chc (s := 0) (by omega)
    have c1 := hM.chc (s := 1) (by omega)
    have c2 := hM.chc (s := 2) (by omega)
    have ha : M 8 0 + M 8 1 + M 8 2 = 0 := by
      have : allw M = M 8 0 + M 8 1 + M 8 2 := by simp [allw, wgA]
      omega
    have z0 : M 8 0 = 0 := by omega
    have z1 : M 8 1 = 0 := by omega
    have z2 : M 8 2 = 0 := by omega
    have hw : wsA M S 3 = 0 := by simp [wsA, z0, z1, z2]
    unfold nvA nvU
    split
    · rw [hw, ih, if_pos (by omega)]
    · exact ih
theorem V_gain {σ : St} (hI : Inv σ) {w : Int} (hw : in32 w) : ∃ σ1, f_X8_gain σ w = some (aGain (mv σ) w, σ1) ∧ QC σ1 σ := by
  unfold f_X8_gain aGain
  rw [v_inside hw (by decide), cll_pos, chk_b01, ite_b0]
  by_cases q : 0 ≤ w ∧ w < 2
  · obtain ⟨σ1, r1, r2, r3⟩ := v_refresh hI
    have hI1 := hI.cv r2 r3
    obtain ⟨σ2, k1, k2, k3⟩ := v_crReckon hI1.1 hI1.2.1 r3.2
    rw [r2.mv] at k3
    have m2 : mv σ2 = mv σ := k2.mv.trans r2.mv
    have u3 : σ2 37 9 = (nvA (mv σ) 256).2.2 := congrArg (fun u => u.2.2) k3
    have qc : QC σ2 σ := ⟨k2.eq.tr r2.eq, Or.inr (k2.fre r3)⟩
    have hn := (nvA_rng hI.2.1 256).2.2
    have ha := allw_rng hI.2.1
    rw [if_pos q, if_pos q, r1, cll_pos, k1, cll_pos, v_allChances (hI1.1.eq k2.eq), cll_pos, m2, u3]
    unfold gai
    by_cases z : allw (mv σ) = 0
    · rw [z, nv_zero hI.2.1 z, v_fraction0 (by omega), cll_pos, if_pos rfl]
      exact ⟨σ2, rfl, qc⟩
    · have f1 : (nvA (mv σ) 256).2.2 = ((((nvA (mv σ) 256).2.2).toNat : Nat) : Int) := by omega
      have f2 : allw (mv σ) = (((allw (mv σ)).toNat : Nat) : Int) := by omega
      have h := v_fraction (σ := σ2) (x := ((nvA (mv σ) 256).2.2).toNat) (y := (allw (mv σ)).toNat) (w := w) (by omega) (by omega) (by omega) hw
      rw [← f1, ← f2] at h
      rw [if_neg z, h, cll_pos]
      exact ⟨σ2, rfl, qc⟩
  · rw [if_neg q, if_neg q]
    exact ⟨σ, rfl, QC.rf hI⟩
theorem N_gain {σ : St} (hM : MI (mv σ)) {w : Int} (hw : in32 w) : ∃ σ1, f_X9_gain σ w = some (aGain (mv σ) w, σ1) ∧ QM σ1 σ := by
  have no : f_X9_no σ (-2) = some (-9223372036854775806, σ) := by rw [m_no (by decide)]; rfl
  unfold f_X9_gain aGain
  rw [m_isTwo hw, cll_pos, chk_b01, ite_b0, no, cll_pos]
  by_cases q : 0 ≤ w ∧ w < 2
  · obtain ⟨σ', k1, k2⟩ := m_gainOf hM hw
    rw [if_pos (by omega), if_pos q, k1, cll_pos]
    exact ⟨σ', rfl, k2⟩
  · rw [if_neg (by omega), if_neg q]
    exact ⟨σ, rfl, QM.rf σ⟩
theorem v_watchL {σ : St} (hC : CI σ) (hM : MI (mv σ)) (hF : FR σ) : ∀ (n d : Nat) (v w u : Int), v = d → d ≤ 30 → w = (wcA (mv σ) d : Nat) → u = (if d = 0 then 0 else knd (mv σ) (wcA (mv σ) d)) → 30 - d < n → L_X8_watch_13 n σ w u v = some (((wcA (mv σ) 30 : Nat) : Int), σ)
  | 0, d, v, w, u, hv, h1, hw, hu, hn => by omega
  | n + 1, d, v, w, u, hv, h1, hw, hu, hn => by
    subst hv
    subst hw
    subst hu
    have r1 := knd_rng (M := mv σ) (d := d)
    have r2 := knd_rng (M := mv σ) (d := wcA (mv σ) d)
    rw [L_X8_watch_13, S_X8_watch_13, chk_pos (by omega)]
    by_cases q : 30 ≤ (d : Int)
    · rw [if_pos q, show d = 30 by omega]
    · have ih := fun w u hw hu => v_watchL hC hM hF n (d + 1) (d + 1) w u (by omega) (by omega) hw hu (by omega)
      rw [if_neg q, v_levelKinds hC hM hF (by omega), cll_pos, chk_pos (by omega)]
      by_cases e : d = 0
      · subst e
        have w0 : wcA (mv σ) 0 = 0 := rfl
        have w1 : wcA (mv σ) (0 + 1) = 0 := by simp [wcA]
        rw [if_pos rfl, chk_pos (by decide)]
        by_cases z : knd (mv σ) 0 ≤ 0
        · rw [if_pos z]
          exact ih _ _ (by rw [w0, w1]) (by rw [if_neg (by omega), w1]; omega)
        · rw [if_neg z]
          exact ih _ _ (by rw [w1]) (by rw [if_neg (by omega), w1])
      · rw [if_neg e, chk_pos (by omega)]
        by_cases z : knd (mv σ) d ≤ knd (mv σ) (wcA (mv σ) d)
        · rw [if_pos z]
          exact ih _ _ (by rw [wcA, if_pos z]) (by rw [if_neg (by omega), wcA, if_pos z])
        · rw [if_neg z]
          exact ih _ _ (by rw [wcA, if_neg z]) (by rw [if_neg (by omega), wcA, if_neg z])
theorem V_watch {σ : St} (hI : Inv σ) : ∃ σ1, f_X8_watch σ = some (((wcA (mv σ) 30 : Nat) : Int), σ1) ∧ QC σ1 σ := by
  obtain ⟨σ1, r1, r2, r3⟩ := v_refresh hI
  have hI1 := hI.cv r2 r3
  unfold f_X8_watch
  rw [r1, cll_pos, v_watchL hI1.1 hI1.2.1 r3.2 FU 0 0 0 0 rfl (by omega) rfl rfl (by rw [FU_eq]; omega), r2.mv]
  exact ⟨σ1, rfl, r2.eq, Or.inr r3⟩
theorem v_fitL {σ : St} (hC : CI σ) (hM : MI (mv σ)) (hF : FR σ) : ∀ (n s : Nat) (v acc : Int), v = s → s ≤ 3 → acc = (bts (fun s => ftA (mv σ) s (σ 58 17).toNat) s : Nat) → 3 - s < n → L_X8_fit_21 n σ (yds (mv σ)) acc v = some (((fitB (mv σ) : Nat) : Int), σ)
  | 0, s, v, acc, hv, h1, ha, hn => by omega
  | n + 1, s, v, acc, hv, h1, ha, hn => by
    subst hv
    subst ha
    rw [L_X8_fit_21, S_X8_fit_21, chk_pos (by omega)]
    by_cases q : 3 ≤ (s : Int)
    · rw [if_pos q, show s = 3 by omega]
      rfl
    · have ih := fun acc ha => v_fitL hC hM hF n (s + 1) (s + 1) acc (by omega) (by omega) ha (by omega)
      have o := or_bit (P := fun s => ftA (mv σ) s (σ 58 17).toNat) (n := s) (by omega)
      rw [if_neg q, v_comeOutBy hC hM hF (by omega), cll_pos, chk_b01, ite_b0]
      by_cases g : ftA (mv σ) s (σ 58 17).toNat
      · rw [if_pos g] at o ⊢
        exact ih _ o
      · rw [if_neg g]
        exact ih _ (congrArg Nat.cast (by rw [bts, if_neg g, Nat.or_zero]))
theorem V_fit {σ : St} (hI : Inv σ) : ∃ σ1, f_X8_fit σ = some (((fitB (mv σ) : Nat) : Int), σ1) ∧ QC σ1 σ := by
  obtain ⟨σ1, r1, r2, r3⟩ := v_refresh hI
  have hI1 := hI.cv r2 r3
  unfold f_X8_fit
  rw [r1, cll_pos, v_told hI1.1 hI1.2.1 (by omega), cll_pos, show fig (mv σ1) 3 = yds (mv σ1) from rfl, v_fitL hI1.1 hI1.2.1 r3.2 FU 0 0 0 rfl (by omega) rfl (by rw [FU_eq]; omega), r2.mv]
  exact ⟨σ1, rfl, r2.eq, Or.inr r3⟩
theorem cn_pcn {σ : St} (hC : CI σ) (hM : MI (mv σ)) : pcn (σ 37 6).toNat = cnA (mv σ) 8 := by
  have hp := hC.2.2.2.2.1
  have hi : ∀ k, 8 ≤ k → (σ 37 6).toNat.testBit k = false := fun k hk => by
    have h2 : 2 ^ 8 ≤ 2 ^ k := Nat.pow_le_pow_right (by omega) hk
    exact Nat.testBit_lt_two_pow (by omega)
  have st : ∀ k, k < 8 → (if (σ 37 6).toNat.testBit k then (1 : Int) else 0) = mv σ 11 (4 * k) := fun k hk => by
    have c := (hM.con hk).1
    rw [mv_11] at c ⊢
    rw [(hp.2 k hk).1]
    rcases c with c | c
    · rw [c]; rfl
    · rw [c]; rfl
  unfold pcn
  simp only [cntA, cnA, hi 8 (by omega), hi 9 (by omega), hi 10 (by omega), hi 11 (by omega), st 0 (by omega), st 1 (by omega), st 2 (by omega), st 3 (by omega), st 4 (by omega), st 5 (by omega), st 6 (by omega), st 7 (by omega)]
  simp
theorem V_count {σ : St} (hI : Inv σ) {w : Int} (hw : in32 w) : f_X8_count σ w = some (cou (mv σ) w, σ) := by
  obtain ⟨hC, hM, -, -⟩ := hI
  have hp := hC.2.2.2.2.1.1
  have e6 : σ 37 6 = (((σ 37 6).toNat : Nat) : Int) := by omega
  have bc := v_bitCount (σ := σ) (N := (σ 37 6).toNat) (by omega)
  rw [← e6, cn_pcn hC hM] at bc
  unfold f_X8_count cou
  rw [chk_pos hw]
  by_cases q0 : w = 0
  · rw [if_pos q0, if_pos q0, v_told hC hM (by omega), cll_pos]; rfl
  rw [if_neg q0, if_neg q0]
  by_cases q1 : w = 1
  · subst q1
    rw [if_pos rfl, if_pos rfl, chk_pos (by decide), show ((1 : Int) - 1).toNat = 0 from rfl, v_told hC hM (by omega), cll_pos]
  rw [if_neg q1, if_neg q1]
  by_cases q2 : w = 2
  · subst q2
    rw [if_pos rfl, if_pos rfl, chk_pos (by decide), show ((2 : Int) - 1).toNat = 1 from rfl, v_told hC hM (by omega), cll_pos]
  rw [if_neg q2, if_neg q2]
  by_cases q3 : w = 3
  · subst q3
    rw [if_pos rfl, if_pos rfl, chk_pos (by decide), show ((3 : Int) - 1).toNat = 2 from rfl, v_told hC hM (by omega), cll_pos]
  rw [if_neg q3, if_neg q3, bc, cll_pos, v_allChances hC, cll_pos, hC.2.2.2.1.1, hC.2.2.2.2.2.1.1, hC.c8]
  by_cases q4 : w = 4
  · rw [if_pos q4, if_pos q4]; rfl
  rw [if_neg q4, if_neg q4]
  by_cases q5 : w = 5
  · rw [if_pos q5, if_pos q5]
  rw [if_neg q5, if_neg q5]
  by_cases q6 : w = 6
  · rw [if_pos q6, if_pos q6]; rfl
  rw [if_neg q6, if_neg q6]
  by_cases q7 : w = 7
  · rw [if_pos q7, if_pos q7]
  rw [if_neg q7, if_neg q7]
  by_cases q8 : w = 8
  · rw [if_pos q8, if_pos q8]; rfl
  rw [if_neg q8, if_neg q8]
