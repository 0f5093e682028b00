/-! BOTH SIDES: questions -/
def aFault (M : St) (t : Int) : Int := if 0 ≤ t ∧ t < 4 then flt M t.toNat else -2
def aHeight (M : St) (y : Int) : Int := if 0 ≤ y ∧ y < yds M then hgt M y.toNat else -2
def aLevel (M : St) (s d : Int) : Int := if (0 ≤ s ∧ s < 3) ∧ 0 ≤ d ∧ d < 30 then lev M s.toNat d.toNat else -2
def aPoss (M : St) (s : Int) : Int := if 0 ≤ s ∧ s < 3 then pos M s.toNat else -2
def aWet (M : St) (s d y : Int) : Int := if ((0 ≤ s ∧ s < 3) ∧ 0 ≤ d ∧ d < 30) ∧ 0 ≤ y ∧ y < yds M then (if wet M s.toNat d.toNat y.toNat then 1 else 0) else -2
def aWater (M : St) (s d w : Int) : Int := if ((0 ≤ s ∧ s < 3) ∧ 0 ≤ d ∧ d < 30) ∧ 0 ≤ w ∧ w < 2 then (if w = 0 then ((wb M s.toNat d.toNat : Nat) : Int) else ((isl M s.toNat d.toNat : Nat) : Int)) else -2
def wayOk (M : St) (s d a b : Int) : Prop := ((0 ≤ s ∧ s < 3) ∧ 0 ≤ d ∧ d < 30) ∧ (0 ≤ a ∧ a < yds M) ∧ 0 ≤ b ∧ b < yds M
def aCost (M : St) (s d a b w : Int) : Int := if (((0 ≤ s ∧ s < 3) ∧ 0 ≤ d ∧ d < 30) ∧ (0 ≤ a ∧ a < yds M) ∧ 0 ≤ b ∧ b < yds M) ∧ 0 ≤ w ∧ w < 3 then csw M s.toNat d.toNat (min a.toNat b.toNat) (max a.toNat b.toNat) w else -2
def aClosed (M : St) (s y : Int) : Int := if (0 ≤ s ∧ s < 3) ∧ 0 ≤ y ∧ y < yds M then clo M s.toNat y.toNat else -2
def aDeed (M : St) (s w : Int) : Int := if (0 ≤ s ∧ s < 3) ∧ 0 ≤ w ∧ w < 3 then dee M s.toNat w else -100002
def aWaits (M : St) (s d a b w : Int) : Int := if (((0 ≤ s ∧ s < 3) ∧ 0 ≤ d ∧ d < 30) ∧ (0 ≤ a ∧ a < yds M) ∧ 0 ≤ b ∧ b < yds M) ∧ 0 ≤ w ∧ w < 2 then wai M s.toNat d.toNat (min a.toNat b.toNat) (max a.toNat b.toNat) w else -9223372036854775806
def aGoes (M : St) (s d a b : Int) : Int := if ((0 ≤ s ∧ s < 3) ∧ 0 ≤ d ∧ d < 30) ∧ (0 ≤ a ∧ a < yds M) ∧ 0 ≤ b ∧ b < yds M then gos M s.toNat d.toNat (min a.toNat b.toNat) (max a.toNat b.toNat) else -2
def aKeep (M : St) (s d a b n w : Int) : Int := if ((((0 ≤ s ∧ s < 3) ∧ 0 ≤ d ∧ d < 30) ∧ (0 ≤ a ∧ a < yds M) ∧ 0 ≤ b ∧ b < yds M) ∧ 1 ≤ n ∧ n ≤ 12) ∧ 0 ≤ w ∧ w < 3 then k3w (kOut M s.toNat d.toNat (min a.toNat b.toNat) (max a.toNat b.toNat) n.toNat) w else -2
def aNever (M : St) (w : Int) : Int := if 0 ≤ w ∧ w < 2 then nev M w else -2
def aGain (M : St) (w : Int) : Int := if 0 ≤ w ∧ w < 2 then gai M w else -9223372036854775806
/-- a question of the class: what counts stays, the valley may be reckoned -/
def QC (σ' σ : St) : Prop := EQ σ' σ ∧ FRS σ'
theorem Inv.qc {σ' σ : St} (hI : Inv σ) (h : QC σ' σ) : Inv σ' := hI.eq h.1 h.2
theorem QC.rf {σ : St} (hI : Inv σ) : QC σ σ := ⟨EQ.rf σ, hI.2.2.2⟩
theorem QC.tr {a b c : St} (h1 : QC a b) (h2 : QC b c) : QC a c := ⟨h1.1.tr h2.1, h1.2⟩
theorem both_q {A B : St → Option Rt} {σ : St} {v : Int} (hI : Inv σ) (h1 : ∃ σ1, A σ = some (v, σ1) ∧ QC σ1 σ) (h2 : ∀ σ1, Inv σ1 → mv σ1 = mv σ → ∃ σ2, B σ1 = some (v, σ2) ∧ QM σ2 σ1) : Both A B σ := by
  obtain ⟨σ1, a1, a2⟩ := h1
  have hI1 := hI.qc a2
  obtain ⟨σ2, b1, b2⟩ := h2 σ1 hI1 a2.1.mv
  exact ⟨v, σ1, σ2, a1, b1, hI1.qm b2⟩
theorem v_isl {σ : St} {M : St} (hM : MI M) {s d : Nat} : f_X8_islands σ (wb M s d : Nat) = some (((isl M s d : Nat) : Int), σ) := by
  have hw := wb_lt hM (s := s) (d := d)
  have hy := yds_rng hM
  have e1 := shlZ_nat (a := wb M s d) (k := 1) (by omega) (by omega)
  have e2 := shrZ_nat (a := wb M s d) (k := 1) (by omega) (by omega)
  rw [show ((1 : Nat) : Int) = 1 from rfl] at e1 e2
  have hle : wb M s d * 2 ^ 1 &&& wb M s d / 2 ^ 1 ≤ wb M s d * 2 ^ 1 := Nat.and_le_left
  unfold f_X8_islands
  rw [e1, e2, andZ_nat (by omega), andnZ_nat (by omega) (by omega)]
  refine congrArg some (Prod.ext (congrArg Nat.cast ?_) rfl)
  unfold isl
  refine bts_eq fun i => ?_
  rw [← Nat.shiftLeft_eq, ← Nat.shiftRight_eq_div_pow]
  simp only [Nat.testBit_xor, Nat.testBit_and, Nat.testBit_shiftLeft, Nat.testBit_shiftRight, wb_bit, Nat.add_comm 1 i, ge_iff_le]
  by_cases q : i + 1 < (yds M).toNat
  · rw [decide_eq_true q, decide_eq_true (show i < (yds M).toNat by omega), decide_eq_true (show i - 1 < (yds M).toNat by omega), decide_eq_true (show i < (yds M).toNat - 1 by omega)]
    by_cases z : 1 ≤ i
    · rw [decide_eq_true z]
      cases wet M s d i <;> cases wet M s d (i - 1) <;> cases wet M s d (i + 1) <;> rfl
    · rw [decide_eq_false z]
      simp
  · rw [decide_eq_false q, decide_eq_false (show ¬ i < (yds M).toNat - 1 by omega)]
    simp
theorem V_fault {σ : St} (hI : Inv σ) {t : Int} (ht : in32 t) : f_X8_fault σ t = some (aFault (mv σ) t, σ) := by
  unfold f_X8_fault aFault
  rw [v_inside ht (by decide), cll_pos, chk_b01, ite_b0]
  by_cases q : 0 ≤ t ∧ t < 4
  · rw [if_pos q, if_pos q, chk_pos (by omega), v_firstFault hI.1 hI.2.1 (by omega), cll_pos]
  · rw [if_neg q, if_neg q]
theorem N_fault {σ : St} (hM : MI (mv σ)) {t : Int} (ht : in32 t) : f_X9_fault σ t = some (aFault (mv σ) t, σ) := by
  unfold f_X9_fault aFault
  rw [m_isText ht, cll_pos, chk_b01, ite_b0]
  by_cases q : 0 ≤ t ∧ t < 4
  · obtain ⟨n, rfl⟩ := ex_nat q.1
    rw [if_pos (by omega), if_pos q, m_faultOf hM (by omega), cll_pos]
    rfl
  · rw [if_neg (by omega), if_neg q]
theorem V_height {σ : St} (hI : Inv σ) {y : Int} (hy : in32 y) : f_X8_height σ y = some (aHeight (mv σ) y, σ) := by
  have hf := fig_rng hI.2.1 (t := 3) (by omega)
  have h3 : yds (mv σ) = fig (mv σ) 3 := rfl
  rw [mv_6] at hf
  unfold f_X8_height aHeight
  rw [v_isYard hI.1 hI.2.1 hy, cll_pos, chk_b01, ite_b0]
  by_cases q : 0 ≤ y ∧ y < yds (mv σ)
  · obtain ⟨n, rfl⟩ := ex_nat q.1
    rw [if_pos q, if_pos q, v_figure hI.1 hI.2.1 (by omega) (by omega), cll_pos]
    rfl
  · rw [if_neg q, if_neg q]
theorem N_height {σ : St} (hM : MI (mv σ)) {y : Int} (hy : in32 y) : f_X9_height σ y = some (aHeight (mv σ) y, σ) := by
  have hr := yds_rng hM
  unfold f_X9_height aHeight
  rw [m_isYard hM hy, cll_pos, chk_b01, ite_b0]
  by_cases q : 0 ≤ y ∧ y < yds (mv σ)
  · obtain ⟨n, rfl⟩ := ex_nat q.1
    rw [if_pos q, if_pos q, m_heightOf (by omega), cll_pos]
    rfl
  · rw [if_neg q, if_neg q]
theorem V_level {σ : St} (hI : Inv σ) {s d : Int} (hs : in32 s) (hd : in32 d) : ∃ σ1, f_X8_level σ s d = some (aLevel (mv σ) s d, σ1) ∧ QC σ1 σ := by
  unfold f_X8_level aLevel
  rw [v_isSpringDay hs hd, cll_pos, chk_b01, ite_b0]
  by_cases q : (0 ≤ s ∧ s < 3) ∧ 0 ≤ d ∧ d < 30
  · obtain ⟨σ1, r1, r2, r3⟩ := v_refresh hI
    obtain ⟨s, rfl⟩ := ex_nat q.1.1
    obtain ⟨d, rfl⟩ := ex_nat q.2.1
    rw [if_pos q, if_pos q, r1, cll_pos, v_levelOn r3.2 (by omega) (by omega), cll_pos, r2.mv]
    exact ⟨σ1, rfl, r2.eq, Or.inr r3⟩
  · rw [if_neg q, if_neg q]
    exact ⟨σ, rfl, QC.rf hI⟩
theorem N_level {σ : St} (hM : MI (mv σ)) {s d : Int} (hs : in32 s) (hd : in32 d) : f_X9_level σ s d = some (aLevel (mv σ) s d, σ) := by
  unfold f_X9_level aLevel
  rw [m_isSpring hs, cll_pos, chk_b01, ite_b0, m_isDay hd, cll_pos, chk_b01, ite_b0]
  by_cases q : (0 ≤ s ∧ s < 3) ∧ 0 ≤ d ∧ d < 30
  · obtain ⟨s, rfl⟩ := ex_nat q.1.1
    obtain ⟨d, rfl⟩ := ex_nat q.2.1
    rw [if_pos (by omega), if_pos (by omega), if_pos q, m_levelOf hM (by omega) (by omega), cll_pos]
    rfl
  · rw [if_neg q]
    by_cases z : 0 ≤ s ∧ s ≤ 2
    · rw [if_pos z, if_neg (by omega)]
    · rw [if_neg z]
theorem V_possession {σ : St} (hI : Inv σ) {s : Int} (hs : in32 s) : ∃ σ1, f_X8_possession σ s = some (aPoss (mv σ) s, σ1) ∧ QC σ1 σ := by
  unfold f_X8_possession aPoss
  rw [v_inside hs (by decide), cll_pos, chk_b01, ite_b0]
  by_cases q : 0 ≤ s ∧ s < 3
  · obtain ⟨σ1, r1, r2, r3⟩ := v_refresh hI
    obtain ⟨s, rfl⟩ := ex_nat q.1
    rw [if_pos q, if_pos q, r1, cll_pos, v_lentFrom r3.2 (by omega), cll_pos, r2.mv]
    exact ⟨σ1, rfl, r2.eq, Or.inr r3⟩
  · rw [if_neg q, if_neg q]
    exact ⟨σ, rfl, QC.rf hI⟩
theorem N_possession {σ : St} (hM : MI (mv σ)) {s : Int} (hs : in32 s) : f_X9_possession σ s = some (aPoss (mv σ) s, σ) := by
  unfold f_X9_possession aPoss
  rw [m_isSpring hs, cll_pos, chk_b01, ite_b0]
  by_cases q : 0 ≤ s ∧ s < 3
  · obtain ⟨s, rfl⟩ := ex_nat q.1
    rw [if_pos (by omega), if_pos q, m_possessionOf hM (by omega), cll_pos]
    rfl
  · rw [if_neg (by omega), if_neg q]
theorem V_wet {σ : St} (hI : Inv σ) {s d y : Int} (hs : in32 s) (hd : in32 d) (hy : in32 y) : ∃ σ1, f_X8_wet σ s d y = some (aWet (mv σ) s d y, σ1) ∧ QC σ1 σ := by
  have hr := yds_rng hI.2.1
  unfold f_X8_wet aWet
  rw [v_isSpringDay hs hd, cll_pos, chk_b01, ite_b0, v_isYard hI.1 hI.2.1 hy, cll_pos, chk_b01, ite_b0]
  by_cases q : (0 ≤ s ∧ s < 3) ∧ 0 ≤ d ∧ d < 30
  · by_cases z : 0 ≤ y ∧ y < yds (mv σ)
    · obtain ⟨σ1, r1, r2, r3⟩ := v_refresh hI
      obtain ⟨s, rfl⟩ := ex_nat q.1.1
      obtain ⟨d, rfl⟩ := ex_nat q.2.1
      obtain ⟨y, rfl⟩ := ex_nat z.1
      have hw := wb_lt hI.2.1 (s := s) (d := d)
      rw [if_pos q, if_pos z, if_pos ⟨q, z⟩, r1, cll_pos, v_wetYards r3.2 (by omega) (by omega), cll_pos, r2.mv, bit1 (by omega) (by omega), wb_bit, decide_eq_true (show y < (yds (mv σ)).toNat by omega), Bool.true_and]
      exact ⟨σ1, rfl, r2.eq, Or.inr r3⟩
    · rw [if_pos q, if_neg z, if_neg (fun w => z w.2)]
      exact ⟨σ, rfl, QC.rf hI⟩
  · rw [if_neg q, if_neg (fun w => q w.1)]
    exact ⟨σ, rfl, QC.rf hI⟩
theorem N_wet {σ : St} (hM : MI (mv σ)) {s d y : Int} (hs : in32 s) (hd : in32 d) (hy : in32 y) : f_X9_wet σ s d y = some (aWet (mv σ) s d y, σ) := by
  have hr := yds_rng hM
  unfold f_X9_wet aWet
  rw [m_isSpring hs, cll_pos, chk_b01, ite_b0, m_isDay hd, cll_pos, chk_b01, ite_b0, m_isYard hM hy, cll_pos, chk_b01, ite_b0]
  by_cases q : ((0 ≤ s ∧ s < 3) ∧ 0 ≤ d ∧ d < 30) ∧ 0 ≤ y ∧ y < yds (mv σ)
  · obtain ⟨s, rfl⟩ := ex_nat q.1.1.1
    obtain ⟨d, rfl⟩ := ex_nat q.1.2.1
    obtain ⟨y, rfl⟩ := ex_nat q.2.1
    rw [if_pos (by omega), if_pos (by omega), if_pos (by omega), if_pos q, m_isWet hM (by omega) (by omega) (by omega), cll_pos, chk_b01, ite_b0, show ((s : Nat) : Int).toNat = s by omega, show ((d : Nat) : Int).toNat = d by omega, show ((y : Nat) : Int).toNat = y by omega]
    split <;> rfl
  · rw [if_neg q]
    by_cases z1 : 0 ≤ s ∧ s ≤ 2
    · rw [if_pos z1]
      by_cases z2 : 0 ≤ d ∧ d ≤ 29
      · rw [if_pos z2, if_neg (by omega)]
      · rw [if_neg z2]
    · rw [if_neg z1]
theorem V_water {σ : St} (hI : Inv σ) {s d w : Int} (hs : in32 s) (hd : in32 d) (hw : in32 w) : ∃ σ1, f_X8_water σ s d w = some (aWater (mv σ) s d w, σ1) ∧ QC σ1 σ := by
  unfold f_X8_water aWater
  rw [v_isSpringDay hs hd, cll_pos, chk_b01, ite_b0, v_inside hw (by decide), cll_pos, chk_b01, ite_b0]
  by_cases q : (0 ≤ s ∧ s < 3) ∧ 0 ≤ d ∧ d < 30
  · by_cases z : 0 ≤ w ∧ w < 2
    · obtain ⟨σ1, r1, r2, r3⟩ := v_refresh hI
      obtain ⟨s, rfl⟩ := ex_nat q.1.1
      obtain ⟨d, rfl⟩ := ex_nat q.2.1
      rw [if_pos q, if_pos z, if_pos ⟨q, z⟩, r1, cll_pos, v_wetYards r3.2 (by omega) (by omega), cll_pos, r2.mv, chk_pos hw, v_isl hI.2.1, cll_pos]
      refine ⟨σ1, ?_, r2.eq, Or.inr r3⟩
      split <;> rfl
    · rw [if_pos q, if_neg z, if_neg (fun w => z w.2)]
      exact ⟨σ, rfl, QC.rf hI⟩
  · rw [if_neg q, if_neg (fun w => q w.1)]
    exact ⟨σ, rfl, QC.rf hI⟩
theorem N_water {σ : St} (hM : MI (mv σ)) {s d w : Int} (hs : in32 s) (hd : in32 d) (hw : in32 w) : f_X9_water σ s d w = some (aWater (mv σ) s d w, σ) := by
  unfold f_X9_water aWater
  rw [m_isSpring hs, cll_pos, chk_b01, ite_b0, m_isDay hd, cll_pos, chk_b01, ite_b0, m_isTwo hw, cll_pos, chk_b01, ite_b0]
  by_cases q : ((0 ≤ s ∧ s < 3) ∧ 0 ≤ d ∧ d < 30) ∧ 0 ≤ w ∧ w < 2
  · obtain ⟨s, rfl⟩ := ex_nat q.1.1.1
    obtain ⟨d, rfl⟩ := ex_nat q.1.2.1
    rw [if_pos (by omega), if_pos (by omega), if_pos (by omega), if_pos q, m_waterOf hM (by omega) (by omega) hw]
    split <;> rfl
  · rw [if_neg q]
    by_cases z1 : 0 ≤ s ∧ s ≤ 2
    · rw [if_pos z1]
      by_cases z2 : 0 ≤ d ∧ d ≤ 29
      · rw [if_pos z2, if_neg (by omega)]
      · rw [if_neg z2]
    · rw [if_neg z1]
theorem m_isWay {σ : St} (hM : MI (mv σ)) {s d a b : Int} (hs : in32 s) (hd : in32 d) (ha : in32 a) (hb : in32 b) : f_X9_isWay σ s d a b = some (if ((0 ≤ s ∧ s < 3) ∧ 0 ≤ d ∧ d < 30) ∧ (0 ≤ a ∧ a < yds (mv σ)) ∧ 0 ≤ b ∧ b < yds (mv σ) then 1 else 0, σ) := by
  unfold f_X9_isWay
  rw [m_isSpring hs, cll_pos, chk_b01, ite_b0, m_isDay hd, cll_pos, chk_b01, ite_b0, m_isYard hM ha, cll_pos, chk_b01, ite_b0, m_isYard hM hb, cll_pos, chk_b01, ite_b0]
  by_cases z1 : 0 ≤ s ∧ s ≤ 2
  · rw [if_pos z1]
    by_cases z2 : 0 ≤ d ∧ d ≤ 29
    · rw [if_pos z2]
      by_cases z3 : 0 ≤ a ∧ a < yds (mv σ)
      · rw [if_pos z3]
        by_cases z4 : 0 ≤ b ∧ b < yds (mv σ)
        · rw [if_pos z4, if_pos (by omega)]
        · rw [if_neg z4, if_neg (by omega)]
      · rw [if_neg z3, if_neg (by omega)]
    · rw [if_neg z2, if_neg (by omega)]
  · rw [if_neg z1, if_neg (by omega)]
theorem V_cost {σ : St} (hI : Inv σ) {s d a b w : Int} (hs : in32 s) (hd : in32 d) (ha : in32 a) (hb : in32 b) (hw : in32 w) : ∃ σ1, f_X8_cost σ s d a b w = some (aCost (mv σ) s d a b w, σ1) ∧ QC σ1 σ := by
  have hr := yds_rng hI.2.1
  unfold f_X8_cost aCost
  rw [v_isSpringDay hs hd, cll_pos, chk_b01, ite_b0, v_isYard hI.1 hI.2.1 ha, cll_pos, chk_b01, ite_b0, v_isYard hI.1 hI.2.1 hb, cll_pos, chk_b01, ite_b0, v_inside hw (by decide), cll_pos, chk_b01, ite_b0]
  by_cases q : (((0 ≤ s ∧ s < 3) ∧ 0 ≤ d ∧ d < 30) ∧ (0 ≤ a ∧ a < yds (mv σ)) ∧ 0 ≤ b ∧ b < yds (mv σ)) ∧ 0 ≤ w ∧ w < 3
  · obtain ⟨σ1, r1, r2, r3⟩ := v_refresh hI
    obtain ⟨s, rfl⟩ := ex_nat q.1.1.1.1
    obtain ⟨d, rfl⟩ := ex_nat q.1.1.2.1
    obtain ⟨a, rfl⟩ := ex_nat q.1.2.1.1
    obtain ⟨b, rfl⟩ := ex_nat q.1.2.2.1
    have hI1 := hI.cv r2 r3
    have hwb := wb_lt hI.2.1 (s := s) (d := d)
    have e1 : min (a : Int) (b : Int) = ((min a b : Nat) : Int) := by omega
    have e2 : max (a : Int) (b : Int) = ((max a b : Nat) : Int) := by omega
    have t2 : σ1 10 2 = mv σ 7 2 := by rw [hI1.1.2.1 2 (by omega), ← r2.mv]; rfl
    have t3 : σ1 10 3 = mv σ 7 3 := by rw [hI1.1.2.1 3 (by omega), ← r2.mv]; rfl
    have hro := rod_rng hI.2.1 (s := s) (d := d) (a := min a b) (b := max a b) (by omega)
    have hrg := rdg_rng hI.2.1 (a := min a b) (b := max a b) (by omega) (by omega)
    rw [if_pos q.1.1, if_pos q.1.2.1, if_pos q.1.2.2, if_pos q.2, if_pos q, r1, cll_pos, chk_pos ha, chk_pos hb, v_wetYards r3.2 (by omega) (by omega), cll_pos, r2.mv, e1, e2, v_roadCost hwb (by omega) (by omega), cll_pos, t2]
    unfold f_X8_ridgeCost
    rw [cll_pos, t3, chk_pos hw]
    have e3 : rdc (fun y => (wb (mv σ) s d).testBit y) (mv σ 7 2) (max a b + 1 - min a b) (min a b) false = rod (mv σ) s d (min a b) (max a b) := rfl
    have e4 : mv σ 7 3 * ((((max a b : Nat) : Int) - ((min a b : Nat) : Int)) + 1) = rdg (mv σ) (min a b) (max a b) := rfl
    rw [e3, e4, chk_pos (by omega), chk_pos (by omega)]
    refine ⟨σ1, ?_, r2.eq, Or.inr r3⟩
    unfold csw cst
    simp only [Int.toNat_natCast]
    split
    · rfl
    · split <;> rfl
  · rw [if_neg q]
    refine ⟨σ, ?_, QC.rf hI⟩
    by_cases z1 : (0 ≤ s ∧ s < 3) ∧ 0 ≤ d ∧ d < 30
    · rw [if_pos z1]
      by_cases z2 : 0 ≤ a ∧ a < yds (mv σ)
      · rw [if_pos z2]
        by_cases z3 : 0 ≤ b ∧ b < yds (mv σ)
        · rw [if_pos z3, if_neg (fun z => q ⟨⟨z1, z2, z3⟩, z⟩)]
        · rw [if_neg z3]
      · rw [if_neg z2]
    · rw [if_neg z1]
theorem N_cost {σ : St} (hM : MI (mv σ)) {s d a b w : Int} (hs : in32 s) (hd : in32 d) (ha : in32 a) (hb : in32 b) (hw : in32 w) : f_X9_cost σ s d a b w = some (aCost (mv σ) s d a b w, σ) := by
  have hr := yds_rng hM
  unfold f_X9_cost aCost
  rw [m_isWay hM hs hd ha hb, cll_pos, chk_b01, ite_b0]
  by_cases q1 : ((0 ≤ s ∧ s < 3) ∧ 0 ≤ d ∧ d < 30) ∧ (0 ≤ a ∧ a < yds (mv σ)) ∧ 0 ≤ b ∧ b < yds (mv σ)
  · rw [if_pos q1, chk_pos hw, m_in (by omega) (by omega) (by omega), cll_pos, chk_b01, ite_b0]
    by_cases q2 : 0 ≤ w ∧ w < 3
    · obtain ⟨s, rfl⟩ := ex_nat q1.1.1.1
      obtain ⟨d, rfl⟩ := ex_nat q1.1.2.1
      obtain ⟨a, rfl⟩ := ex_nat q1.2.1.1
      obtain ⟨b, rfl⟩ := ex_nat q1.2.2.1
      rw [if_pos (by omega), if_pos ⟨q1, q2⟩, m_costOf hM (by omega) (by omega) (by omega) (by omega) hw, cll_pos]
      rfl
    · rw [if_neg (by omega), if_neg (fun z => q2 z.2)]
  · rw [if_neg q1, if_neg (fun z => q1 z.1)]
theorem v_closedL {σ : St} (hM : MI (mv σ)) (hF : FR σ) {s y : Nat} (hs : s < 3) (hy : (y : Int) < yds (mv σ)) : ∀ (n d : Nat) (v acc : Int), v = d → d ≤ 30 → acc = cntA (fun d => wet (mv σ) s d y) d → 30 - d < n → L_X6_closedDays_5 n σ s y acc v = some (clo (mv σ) s y, σ)
  | 0, d, v, acc, hv, h1, ha, hn => by omega
  | n + 1, d, v, acc, hv, h1, ha, hn => by
    subst hv
    subst ha
    have hr := yds_rng hM
    rw [L_X6_closedDays_5, S_X6_closedDays_5, chk_pos (by omega)]
    by_cases q : 30 ≤ (d : Int)
    · rw [if_pos q, show d = 30 by omega]
      rfl
    · have hw := wb_lt hM (s := s) (d := d)
      rw [if_neg q, v_wetYards hF hs (by omega), cll_pos, bit1 (by omega) (by omega), wb_bit, decide_eq_true (show y < (yds (mv σ)).toNat by omega), Bool.true_and]
      exact v_closedL hM hF hs hy n (d + 1) (d + 1) _ (by omega) (by omega) rfl (by omega)
theorem v_closedDays {σ : St} (hM : MI (mv σ)) (hF : FR σ) {s y : Nat} (hs : s < 3) (hy : (y : Int) < yds (mv σ)) : f_X6_closedDays σ s y = some (clo (mv σ) s y, σ) := by
  unfold f_X6_closedDays
  exact v_closedL hM hF hs hy FU 0 0 0 rfl (by omega) rfl (by rw [FU_eq]; omega)
theorem V_closed {σ : St} (hI : Inv σ) {s y : Int} (hs : in32 s) (hy : in32 y) : ∃ σ1, f_X8_closed σ s y = some (aClosed (mv σ) s y, σ1) ∧ QC σ1 σ := by
  unfold f_X8_closed aClosed
  rw [v_inside hs (by decide), cll_pos, chk_b01, ite_b0, v_isYard hI.1 hI.2.1 hy, cll_pos, chk_b01, ite_b0]
  by_cases q : 0 ≤ s ∧ s < 3
  · by_cases z : 0 ≤ y ∧ y < yds (mv σ)
    · obtain ⟨σ1, r1, r2, r3⟩ := v_refresh hI
      obtain ⟨s, rfl⟩ := ex_nat q.1
      obtain ⟨y, rfl⟩ := ex_nat z.1
      rw [if_pos q, if_pos z, if_pos ⟨q, z⟩, r1, cll_pos, v_closedDays (by rw [r2.mv]; exact hI.2.1) r3.2 (by omega) (by rw [r2.mv]; omega), cll_pos, r2.mv]
      exact ⟨σ1, rfl, r2.eq, Or.inr r3⟩
    · rw [if_pos q, if_neg z, if_neg (fun w => z w.2)]
      exact ⟨σ, rfl, QC.rf hI⟩
  · rw [if_neg q, if_neg (fun w => q w.1)]
    exact ⟨σ, rfl, QC.rf hI⟩
theorem N_closed {σ : St} (hM : MI (mv σ)) {s y : Int} (hs : in32 s) (hy : in32 y) : f_X9_closed σ s y = some (aClosed (mv σ) s y, σ) := by
  have hr := yds_rng hM
  unfold f_X9_closed aClosed
  rw [m_isSpring hs, cll_pos, chk_b01, ite_b0, m_isYard hM hy, cll_pos, chk_b01, ite_b0]
  by_cases q : (0 ≤ s ∧ s < 3) ∧ 0 ≤ y ∧ y < yds (mv σ)
  · obtain ⟨s, rfl⟩ := ex_nat q.1.1
    obtain ⟨y, rfl⟩ := ex_nat q.2.1
    rw [if_pos (by omega), if_pos (by omega), if_pos q, m_closedOf hM (by omega) (by omega), cll_pos]
    rfl
  · rw [if_neg q]
    by_cases z1 : 0 ≤ s ∧ s ≤ 2
    · rw [if_pos z1, if_neg (by omega)]
    · rw [if_neg z1]
theorem v_deedL {σ : St} (hC : CI σ) (hM : MI (mv σ)) (hF : FR σ) {s : Nat} (hs : s < 3) {w : Int} (hw : in32 w) : ∀ (n d : Nat) (v a1 a2 : Int), v = d → d ≤ 30 → a1 = grv (mv σ) s d → a2 = wdy (mv σ) s d → 30 - d < n → L_X8_deed_34 n σ s w a1 a2 v = some (dee (mv σ) s w, σ)
  | 0, d, v, a1, a2, hv, h1, ha, hb, hn => by omega
  | n + 1, d, v, a1, a2, hv, h1, ha, hb, hn => by
    subst hv
    subst ha
    subst hb
    rw [L_X8_deed_34, S_X8_deed_34, chk_pos (by omega), hC.2.1 4 (by omega), hC.2.1 5 (by omega)]
    by_cases q : 30 ≤ (d : Int)
    · rw [if_pos q, chk_pos hw, show d = 30 by omega]
      unfold dee
      rw [mv_7, mv_7]
      split
      · rfl
      · split <;> rfl
    · have hwb := wb_lt hM (s := s) (d := d)
      have ih := fun a1 a2 ha hb => v_deedL hC hM hF hs hw n (d + 1) (d + 1) a1 a2 (by omega) (by omega) ha hb (by omega)
      rw [if_neg q, v_wetYards hF hs (by omega), cll_pos, v_bitCount hwb, cll_pos, chk_pos (by omega), pcn_wb hM]
      by_cases z : wb (mv σ) s d = 0
      · rw [if_pos (by omega)]
        exact ih _ _ rfl (by rw [wdy, if_pos z])
      · rw [if_neg (by omega)]
        exact ih _ _ rfl (by rw [wdy, if_neg z])
theorem V_deed {σ : St} (hI : Inv σ) {s w : Int} (hs : in32 s) (hw : in32 w) : ∃ σ1, f_X8_deed σ s w = some (aDeed (mv σ) s w, σ1) ∧ QC σ1 σ := by
  unfold f_X8_deed aDeed
  rw [v_inside hs (by decide), cll_pos, chk_b01, ite_b0, v_inside hw (by decide), cll_pos, chk_b01, ite_b0]
  by_cases q : 0 ≤ s ∧ s < 3
  · by_cases z : 0 ≤ w ∧ w < 3
    · obtain ⟨σ1, r1, r2, r3⟩ := v_refresh hI
      have hI1 := hI.cv r2 r3
      obtain ⟨s, rfl⟩ := ex_nat q.1
      rw [if_pos q, if_pos z, if_pos ⟨q, z⟩, r1, cll_pos, v_deedL hI1.1 hI1.2.1 r3.2 (by omega) hw FU 0 0 0 0 rfl (by omega) rfl rfl (by rw [FU_eq]; omega), r2.mv]
      exact ⟨σ1, rfl, r2.eq, Or.inr r3⟩
    · rw [if_pos q, if_neg z, if_neg (fun w => z w.2)]
      exact ⟨σ, rfl, QC.rf hI⟩
  · rw [if_neg q, if_neg (fun w => q w.1)]
    exact ⟨σ, rfl, QC.rf hI⟩
theorem N_deed {σ : St} (hM : MI (mv σ)) {s w : Int} (hs : in32 s) (hw : in32 w) : f_X9_deed σ s w = some (aDeed (mv σ) s w, σ) := by
  unfold f_X9_deed aDeed
  rw [m_isSpring hs, cll_pos, chk_b01, ite_b0]
  by_cases q : 0 ≤ s ∧ s < 3
  · rw [if_pos (by omega), chk_pos hw, m_in (by omega) (by omega) (by omega), cll_pos, chk_b01, ite_b0]
    by_cases z : 0 ≤ w ∧ w < 3
    · obtain ⟨s, rfl⟩ := ex_nat q.1
      rw [if_pos (by omega), if_pos ⟨q, z⟩, m_deedOf hM (by omega) hw, cll_pos]
      rfl
    · rw [if_neg (by omega), if_neg (fun w => z w.2)]
  · rw [if_neg (by omega), if_neg (fun w => q w.1)]
