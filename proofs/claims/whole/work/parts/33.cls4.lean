/-! THE CLASS: keeping -/
theorem drA_iff (P : Nat → Bool) (lo : Nat) : ∀ n, drA P lo n = true ↔ ∀ j, j < n → P (lo + j) = false
  | 0 => by simp [drA]
  | n + 1 => by
    have ih := drA_iff P lo n
    unfold drA
    rw [Bool.and_eq_true, ih, Bool.not_eq_true']
    constructor
    · intro ⟨h1, h2⟩ j hj
      by_cases q : j = n
      · rw [q]; exact h2
      · exact h1 j (by omega)
    · intro h
      exact ⟨fun j hj => h j (by omega), h n (by omega)⟩
/-- a mask of a way less a dike -/
def isMask (m lo hi : Nat) (E : Nat → Bool) : Prop := m < 4096 ∧ ∀ y, m.testBit y = (decide (lo ≤ y ∧ y ≤ hi) && !E y)
theorem mask_dry {M : St} {s d lo hi m : Nat} {E : Nat → Bool} (hm : isMask m lo hi E) (hlo : lo ≤ hi) (hhi : (hi : Int) < yds M) : (wb M s d &&& m = 0) ↔ dryD M s d lo hi E = true := by
  unfold dryD
  rw [drA_iff]
  constructor
  · intro h j hj
    have h1 : (wb M s d &&& m).testBit (lo + j) = false := by rw [h]; simp
    rw [Nat.testBit_and, wb_bit, hm.2, decide_eq_true (show lo + j < (yds M).toNat by omega), decide_eq_true (show lo ≤ lo + j ∧ lo + j ≤ hi by omega), Bool.true_and, Bool.true_and] at h1
    exact h1
  · intro h
    refine Nat.eq_of_testBit_eq fun i => ?_
    rw [Nat.testBit_and, wb_bit, hm.2, Nat.zero_testBit]
    by_cases q : lo ≤ i ∧ i ≤ hi
    · have := h (i - lo) (by omega)
      rw [show lo + (i - lo) = i by omega] at this
      rw [decide_eq_true q, decide_eq_true (show i < (yds M).toNat by omega), Bool.true_and, Bool.true_and]
      exact this
    · rw [decide_eq_false q]
      simp
theorem v_dryL {σ : St} (hM : MI (mv σ)) (hF : FR σ) {s day lo hi m : Nat} {E : Nat → Bool} (hm : isMask m lo hi E) (hs : s < 3) (hday : day < 30) (hlo : lo ≤ hi) (hhi : (hi : Int) < yds (mv σ)) : ∀ (n i : Nat) (v acc : Int), v = ((day + i : Nat) : Int) → i ≤ 7 → acc = dryC (mv σ) s day lo hi E i → 8 - i < n → L_X3_dryDays_6 n σ s day m acc v = some (dryC (mv σ) s day lo hi E 7, σ)
  | 0, i, v, acc, hv, h1, ha, hn => by omega
  | n + 1, i, v, acc, hv, h1, ha, hn => by
    subst hv
    subst ha
    rw [L_X3_dryDays_6, S_X3_dryDays_6, chk_pos (by omega), chk_pos (by omega)]
    by_cases q : (day : Int) + 7 ≤ ((day + i : Nat) : Int)
    · rw [if_pos q, show i = 7 by omega]
    · rw [if_neg q]
      by_cases z : 30 ≤ ((day + i : Nat) : Int)
      · rw [if_pos z]
        have := dryC_stop (mv σ) s day lo hi E (i := i) (by omega) (7 - i)
        rw [show i + (7 - i) = 7 by omega] at this
        rw [this]
      · have hw := wb_lt hM (s := s) (d := day + i)
        have hle : wb (mv σ) s (day + i) &&& m ≤ wb (mv σ) s (day + i) := Nat.and_le_left
        have md := mask_dry (M := mv σ) (s := s) (d := day + i) hm hlo hhi
        have ih := fun acc ha => v_dryL hM hF hm hs hday hlo hhi n (i + 1) (((day + i : Nat) : Int) + 1) acc (by omega) (by omega) ha (by omega)
        rw [if_neg z, v_wetYards hF hs (by omega), cll_pos, andZ_nat (by omega), chk_pos (by omega)]
        by_cases y : wb (mv σ) s (day + i) &&& m = 0
        · rw [if_pos (by omega)]
          exact ih _ (by rw [dryC, if_pos ⟨by omega, md.mp y⟩])
        · rw [if_neg (by omega)]
          exact ih _ (by rw [dryC, if_neg (fun w => y (md.mpr w.2)), Int.add_zero])
theorem v_dryDays {σ : St} (hM : MI (mv σ)) (hF : FR σ) {s day lo hi m : Nat} {E : Nat → Bool} (hm : isMask m lo hi E) (hs : s < 3) (hday : day < 30) (hlo : lo ≤ hi) (hhi : (hi : Int) < yds (mv σ)) : f_X3_dryDays σ s day m = some (dryC (mv σ) s day lo hi E 7, σ) := by
  unfold f_X3_dryDays
  exact v_dryL hM hF hm hs hday hlo hhi FU 0 day 0 (by omega) (by omega) rfl (by rw [FU_eq]; omega)
def CK (σ' σ : St) : Prop := ∀ k, k ≠ 36 → σ' k = σ k
theorem CK.mv {σ' σ : St} (h : CK σ' σ) : mv σ' = mv σ := mv_of fun k hk => h k (by omega)
theorem CK.eq {σ' σ : St} (h : CK σ' σ) : EQ σ' σ := ⟨fun k q => h k (by omega), by rw [h 37 (by omega)]⟩
theorem CK.fr {σ' σ : St} (h : CK σ' σ) (hF : FR σ) : FR σ' := hF.of h.mv (fun k h1 h2 => h k (by omega))
theorem CK.fre {σ' σ : St} (h : CK σ' σ) (hF : FRE σ) : FRE σ' := ⟨by rw [h 16 (by omega)]; exact hF.1, h.fr hF.2⟩
def kp3 (σ : St) : K3 := (σ 36 1, σ 36 2, σ 36 3)
theorem way_mask {lo hi : Nat} (hlo : lo ≤ hi) (hhi : hi < 12) : isMask (bts (fun y => decide (lo ≤ y ∧ y ≤ hi)) 12) lo hi noE := by
  refine ⟨bts_small _ (by omega), fun y => ?_⟩
  rw [bts_bit]
  by_cases q : lo ≤ y ∧ y ≤ hi
  · rw [decide_eq_true q, decide_eq_true (show y < 12 by omega)]
    rfl
  · rw [decide_eq_false q]
    simp
theorem dike_mask {lo hi f m : Nat} (hlo : lo ≤ hi) (hhi : hi < 12) (hm : 1 ≤ m) (hf : f + m ≤ 12) : isMask (bts (fun y => decide (lo ≤ y ∧ y ≤ hi)) 12 ^^^ (bts (fun y => decide (lo ≤ y ∧ y ≤ hi)) 12 &&& bts (fun y => decide (f ≤ y ∧ y ≤ f + m - 1)) 12)) lo hi (exE f m) := by
  have h1 := bts_small (fun y => decide (lo ≤ y ∧ y ≤ hi)) (n := 12) (by omega)
  refine ⟨Nat.xor_lt_two_pow (n := 12) h1 (Nat.lt_of_le_of_lt Nat.and_le_left h1), fun y => ?_⟩
  rw [Nat.testBit_xor, Nat.testBit_and, bts_bit, bts_bit]
  unfold exE
  have e : decide (f ≤ y ∧ y ≤ f + m - 1) = decide (f ≤ y ∧ y + 1 ≤ f + m) := by
    rw [decide_eq_decide]
    omega
  rw [e]
  by_cases q : lo ≤ y ∧ y ≤ hi
  · rw [decide_eq_true q, decide_eq_true (show y < 12 by omega)]
    cases decide (f ≤ y ∧ y + 1 ≤ f + m) <;> rfl
  · rw [decide_eq_false q]
    simp
theorem v_kpL2 {M : St} (hM : MI M) {σ0 : St} (hF : FR σ0) (hmv : mv σ0 = M) {s day lo hi m : Nat} {mo : Int} (hs : s < 3) (hday : day < 30) (hlo : lo ≤ hi) (hhi : (hi : Int) < yds M) (hm : 1 ≤ m) (hm2 : m ≤ 12) {rec33 : St → Int → Int → Int → Int → Int → Int → Int → Option Rt} {u0 : K3} (hu0 : 0 ≤ u0.1 ∧ u0.1 ≤ 7) :
    ∀ (n j : Nat) (σ : St) (v : Int), CK σ σ0 → v = ((lo + j : Nat) : Int) → j ≤ hi + 2 - (lo + m) → kp3 σ = kIn M s day lo hi m j u0 → 14 - j < n →
    ∃ σ', L_X3_reckon_54 rec33 n σ s day lo hi mo (bts (fun y => decide (lo ≤ y ∧ y ≤ hi)) 12 : Nat) m v = rec33 σ' s day lo hi mo (bts (fun y => decide (lo ≤ y ∧ y ≤ hi)) 12 : Nat) (m + 1) ∧ CK σ' σ0 ∧ kp3 σ' = kIn M s day lo hi m (hi + 2 - (lo + m)) u0
  | 0, j, σ, v, hK, hv, h1, hu, hn => by omega
  | n + 1, j, σ, v, hK, hv, h1, hu, hn => by
    subst hv
    have hyr := yds_rng hM
    have hmσ : mv σ = M := hK.mv.trans hmv
    have hMσ : MI (mv σ) := by rw [hmσ]; exact hM
    have hr := kIn_rng (M := M) (s := s) (day := day) (lo := lo) (hi := hi) (m := m) j hu0
    have u1 : σ 36 1 = (kIn M s day lo hi m j u0).1 := congrArg Prod.fst hu
    rw [L_X3_reckon_54, S_X3_reckon_54, chk_pos (by omega), chk_pos (by omega)]
    by_cases q : (hi : Int) < ((lo + j : Nat) : Int) + m - 1
    · rw [if_pos q]
      refine ⟨σ, rfl, hK, ?_⟩
      rw [hu, show j = hi + 2 - (lo + m) by omega]
    · have e1 : ((lo + j : Nat) : Int) + m - 1 = ((lo + j + m - 1 : Nat) : Int) := by omega
      have w1 := bts_small (fun y => decide (lo ≤ y ∧ y ≤ hi)) (n := 12) (by omega)
      have w2 := bts_small (fun y => decide (lo + j ≤ y ∧ y ≤ lo + j + m - 1)) (n := 12) (by omega)
      have dd := v_dryDays hMσ (hK.fr hF) (dike_mask hlo (by omega) hm (f := lo + j) (by omega)) hs hday hlo (by rw [hmσ]; exact hhi)
      rw [hmσ] at dd
      have dr := dryC_rng M s day lo hi (exE (lo + j) m) 7
      rw [if_neg q, e1, v_yardBits (by omega) (by omega) (by omega), cll_pos, andnZ_nat (by omega) (by omega), dd, cll_pos, chk_pos (by omega), u1, chk_pos (by omega)]
      by_cases z : dryC M s day lo hi (exE (lo + j) m) 7 ≤ (kIn M s day lo hi m j u0).1
      · rw [if_pos z]
        exact v_kpL2 hM hF hmv hs hday hlo hhi hm hm2 hu0 n (j + 1) σ (((lo + j : Nat) : Int) + 1) hK (by omega) (by omega) (by rw [hu, kIn, kUp, if_pos z]) (by omega)
      · rw [if_neg z]
        refine v_kpL2 hM hF hmv hs hday hlo hhi hm hm2 hu0 n (j + 1) _ (((lo + j : Nat) : Int) + 1) (fun k hk => by rw [su_ne k hk, su_ne k hk, su_ne k hk]; exact hK k hk) (by omega) (by omega) ?_ (by omega)
        rw [kIn, kUp, if_neg z]
        unfold kp3
        simp [su]
theorem kOut_stop (M : St) (s day lo hi : Nat) {m : Nat} (h : hi + 1 ≤ lo + m) : ∀ n, kOut M s day lo hi (m + n) = kOut M s day lo hi m
  | 0 => rfl
  | n + 1 => by
    rw [show m + (n + 1) = (m + n) + 1 by omega, kOut, show hi + 2 - (lo + (m + n + 1)) = 0 by omega, kIn]
    exact kOut_stop M s day lo hi h n
theorem v_kpL1 {M : St} (hM : MI M) {σ0 : St} (hF : FR σ0) (hmv : mv σ0 = M) {s day lo hi mo : Nat} (hs : s < 3) (hday : day < 30) (hlo : lo ≤ hi) (hhi : (hi : Int) < yds M) (hmo : mo ≤ 12) :
    ∀ (n m : Nat) (σ : St) (v : Int), CK σ σ0 → v = (m : Int) + 1 → m ≤ mo → kp3 σ = kOut M s day lo hi m → 14 - m < n →
    ∃ σ', L_X3_reckon_33 n σ s day lo hi mo (bts (fun y => decide (lo ≤ y ∧ y ≤ hi)) 12 : Nat) v = some (0, σ') ∧ CK σ' σ0 ∧ kp3 σ' = kOut M s day lo hi mo
  | 0, m, σ, v, hK, hv, h1, hu, hn => by omega
  | n + 1, m, σ, v, hK, hv, h1, hu, hn => by
    subst hv
    have hyr := yds_rng hM
    rw [L_X3_reckon_33, S_X3_reckon_33, chk_pos (by omega), chk_pos (by omega)]
    by_cases q : (mo : Int) < (m : Int) + 1
    · rw [if_pos q]
      exact ⟨σ, rfl, hK, by rw [hu, show m = mo by omega]⟩
    · rw [if_neg q, chk_pos (by omega)]
      by_cases z : ((hi : Int) - lo) + 1 < (m : Int) + 1
      · rw [if_pos z]
        refine ⟨σ, rfl, hK, ?_⟩
        have := kOut_stop M s day lo hi (m := m) (by omega) (mo - m)
        rw [show m + (mo - m) = mo by omega] at this
        rw [hu, this]
      · obtain ⟨σ1, k1, k2, k3⟩ := v_kpL2 hM hF hmv (m := m + 1) (mo := mo) hs hday hlo hhi (by omega) (by omega) (rec33 := L_X3_reckon_33 n) (kOut_rng (M := M) (s := s) (day := day) (lo := lo) (hi := hi) m) FU 0 σ lo hK (by omega) (by omega) hu (by rw [FU_eq]; omega)
        rw [show ((m + 1 : Nat) : Int) = (m : Int) + 1 by omega] at k1
        rw [if_neg z, k1]
        exact v_kpL1 hM hF hmv hs hday hlo hhi hmo n (m + 1) σ1 _ k2 (by omega) (by omega) k3 (by omega)
theorem v_kpReckon {σ : St} (hM : MI (mv σ)) (hF : FR σ) {s day lo hi mo : Nat} (hs : s < 3) (hday : day < 30) (hlo : lo ≤ hi) (hhi : (hi : Int) < yds (mv σ)) (hmo : mo ≤ 12) : ∃ σ', f_X3_reckon σ s day lo hi mo = some (0, σ') ∧ CK σ' σ ∧ kp3 σ' = kOut (mv σ) s day lo hi mo := by
  have hyr := yds_rng hM
  unfold f_X3_reckon
  rw [v_yardBits (by omega) (by omega) hlo, cll_pos, v_dryDays hM hF (way_mask hlo (by omega)) hs hday hlo hhi, cll_pos]
  refine v_kpL1 hM hF rfl hs hday hlo hhi hmo FU 0 _ 1 (fun k hk => by rw [su_ne k hk, su_ne k hk, su_ne k hk]) (by omega) (by omega) ?_ (by rw [FU_eq]; omega)
  unfold kp3 kOut
  simp [su]
/-! THE CLASS: facts, bits -/
theorem v_comeL {σ : St} (hC : CI σ) (hM : MI (mv σ)) (hF : FR σ) {s : Nat} (hs : s < 3) : ∀ (n f : Nat) (v : Int), v = f → (f : Int) ≤ σ 58 17 → ftA (mv σ) s f = true → 10 - f < n → L_X2_comeOutBy_3 n σ s (yds (mv σ)) v = some (if ftA (mv σ) s (σ 58 17).toNat then 1 else 0, σ)
  | 0, f, v, hv, h1, hw, hn => by
    have := hM.fas
    rw [mv_0f] at this
    omega
  | n + 1, f, v, hv, h1, hw, hn => by
    subst hv
    have hf := hM.fas
    rw [mv_0f] at hf
    have hy := yds_rng hM
    have hc := hC.2.2.2.2.2.1
    have mono : ∀ a b, a ≤ b → ftA (mv σ) s a = false → ftA (mv σ) s b = false := by
      intro a b hab h
      induction b with
      | zero => rw [show a = 0 by omega] at h; exact h
      | succ b ih =>
        by_cases e : a = b + 1
        · rw [← e]; exact h
        · rw [ftA, ih (by omega), Bool.false_and]
    rw [L_X2_comeOutBy_3, S_X2_comeOutBy_3, hc.1, chk_pos (by omega), chk_pos (by omega)]
    by_cases q : σ 58 17 ≤ f
    · rw [if_pos q, show (σ 58 17).toNat = f by omega, hw]
      rfl
    · have ck := hc.2 f (by omega)
      have hk := hM.fac (k := f) (by omega)
      rw [mv_12, mv_12, mv_12] at hk
      have w0 : σ 70 (3 * f) = (((σ 70 (3 * f)).toNat : Nat) : Int) := by omega
      have w1 : σ 70 (3 * f + 1) = (((σ 70 (3 * f + 1)).toNat : Nat) : Int) := by omega
      have hwb := wb_lt hM (s := s) (d := (σ 70 (3 * f)).toNat)
      have wy := v_wetYards hF hs (d := (σ 70 (3 * f)).toNat) (by omega)
      rw [← w0] at wy
      have ih := fun h => v_comeL hC hM hF hs n (f + 1) (f + 1) (by omega) (by omega) h (by omega)
      rw [if_neg q, if_neg (by omega), chk_pos (by omega), show (f : Int).toNat = f by omega, ck.1, wy, cll_pos, ck.2.1, ck.2.2, chk_pos (by omega), chk_pos (by omega)]
      by_cases z : yds (mv σ) ≤ σ 70 (3 * f + 1)
      · rw [if_pos z]
        exact ih (by rw [ftA, hw, mv_12, decide_eq_true z]; rfl)
      · have b1 := bit1 (a := wb (mv σ) s (σ 70 (3 * f)).toNat) (k := (σ 70 (3 * f + 1)).toNat) (by omega) (by omega)
        rw [← w1, wb_bit, decide_eq_true (show (σ 70 (3 * f + 1)).toNat < (yds (mv σ)).toNat by omega), Bool.true_and] at b1
        have st : ftA (mv σ) s (f + 1) = (wet (mv σ) s (σ 70 (3 * f)).toNat (σ 70 (3 * f + 1)).toNat == decide (σ 70 (3 * f + 2) = 1)) := by
          rw [ftA, hw, mv_12, mv_12, mv_12, decide_eq_false z]
          simp
        rw [if_neg z, b1, chk_b01, chk_pos (by omega)]
        by_cases y : (if wet (mv σ) s (σ 70 (3 * f)).toNat (σ 70 (3 * f + 1)).toNat then (1 : Int) else 0) = σ 70 (3 * f + 2)
        · rw [if_pos y]
          refine ih ?_
          rw [st, ← y]
          cases wet (mv σ) s (σ 70 (3 * f)).toNat (σ 70 (3 * f + 1)).toNat <;> rfl
        · rw [if_neg y]
          have g : ftA (mv σ) s (f + 1) = false := by
            rw [st]
            rcases hk.2.2 with h0 | h0
            · rw [h0] at y ⊢
              cases h : wet (mv σ) s (σ 70 (3 * f)).toNat (σ 70 (3 * f + 1)).toNat
              · rw [h] at y; exact absurd rfl y
              · rfl
            · rw [h0] at y ⊢
              cases h : wet (mv σ) s (σ 70 (3 * f)).toNat (σ 70 (3 * f + 1)).toNat
              · rfl
              · rw [h] at y; exact absurd rfl y
          rw [mono (f + 1) (σ 58 17).toNat (by omega) g]
          rfl
theorem v_comeOutBy {σ : St} (hC : CI σ) (hM : MI (mv σ)) (hF : FR σ) {s : Nat} (hs : s < 3) : f_X2_comeOutBy σ s (yds (mv σ)) = some (if ftA (mv σ) s (σ 58 17).toNat then 1 else 0, σ) := by
  have hf := hM.fas
  rw [mv_0f] at hf
  unfold f_X2_comeOutBy
  exact v_comeL hC hM hF hs FU 0 0 rfl (by omega) rfl (by rw [FU_eq]; omega)
theorem f_bc (σ : St) (x : Int) : f_J6_bitCount_0f7a4 σ x = some ((f_J6_bitCount_0f7a4 (fun _ _ => 0) x).get!.1, σ) := rfl
set_option maxRecDepth 100000 in
theorem bc_all : ∀ N, N < 4096 → (f_J6_bitCount_0f7a4 (fun _ _ => 0) (N : Nat)).get!.1 = pcn N := by decide +kernel
theorem v_bitCount {σ : St} {N : Nat} (h : N < 4096) : f_J6_bitCount_0f7a4 σ N = some (pcn N, σ) := by rw [f_bc, bc_all N h]
theorem cnt_cut {P : Nat → Bool} {m : Nat} : ∀ n, m ≤ n → cntA (fun i => decide (i < m) && P i) n = cntA P m
  | 0, h => by rw [show m = 0 by omega]; rfl
  | n + 1, h => by
    by_cases e : m = n + 1
    · subst e
      clear h
      have : ∀ k, k ≤ n + 1 → cntA (fun i => decide (i < n + 1) && P i) k = cntA P k := by
        intro k hk
        induction k with
        | zero => rfl
        | succ k ih => rw [cntA, cntA, ih (by omega), decide_eq_true (show k < n + 1 by omega), Bool.true_and]
      exact this (n + 1) (Nat.le_refl _)
    · rw [cntA, cnt_cut n (by omega), decide_eq_false (show ¬ n < m by omega), Bool.false_and]
      simp
theorem pcn_wb {M : St} (hM : MI M) {s d : Nat} : pcn (wb M s d) = cntA (wet M s d) (yds M).toNat := by
  have hy := yds_rng hM
  unfold pcn
  rw [← cnt_cut (P := wet M s d) (m := (yds M).toNat) 12 (by omega)]
  congr 1
  funext i
  rw [wb_bit]
