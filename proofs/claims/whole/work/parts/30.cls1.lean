/-! THE CLASS: what its cells hold of the reference's; the valley is reckoned anew -/
def CI (σ : St) : Prop :=
  (∀ t, t < 4 → σ (2 + t) 1 = σ 64 t ∧ ∀ i : Nat, (i : Int) < σ 64 t → σ (6 + t) i = σ 63 (30 * t + i)) ∧
  (∀ j, j < 7 → σ 10 j = σ 65 j) ∧
  (∀ s, s < 3 → σ 11 s = σ 66 s) ∧
  (σ 12 3 = σ 58 9 ∧ σ 58 9 ≤ 8 ∧ ∀ k : Nat, (k : Int) < σ 58 9 → σ 13 k = σ 67 (3 * k) ∧ σ 14 k = σ 67 (3 * k + 1) ∧ σ 15 k = σ 67 (3 * k + 2)) ∧
  ((0 ≤ σ 37 6 ∧ σ 37 6 < 256) ∧ ∀ k, k < 8 → (σ 37 6).toNat.testBit k = decide (σ 69 (4 * k) = 1) ∧ σ 38 k = σ 69 (4 * k + 1) ∧ σ 39 k = σ 69 (4 * k + 2) ∧ σ 40 k = σ 69 (4 * k + 3)) ∧
  (σ 45 3 = σ 58 17 ∧ ∀ k : Nat, (k : Int) < σ 58 17 → σ 46 k = σ 70 (3 * k) ∧ σ 47 k = σ 70 (3 * k + 1) ∧ σ 48 k = σ 70 (3 * k + 2)) ∧
  (∀ s, s < 4 → σ (50 + s) 1 = σ 59 s ∧ (0 ≤ σ 59 s → σ (50 + s) 2 = σ 60 s ∧ ∀ i : Nat, (i : Int) < σ 60 s → σ (54 + s) i = σ 61 (60 * s + i))) ∧
  σ 0 10 = σ 58 4
def FR (σ : St) : Prop := ∀ s, s < 3 → σ 25 s = pos (mv σ) s ∧ ∀ d, d < 30 → σ (18 + s) d = lev (mv σ) s d ∧ σ (22 + s) d = (wb (mv σ) s d : Nat)
def FRE (σ : St) : Prop := σ 16 8 = 0 ∧ FR σ
def FRS (σ : St) : Prop := σ 16 8 = 1 ∨ FRE σ
def Inv (σ : St) : Prop := CI σ ∧ MI (mv σ) ∧ GN σ ∧ FRS σ
/-- only the valley's own cells have changed -/
def CV (σ' σ : St) : Prop := ∀ k, k < 16 ∨ 27 < k → σ' k = σ k
theorem CV.rf (σ : St) : CV σ σ := fun _ _ => rfl
theorem CV.tr {a b c : St} (h1 : CV a b) (h2 : CV b c) : CV a c := fun k q => (h1 k q).trans (h2 k q)
theorem CV.su {σ : St} {k i : Nat} {x : Int} (h : 16 ≤ k ∧ k ≤ 27) : CV (su σ k i x) σ := fun j q => su_ne j (by omega)
theorem mv_of {σ' σ : St} (h : ∀ k, 58 ≤ k → σ' k = σ k) : mv σ' = mv σ :=
  mv_congr (h 59 (by omega)) (h 60 (by omega)) (h 61 (by omega)) (h 63 (by omega)) (h 64 (by omega)) (h 65 (by omega)) (h 66 (by omega)) (h 69 (by omega)) (h 70 (by omega)) (by rw [h 58 (by omega)]) (by rw [h 58 (by omega)]) (by rw [h 58 (by omega)]) (fun j _ => by rw [h 67 (by omega)])
theorem CV.mv {σ' σ : St} (h : CV σ' σ) : mv σ' = mv σ := mv_of fun k hk => h k (by omega)
/-- the class's cells that count, and the reference's, stay -/
def EQ (σ' σ : St) : Prop := (∀ k, k < 16 ∨ (38 ≤ k ∧ k ≤ 41) ∨ 45 ≤ k → σ' k = σ k) ∧ σ' 37 6 = σ 37 6
theorem EQ.rf (σ : St) : EQ σ σ := ⟨fun _ _ => rfl, rfl⟩
theorem EQ.tr {a b c : St} (h1 : EQ a b) (h2 : EQ b c) : EQ a c := ⟨fun k q => (h1.1 k q).trans (h2.1 k q), h1.2.trans h2.2⟩
theorem EQ.mv {σ' σ : St} (h : EQ σ' σ) : mv σ' = mv σ := mv_of fun k hk => h.1 k (by omega)
theorem CV.eq {σ' σ : St} (h : CV σ' σ) : EQ σ' σ := ⟨fun k q => h k (by omega), by rw [h 37 (by omega)]⟩
theorem CI.eq {σ' σ : St} (hC : CI σ) (h : EQ σ' σ) : CI σ' := by
  obtain ⟨a1, a2, a3, a4, a5, a6, a7, a8⟩ := hC
  have e := h.1
  refine ⟨fun t ht => ?_, fun j hj => ?_, fun s hs => ?_, ?_, ?_, ?_, fun s hs => ?_, ?_⟩
  · rw [e (2 + t) (by omega), e 64 (by omega), e (6 + t) (by omega), e 63 (by omega)]
    exact a1 t ht
  · rw [e 10 (by omega), e 65 (by omega)]
    exact a2 j hj
  · rw [e 11 (by omega), e 66 (by omega)]
    exact a3 s hs
  · rw [e 12 (by omega), e 58 (by omega), e 13 (by omega), e 14 (by omega), e 15 (by omega), e 67 (by omega)]
    exact a4
  · rw [h.2, e 69 (by omega), e 38 (by omega), e 39 (by omega), e 40 (by omega)]
    exact a5
  · rw [e 45 (by omega), e 58 (by omega), e 46 (by omega), e 47 (by omega), e 48 (by omega), e 70 (by omega)]
    exact a6
  · rw [e (50 + s) (by omega), e 59 (by omega), e 60 (by omega), e (54 + s) (by omega), e 61 (by omega)]
    exact a7 s hs
  · rw [e 0 (by omega), e 58 (by omega)]
    exact a8
theorem FR.of {σ' σ : St} (h : FR σ) (hm : mv σ' = mv σ) (hk : ∀ k, 16 ≤ k → k ≤ 27 → σ' k = σ k) : FR σ' := by
  intro s hs
  rw [hm, hk 25 (by omega) (by omega), hk (18 + s) (by omega) (by omega), hk (22 + s) (by omega) (by omega)]
  exact h s hs
theorem FRS.of {σ' σ : St} (h : FRS σ) (hm : mv σ' = mv σ) (hk : ∀ k, 16 ≤ k → k ≤ 27 → σ' k = σ k) : FRS σ' := by
  unfold FRS FRE
  rw [hk 16 (by omega) (by omega)]
  rcases h with h | h
  · exact Or.inl h
  · exact Or.inr ⟨h.1, h.2.of hm hk⟩
theorem Inv.eq {σ' σ : St} (hI : Inv σ) (h : EQ σ' σ) (hf : FRS σ') : Inv σ' := by
  refine ⟨hI.1.eq h, by rw [h.mv]; exact hI.2.1, ?_, hf⟩
  unfold GN
  rw [h.1 58 (by omega)]
  exact hI.2.2.1
/-- a question of the reference keeps it -/
theorem Inv.qm {σ' σ : St} (hI : Inv σ) (h : QM σ' σ) : Inv σ' := by
  obtain ⟨⟨a1, a2, a3, a4, a5, a6, a7, a8⟩, hM, hg, hf⟩ := hI
  have m := h.2.1
  have e := h.1
  have v5 : ∀ j, σ' 63 j = σ 63 j := fun j => congrFun (congrFun m 5) j
  have v6 : ∀ j, σ' 64 j = σ 64 j := fun j => congrFun (congrFun m 6) j
  have v7 : ∀ j, σ' 65 j = σ 65 j := fun j => congrFun (congrFun m 7) j
  have v8 : ∀ j, σ' 66 j = σ 66 j := fun j => congrFun (congrFun m 8) j
  have v11 : ∀ j, σ' 69 j = σ 69 j := fun j => congrFun (congrFun m 11) j
  have v12 : ∀ j, σ' 70 j = σ 70 j := fun j => congrFun (congrFun m 12) j
  have v1 : ∀ j, σ' 59 j = σ 59 j := fun j => congrFun (congrFun m 1) j
  have v2 : ∀ j, σ' 60 j = σ 60 j := fun j => congrFun (congrFun m 2) j
  have v3 : ∀ j, σ' 61 j = σ 61 j := fun j => congrFun (congrFun m 3) j
  have o4 : σ' 58 4 = σ 58 4 := congrFun (congrFun m 0) 4
  have o9 : σ' 58 9 = σ 58 9 := congrFun (congrFun m 0) 9
  have of : σ' 58 17 = σ 58 17 := congrFun (congrFun m 0) 17
  have v9 : ∀ j : Nat, (j : Int) < 3 * σ 58 9 → σ' 67 j = σ 67 j := fun j hj => by
    have := congrFun (congrFun m 9) j
    rwa [mv_9 (by rw [o9]; exact hj), mv_9 hj] at this
  refine ⟨⟨fun t ht => ?_, fun j hj => ?_, fun s hs => ?_, ?_, ?_, ?_, fun s hs => ?_, ?_⟩, by rw [m]; exact hM, h.2.2 hg, hf.of m (fun k h1 h2 => e k (by omega))⟩
  · rw [e (2 + t) (by omega), v6, e (6 + t) (by omega)]
    refine ⟨(a1 t ht).1, fun i hi => ?_⟩
    rw [v5]
    exact (a1 t ht).2 i hi
  · rw [e 10 (by omega), v7]
    exact a2 j hj
  · rw [e 11 (by omega), v8]
    exact a3 s hs
  · rw [e 12 (by omega), o9, e 13 (by omega), e 14 (by omega), e 15 (by omega)]
    refine ⟨a4.1, a4.2.1, fun k hk => ?_⟩
    rw [v9 (3 * k) (by omega), v9 (3 * k + 1) (by omega), v9 (3 * k + 2) (by omega)]
    exact a4.2.2 k hk
  · rw [e 37 (by omega), e 38 (by omega), e 39 (by omega), e 40 (by omega)]
    refine ⟨a5.1, fun k hk => ?_⟩
    rw [v11, v11, v11, v11]
    exact a5.2 k hk
  · rw [e 45 (by omega), of, e 46 (by omega), e 47 (by omega), e 48 (by omega)]
    refine ⟨a6.1, fun k hk => ?_⟩
    rw [v12, v12, v12]
    exact a6.2 k hk
  · rw [e (50 + s) (by omega), v1, v2, e (54 + s) (by omega)]
    refine ⟨(a7 s hs).1, fun h0 => ⟨((a7 s hs).2 h0).1, fun i hi => ?_⟩⟩
    rw [v3]
    exact ((a7 s hs).2 h0).2 i hi
  · rw [e 0 (by omega), o4]
    exact a8
theorem v_inside {σ : St} {a b : Int} (ha : in32 a) (hb : in32 b) : f_X8_inside σ a b = some (if 0 ≤ a ∧ a < b then 1 else 0, σ) := by
  unfold f_X8_inside
  rw [chk_pos ha]
  by_cases h1 : a < 0
  · rw [if_pos h1, if_neg (by omega)]
  · rw [if_neg h1, chk_pos hb]
    by_cases h2 : b ≤ a
    · rw [if_pos h2, if_neg (by omega)]
    · rw [if_neg h2, if_pos (by omega)]
theorem v_isSpringDay {σ : St} {a b : Int} (ha : in32 a) (hb : in32 b) : f_X8_isSpringDay σ a b = some (if (0 ≤ a ∧ a < 3) ∧ 0 ≤ b ∧ b < 30 then 1 else 0, σ) := by
  unfold f_X8_isSpringDay
  rw [chk_pos ha]
  by_cases h1 : a < 0
  · rw [if_pos h1, if_neg (by omega)]
  rw [if_neg h1]
  by_cases h2 : 3 ≤ a
  · rw [if_pos h2, if_neg (by omega)]
  rw [if_neg h2, chk_pos hb]
  by_cases h3 : b < 0
  · rw [if_pos h3, if_neg (by omega)]
  rw [if_neg h3]
  by_cases h4 : 30 ≤ b
  · rw [if_pos h4, if_neg (by omega)]
  rw [if_neg h4, if_pos (by omega)]
theorem v_faultL {σ : St} (hC : CI σ) (hM : MI (mv σ)) {t : Nat} (ht : t < 4) : ∀ (n i : Nat) (v : Int), v = i → (i : Int) ≤ σ 64 t → (σ 64 t - i).toNat < n → L_X5_firstFault_2 t n σ v = some (fltA (mv σ) t (σ 64 t - i).toNat i, σ)
  | 0, i, v, hv, h1, h2 => by omega
  | n + 1, i, v, hv, h1, h2 => by
    subst hv
    have hr := hM.typ ht
    rw [mv_6] at hr
    have hr2 := hM.1 t ht
    rw [mv_6] at hr2
    have htl := rr_tl_le t
    have hc := hC.1 t ht
    rw [L_X5_firstFault_2, S_X5_firstFault_2, hc.1, chk_pos (by omega), chk_pos (by omega)]
    by_cases hlt : (i : Int) < σ 64 t
    · have hb := hM.byt (i := 30 * t + i) (by omega)
      rw [mv_5] at hb
      obtain ⟨k, hk⟩ : ∃ k, (σ 64 t - i).toNat = k + 1 := ⟨(σ 64 t - i).toNat - 1, by omega⟩
      have ih := v_faultL hC hM ht n (i + 1) (i + 1) (by omega) (by omega) (by omega)
      rw [if_neg (by omega), chk_pos (by omega), if_neg (by omega), chk_pos (by omega), show (i : Int).toNat = i by omega, hc.2 i hlt, chk_pos (by omega), ih, hk, show (σ 64 t - ((i + 1 : Nat) : Int)).toNat = k by omega, fltA, mv_5]
      by_cases q1 : σ 63 (30 * t + i) < 48
      · rw [if_pos q1, if_neg (by omega)]
      · rw [if_neg q1]
        by_cases q2 : σ 63 (30 * t + i) ≤ 57
        · rw [if_pos q2, if_pos (by omega)]
        · rw [if_neg q2, if_neg (by omega)]
    · rw [if_pos (by omega), show (σ 64 t - (i : Int)).toNat = 0 by omega]
      rfl
theorem v_firstFault {σ : St} (hC : CI σ) (hM : MI (mv σ)) {t : Nat} (ht : t < 4) : f_X5_firstFault t σ = some (flt (mv σ) t, σ) := by
  have hr := hM.typ ht
  rw [mv_6] at hr
  unfold f_X5_firstFault
  rw [v_faultL hC hM ht FU 0 0 rfl (by omega) (by rw [FU_eq]; omega)]
  unfold flt
  rw [mv_6, show σ 64 t - ((0 : Nat) : Int) = σ 64 t by omega]
theorem v_told {σ : St} (hC : CI σ) (hM : MI (mv σ)) {t : Nat} (ht : t < 4) : f_X5_told t σ = some (fig (mv σ) t, σ) := by
  have hr := flt_rng hM ht
  unfold f_X5_told fig
  rw [v_firstFault hC hM ht, cll_pos, chk_pos (by omega), (hC.1 t ht).1, mv_6]
  split <;> rfl
theorem v_figure {σ : St} (hC : CI σ) (hM : MI (mv σ)) {t i : Nat} (ht : t < 4) (hi : (i : Int) < σ 64 t) : f_X5_figure t σ i = some (σ 63 (30 * t + i) - 48, σ) := by
  have hr := hM.typ ht
  rw [mv_6] at hr
  have hr2 := hM.1 t ht
  rw [mv_6] at hr2
  have htl := rr_tl_le t
  have hc := hC.1 t ht
  unfold f_X5_figure
  rw [hc.1, v_inside (by omega) (by omega), cll_pos, chk_b01, ite_b0, if_pos (by omega), v_inside (by omega) (by omega), cll_pos, chk_b01, ite_b0, if_pos (by omega), chk_pos (by omega), show (i : Int).toNat = i by omega, hc.2 i hi]
theorem v_isYard {σ : St} (hC : CI σ) (hM : MI (mv σ)) {a : Int} (ha : in32 a) : f_X8_isYard σ a = some (if 0 ≤ a ∧ a < yds (mv σ) then 1 else 0, σ) := by
  have hy := yds_rng hM
  unfold f_X8_isYard
  rw [v_told hC hM (by omega), cll_pos, show fig (mv σ) 3 = yds (mv σ) from rfl, v_inside ha (by omega), cll_pos, chk_01]
set_option maxRecDepth 100000 in
theorem yb_nat : ∀ f, f < 12 → ∀ l, l < 12 → f ≤ l → 2 ^ (l + 1) - 2 ^ f = bts (fun y => decide (f ≤ y ∧ y ≤ l)) 12 := by decide +kernel
theorem v_yardBits {σ : St} {f l : Nat} (hf : f < 12) (hl : l < 12) (hfl : f ≤ l) : f_X8_yardBits σ f l = some (((bts (fun y => decide (f ≤ y ∧ y ≤ l)) 12 : Nat) : Int), σ) := by
  have e1 : ((l : Int) + 1) = ((l + 1 : Nat) : Int) := by omega
  unfold f_X8_yardBits
  rw [chk_pos (by omega), chk_pos (by omega), if_pos (by omega), e1, shl1 (by omega), shl1 (by omega), ← yb_nat f hf l hl hfl]
  have h2 : 2 ^ f ≤ 2 ^ (l + 1) := Nat.pow_le_pow_right (by omega) (by omega)
  refine congrArg some (Prod.ext ?_ rfl)
  show ((2 ^ (l + 1) : Nat) : Int) - ((2 ^ f : Nat) : Int) = _
  omega
theorem bts_or {P Q : Nat → Bool} {n : Nat} (h : n ≤ 12) : orZ (bts P n : Nat) (bts Q n : Nat) = ((bts (fun y => P y || Q y) n : Nat) : Int) := by
  have h1 := bts_small P h
  have h2 := bts_small Q h
  rw [orZ_nat (by omega) (by omega)]
  refine congrArg Nat.cast (bts_eq fun i => ?_)
  rw [Nat.testBit_or, bts_bit, bts_bit]
  cases decide (i < n) <;> rfl
theorem v_keptL {σ : St} (hC : CI σ) (hM : MI (mv σ)) {d : Nat} (hd : d < 30) : ∀ (n k : Nat) (v acc : Int), v = k → (k : Int) ≤ σ 58 9 → acc = (bts (fun y => kepA (mv σ) d y k) 12 : Nat) → 10 - k < n → L_X1_keptYards_4 n σ d acc v = some (((bts (fun y => kep (mv σ) d y) 12 : Nat) : Int), σ)
  | 0, k, v, acc, hv, h1, ha, hn => by
    have := hM.dks
    rw [mv_09] at this
    omega
  | n + 1, k, v, acc, hv, h1, ha, hn => by
    subst hv
    subst ha
    have hc := hC.2.2.2.1
    have hr := hM.dks
    rw [mv_09] at hr
    rw [L_X1_keptYards_4, S_X1_keptYards_4, hc.1, chk_pos (by omega), chk_pos (by omega)]
    by_cases q : σ 58 9 ≤ k
    · rw [if_pos q]
      unfold kep
      rw [mv_09, show (σ 58 9).toNat = k by omega]
    · have ck := hc.2.2 k (by omega)
      have hk := hM.dik (k := k) (by rw [mv_09]; omega)
      rw [mv_9 (by omega), mv_9 (by omega), mv_9 (by omega)] at hk
      have ih := fun acc ha => v_keptL hC hM hd n (k + 1) (k + 1) acc (by omega) (by omega) ha (by omega)
      have st : ∀ y, kepA (mv σ) d y (k + 1) = (kepA (mv σ) d y k || decide ((σ 67 (3 * k) ≤ y ∧ (y : Int) ≤ σ 67 (3 * k + 1)) ∧ σ 67 (3 * k + 2) ≤ d ∧ (d : Int) ≤ σ 67 (3 * k + 2) + 6)) := fun y => by
        rw [kepA, mv_9 (by omega), mv_9 (by omega), mv_9 (by omega)]
      rw [if_neg q, if_neg (by omega), chk_pos (by omega), chk_pos (by omega), show (k : Int).toNat = k by omega, ck.1, ck.2.1, ck.2.2, chk_pos (by omega)]
      by_cases z : (d : Int) < σ 67 (3 * k + 2)
      · rw [if_pos z]
        refine ih _ (congrArg Nat.cast (bts_congr fun y _ => ?_))
        rw [st, decide_eq_false (fun w => by omega), Bool.or_false]
      · rw [if_neg z, chk_pos (by omega)]
        by_cases w : σ 67 (3 * k + 2) + 7 ≤ d
        · rw [if_pos w]
          refine ih _ (congrArg Nat.cast (bts_congr fun y _ => ?_))
          rw [st, decide_eq_false (fun w => by omega), Bool.or_false]
        · have e1 : σ 67 (3 * k) = (((σ 67 (3 * k)).toNat : Nat) : Int) := by omega
          have e2 : σ 67 (3 * k + 1) = (((σ 67 (3 * k + 1)).toNat : Nat) : Int) := by omega
          have hy := v_yardBits (σ := σ) (f := (σ 67 (3 * k)).toNat) (l := (σ 67 (3 * k + 1)).toNat) (by omega) (by omega) (by omega)
          rw [← e1, ← e2] at hy
          rw [if_neg w, hy, cll_pos, bts_or (by omega)]
          refine ih _ (congrArg Nat.cast (bts_congr fun y _ => ?_))
          rw [st]
          congr 1
          rw [decide_eq_decide]
          omega
theorem v_keptYards {σ : St} (hC : CI σ) (hM : MI (mv σ)) {d : Nat} (hd : d < 30) : f_X1_keptYards σ d = some (((bts (fun y => kep (mv σ) d y) 12 : Nat) : Int), σ) := by
  have hr := hM.dks
  rw [mv_09] at hr
  unfold f_X1_keptYards
  refine v_keptL hC hM hd FU 0 0 0 rfl (by omega) ?_ (by rw [FU_eq]; omega)
  have : bts (fun y => kepA (mv σ) d y 0) 12 = 0 := by simp [bts, kepA]
  rw [this]
  rfl
