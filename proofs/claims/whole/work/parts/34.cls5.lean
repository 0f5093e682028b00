/-! THE CLASS: fractions, contracts, kinds -/
theorem v_gcdL {σ : St} : ∀ (k n a b : Nat) (v : Int) (t : Nat), v = t → b < 2 ^ k → t + 2 * k ≤ 98 → 2 * k + 1 < n → a ≤ 2000000000 → b ≤ 2000000000 → L_X8_commonDivisor_7 n σ a b v = some (((Nat.gcd a b : Nat) : Int), σ)
  | k, 0, a, b, v, t, hv, hb, ht, hn, h1, h2 => by omega
  | 0, n + 1, a, b, v, t, hv, hb, ht, hn, h1, h2 => by
    subst hv
    have e : b = 0 := by simpa using hb
    subst e
    rw [L_X8_commonDivisor_7, S_X8_commonDivisor_7, chk_pos (by omega), if_neg (by omega), chk_pos (by omega), if_pos (by rfl), Nat.gcd_zero_right]
  | k + 1, 1, a, b, v, t, hv, hb, ht, hn, h1, h2 => by omega
  | k + 1, n + 2, a, b, v, t, hv, hb, ht, hn, h1, h2 => by
    subst hv
    rw [L_X8_commonDivisor_7, S_X8_commonDivisor_7, chk_pos (by omega), if_neg (by omega), chk_pos (by omega)]
    by_cases q : b = 0
    · subst q
      rw [if_pos (by rfl), Nat.gcd_zero_right]
    · have hr : a % b < b := Nat.mod_lt _ (by omega)
      have g1 : Nat.gcd b (a % b) = Nat.gcd a b := by rw [Nat.gcd_comm, ← Nat.gcd_rec, Nat.gcd_comm]
      rw [if_neg (by omega), chk_pos (by omega), ← Int.natCast_emod, L_X8_commonDivisor_7, S_X8_commonDivisor_7, chk_pos (by omega), if_neg (by omega), chk_pos (by omega)]
      by_cases z : a % b = 0
      · rw [z] at g1 ⊢
        rw [if_pos (by rfl), ← g1, Nat.gcd_zero_right]
      · have hr2 : b % (a % b) < a % b := Nat.mod_lt _ (by omega)
        have g2 : Nat.gcd (a % b) (b % (a % b)) = Nat.gcd b (a % b) := by rw [Nat.gcd_comm, ← Nat.gcd_rec, Nat.gcd_comm]
        have hp : 2 ^ (k + 1) = 2 * 2 ^ k := by rw [Nat.pow_succ, Nat.mul_comm]
        have hh : b % (a % b) < 2 ^ k := by
          rcases Nat.lt_or_ge b (2 * (a % b)) with y | y
          · have : b % (a % b) = b - a % b := by
              rw [Nat.mod_eq_sub_mod (by omega), Nat.mod_eq_of_lt (by omega)]
            omega
          · omega
        rw [if_neg (by omega), chk_pos (by omega), ← Int.natCast_emod, ← g1, ← g2]
        exact v_gcdL k n (a % b) (b % (a % b)) _ (t + 2) (by omega) hh (by omega) (by omega) (by omega) (by omega)
theorem v_gcd {σ : St} {a b : Nat} (ha : a ≤ 1000000) (hb : b < 512) : f_X8_commonDivisor σ a b = some (((Nat.gcd a b : Nat) : Int), σ) := by
  unfold f_X8_commonDivisor
  exact v_gcdL 9 FU a b 0 0 rfl hb (by omega) (by rw [FU_eq]; omega) (by omega) (by omega)
theorem nat_in32 {n : Nat} (h : n ≤ 2000000000) : in32 (n : Int) := by omega
theorem v_fraction {σ : St} {x y : Nat} {w : Int} (hx : x ≤ 1000000) (hy : y < 512) (hy0 : 0 < y) (hw : in32 w) : f_X8_fractionPart σ x y w = some (prt x y w, σ) := by
  have hg : 0 < Nat.gcd x y := Nat.gcd_pos_of_pos_right _ hy0
  have hg2 : Nat.gcd x y ≤ y := Nat.gcd_le_right _ hy0
  have d1 : x / Nat.gcd x y ≤ x := Nat.div_le_self _ _
  have d2 : y / Nat.gcd x y ≤ y := Nat.div_le_self _ _
  unfold f_X8_fractionPart prt
  rw [v_gcd hx hy, cll_pos, chk_pos (by omega), if_neg (by omega), chk_pos hw]
  by_cases q : w = 0
  · rw [if_pos q, if_pos q, chk_pos (by omega), ← Int.natCast_ediv, chk_pos (nat_in32 (Nat.le_trans d1 (by omega)))]
  · rw [if_neg q, if_neg q, chk_pos (by omega), ← Int.natCast_ediv, chk_pos (nat_in32 (Nat.le_trans d2 (by omega)))]
theorem v_fraction0 {σ : St} {w : Int} (hw : w = 0 ∨ w = 1) : f_X8_fractionPart σ 0 0 w = some (w, σ) := by
  have h := v_gcd (σ := σ) (a := 0) (b := 0) (by omega) (by omega)
  rw [show ((0 : Nat) : Int) = 0 from rfl] at h
  unfold f_X8_fractionPart
  rw [h, cll_pos, show ((Nat.gcd 0 0 : Nat) : Int) = 0 from rfl, chk_pos (by decide), if_pos rfl, chk_pos (by omega)]
  rcases hw with rfl | rfl
  · rfl
  · rfl
theorem v_allL {σ : St} (hC : CI σ) : ∀ (n s : Nat) (v acc : Int), v = s → s ≤ 3 → acc = wgA (mv σ) (fun _ => true) s → 3 - s < n → L_X8_allChances_4 n σ acc v = some (allw (mv σ), σ)
  | 0, s, v, acc, hv, h1, ha, hn => by omega
  | n + 1, s, v, acc, hv, h1, ha, hn => by
    subst hv
    subst ha
    rw [L_X8_allChances_4, S_X8_allChances_4, chk_pos (by omega)]
    by_cases q : 3 ≤ (s : Int)
    · rw [if_pos q, show s = 3 by omega]
      rfl
    · rw [if_neg q, chk_pos (by omega), show (s : Int).toNat = s by omega, hC.2.2.1 s (by omega)]
      exact v_allL hC n (s + 1) (s + 1) _ (by omega) (by omega) (by rw [wgA, if_pos rfl, mv_8]) (by omega)
theorem v_allChances {σ : St} (hC : CI σ) : f_X8_allChances σ = some (allw (mv σ), σ) := by
  unfold f_X8_allChances
  exact v_allL hC FU 0 0 0 rfl (by omega) rfl (by rw [FU_eq]; omega)
theorem v_lkL {σ : St} (hC : CI σ) (hM : MI (mv σ)) (hF : FR σ) {d : Nat} (hd : d < 30) : ∀ (n s : Nat) (v acc : Int), v = s → s ≤ 3 → acc = (kbA (mv σ) d s : Nat) → 3 - s < n → L_X8_levelKinds_4 n σ d acc v = some (knd (mv σ) d, σ)
  | 0, s, v, acc, hv, h1, ha, hn => by omega
  | n + 1, s, v, acc, hv, h1, ha, hn => by
    subst hv
    subst ha
    have hk := kbA_lt (mv σ) d
    rw [L_X8_levelKinds_4, S_X8_levelKinds_4, chk_pos (by omega)]
    by_cases q : 3 ≤ (s : Int)
    · have e : s = 3 := by omega
      subst e
      have := hk 3
      rw [if_pos q, v_bitCount (by omega), cll_pos]
      rfl
    · have hc := hM.chc (s := s) (by omega)
      rw [mv_8] at hc
      have hl := lev_rng (M := mv σ) (s := s) (d := d)
      have ih := fun acc ha => v_lkL hC hM hF hd n (s + 1) (s + 1) acc (by omega) (by omega) ha (by omega)
      have hks := hk s
      rw [if_neg q, chk_pos (by omega), show (s : Int).toNat = s by omega, hC.2.2.1 s (by omega), chk_pos (by omega)]
      by_cases z : σ 66 s ≤ 0
      · rw [if_pos z]
        exact ih _ (by rw [kbA, if_neg (by rw [mv_8]; omega), Nat.or_zero])
      · have e : lev (mv σ) s d = (((lev (mv σ) s d).toNat : Nat) : Int) := by omega
        have hp : 2 ^ (lev (mv σ) s d).toNat < 2147483648 := Nat.pow_lt_pow_right (n := 31) (by omega) (by omega)
        have sh := shl1 (k := (lev (mv σ) s d).toNat) (by omega)
        rw [← e] at sh
        rw [if_neg z, v_levelOn hF (by omega) hd, cll_pos, sh, orZ_nat (by omega) hp]
        exact ih _ (by rw [kbA, if_pos (by rw [mv_8]; omega)])
theorem v_levelKinds {σ : St} (hC : CI σ) (hM : MI (mv σ)) (hF : FR σ) {d : Nat} (hd : d < 30) : f_X8_levelKinds σ d = some (knd (mv σ) d, σ) := by
  unfold f_X8_levelKinds
  exact v_lkL hC hM hF hd FU 0 0 0 rfl (by omega) rfl (by rw [FU_eq]; omega)
/-! contracts -/
def CC (σ' σ : St) : Prop := (∀ k, k ≠ 37 → (k < 42 ∨ 44 < k) → σ' k = σ k) ∧ (∀ j, j ≠ 7 → j ≠ 8 → j ≠ 9 → σ' 37 j = σ 37 j)
theorem CC.rf (σ : St) : CC σ σ := ⟨fun _ _ _ => rfl, fun _ _ _ _ => rfl⟩
theorem CC.tr {a b c : St} (h1 : CC a b) (h2 : CC b c) : CC a c := ⟨fun k q p => (h1.1 k q p).trans (h2.1 k q p), fun j q1 q2 q3 => (h1.2 j q1 q2 q3).trans (h2.2 j q1 q2 q3)⟩
theorem CC.mv {σ' σ : St} (h : CC σ' σ) : mv σ' = mv σ := mv_of fun k hk => h.1 k (by omega) (by omega)
theorem CC.eq {σ' σ : St} (h : CC σ' σ) : EQ σ' σ := ⟨fun k q => h.1 k (by omega) (by omega), h.2 6 (by decide) (by decide) (by decide)⟩
theorem CC.fr {σ' σ : St} (h : CC σ' σ) (hF : FR σ) : FR σ' := hF.of h.mv (fun k h1 h2 => h.1 k (by omega) (by omega))
theorem CC.fre {σ' σ : St} (h : CC σ' σ) (hF : FRE σ) : FRE σ' := ⟨by rw [h.1 16 (by omega) (by omega)]; exact hF.1, h.fr hF.2⟩
theorem CC.wr {σ : St} {s i : Nat} {x : Int} (h : s < 3) : CC (su σ (42 + s) i x) σ := ⟨fun k q1 q2 => su_ne k (by omega), fun j _ _ _ => by rw [su_ne 37 (by omega)]⟩
theorem CC.wr37 {σ : St} {i : Nat} {x : Int} (h : i = 7 ∨ i = 8 ∨ i = 9) : CC (su σ 37 i x) σ := ⟨fun k q1 q2 => su_ne k q1, fun j _ _ _ => by rw [su_eq, if_neg (by omega)]⟩
theorem v_amountOf {σ : St} (hC : CI σ) (hM : MI (mv σ)) (hF : FR σ) {s k : Nat} (hs : s < 3) (hk : k < 8) : f_X0_amountOf σ k s = some (amt (mv σ) s k, σ) := by
  have hp := pos_rng hM (s := s)
  have hr := hM.set.1
  have hc := hM.con hk
  rw [mv_11, mv_11, mv_11, mv_11] at hc
  have ck := hC.2.2.2.2.1.2 k hk
  have am : amt (mv σ) s k = (if pos (mv σ) s ≠ -1 ∧ pos (mv σ) s ≤ σ 69 (4 * k + 1) then σ 69 (4 * k + 2) else 0) - σ 69 (4 * k + 3) := rfl
  have e0 : (k : Int).toNat = k := by omega
  unfold f_X0_amountOf B_X0_amountOf_29
  rw [v_lentFrom hF hs, cll_pos, chk_pos (by omega), am]
  by_cases z : pos (mv σ) s = -1
  · rw [if_pos z, chk_pos (by decide), if_pos rfl, chk_pos (by omega), e0, ck.2.2.2, if_neg (fun w => w.1 z)]
  · rw [if_neg z, chk_pos (by omega), e0, ck.2.1, chk_pos (by omega)]
    by_cases y : σ 69 (4 * k + 1) < pos (mv σ) s
    · rw [if_pos y, chk_pos (by decide), if_pos rfl, chk_pos (by omega), ck.2.2.2, if_neg (fun w => by omega)]
    · rw [if_neg y, chk_pos (by decide), if_neg (by decide), chk_pos (by omega), ck.2.2.2, ck.2.2.1, if_pos ⟨z, by omega⟩]
theorem v_isSigned {σ : St} (hC : CI σ) {k : Nat} (hk : k < 8) : f_X0_isSigned σ k = some (if σ 69 (4 * k) = 1 then 1 else 0, σ) := by
  have hp := hC.2.2.2.2.1.1
  have ck := (hC.2.2.2.2.1.2 k hk).1
  have e : σ 37 6 = (((σ 37 6).toNat : Nat) : Int) := by omega
  have b := bit1 (a := (σ 37 6).toNat) (k := k) (by omega) (by omega)
  rw [← e, ck] at b
  unfold f_X0_isSigned
  rw [b, chk_b01, ite_b1]
  by_cases q : σ 69 (4 * k) = 1
  · rw [if_pos (decide_eq_true q), if_pos q]
  · rw [if_neg (by simp [q]), if_neg q]
/-- a set with one contract more -/
theorem bits_more {k S : Nat} (hS : S < 2 ^ k) (j : Nat) : (2 ^ k + S).testBit j = (decide (j = k) || S.testBit j) := by
  rcases Nat.lt_trichotomy j k with h | h | h
  · rw [Nat.testBit_two_pow_add_gt h, decide_eq_false (by omega), Bool.false_or]
  · subst h
    rw [Nat.testBit_two_pow_add_eq, Nat.testBit_lt_two_pow hS, decide_eq_true rfl]
    rfl
  · have h1 : 2 ^ (k + 1) ≤ 2 ^ j := Nat.pow_le_pow_right (by omega) (by omega)
    have h2 : 2 ^ (k + 1) = 2 * 2 ^ k := by rw [Nat.pow_succ, Nat.mul_comm]
    rw [Nat.testBit_lt_two_pow (show 2 ^ k + S < 2 ^ j by omega), Nat.testBit_lt_two_pow (show S < 2 ^ j by omega), decide_eq_false (by omega)]
    rfl
theorem br_more {M : St} {s k S : Nat} (hS : S < 2 ^ k) : ∀ n, brA M s (2 ^ k + S) n = brA M s S n + (if k < n then amt M s k else 0)
  | 0 => by simp [brA]
  | n + 1 => by
    rw [brA, brA, br_more hS n, bits_more hS]
    rcases Nat.lt_trichotomy n k with h | h | h
    · rw [decide_eq_false (show ¬ n = k by omega), Bool.false_or, if_neg (show ¬ k < n by omega), if_neg (show ¬ k < n + 1 by omega)]
      try omega
    · subst h
      rw [decide_eq_true rfl, Bool.true_or, Nat.testBit_lt_two_pow hS, if_neg (show ¬ n < n by omega), if_pos (show n < n + 1 by omega), if_pos rfl, if_neg (by decide)]
      try omega
    · rw [decide_eq_false (show ¬ n = k by omega), Bool.false_or, if_pos h, if_pos (show k < n + 1 by omega)]
      try omega
theorem thA_iff (M : St) (S : Nat) : ∀ n, thA M S n = true ↔ ∀ k, k < n → S.testBit k = true → M 11 (4 * k) = 1
  | 0 => by simp [thA]
  | n + 1 => by
    have ih := thA_iff M S n
    unfold thA
    rw [Bool.and_eq_true, ih, Bool.or_eq_true, Bool.not_eq_true', decide_eq_true_iff]
    constructor
    · intro ⟨h1, h2⟩ k hk hb
      by_cases q : k = n
      · subst q
        rcases h2 with h2 | h2
        · rw [h2] at hb; cases hb
        · exact h2
      · exact h1 k (by omega) hb
    · intro h
      refine ⟨fun k hk hb => h k (by omega) hb, ?_⟩
      by_cases q : S.testBit n = true
      · exact Or.inr (h n (by omega) q)
      · exact Or.inl (by simpa using q)
def BRO (M σ : St) (s k : Nat) : Prop := ∀ S, S < 2 ^ k → thA M S 8 = true → σ (42 + s) S = brA M s S 8
theorem v_fbL2 {M : St} {σ0 : St} {s k : Nat} {am : Int} (hs : s < 3) (hk : k < 8) (hB : BRO M σ0 s k) {rec11 : St → Int → Int → Option Rt} (ham : am = amt M s k) :
    ∀ (n j : Nat) (σ : St) (v : Int), (∀ i, i ≠ 42 + s → σ i = σ0 i) → (∀ S, S < 2 ^ k → σ (42 + s) S = σ0 (42 + s) S) → (∀ S, S < j → σ (42 + s) (2 ^ k + S) = σ0 (42 + s) S + am) → v = j → j ≤ 2 ^ k → 256 - j < n →
    ∃ σ', L_X0_fillBrought_44 rec11 n σ s k am (2 ^ k : Nat) v = rec11 σ' s (k + 1) ∧ (∀ i, i ≠ 42 + s → σ' i = σ0 i) ∧ (∀ S, S < 2 ^ k → σ' (42 + s) S = σ0 (42 + s) S ∧ σ' (42 + s) (2 ^ k + S) = σ0 (42 + s) S + am)
  | 0, j, σ, v, h1, h2, h3, hv, hj, hn => by
    have : 2 ^ k ≤ 2 ^ 7 := Nat.pow_le_pow_right (by omega) (by omega)
    omega
  | n + 1, j, σ, v, h1, h2, h3, hv, hj, hn => by
    subst hv
    have hp : 2 ^ k ≤ 2 ^ 7 := Nat.pow_le_pow_right (by omega) (by omega)
    rw [L_X0_fillBrought_44, S_X0_fillBrought_44, chk_pos (by omega), chk_pos (by omega)]
    by_cases q : ((2 ^ k : Nat) : Int) ≤ j
    · rw [if_pos q]
      exact ⟨σ, rfl, h1, fun S hS => ⟨h2 S hS, h3 S (by omega)⟩⟩
    · have e1 : (((2 ^ k : Nat) : Int) + (j : Int)).toNat = 2 ^ k + j := by omega
      rw [if_neg q, chk_pos (by omega), if_neg (by omega), chk_pos (by omega), chk_pos (by omega), chk_pos (by omega), show (s : Int).toNat = s by omega, show (j : Int).toNat = j by omega, e1]
      refine v_fbL2 hs hk hB ham n (j + 1) _ (j + 1) (fun i hi => by rw [su_ne i hi]; exact h1 i hi) (fun S hS => by rw [su_eq, if_neg (by omega)]; exact h2 S hS) (fun S hS => ?_) (by omega) (by omega) (by omega)
      rw [su_eq]
      by_cases y : S = j
      · rw [if_pos (by omega), y, h2 j (by omega)]
      · rw [if_neg (by omega)]
        exact h3 S (by omega)
theorem v_fbL0 {rec11 : St → Int → Int → Option Rt} {n : Nat} {σ : St} {s k : Nat} {am : Int} : L_X0_fillBrought_44 rec11 (n + 1) σ s k am 0 0 = rec11 σ s (k + 1) := by
  rw [L_X0_fillBrought_44, S_X0_fillBrought_44, chk_pos (by decide), chk_pos (by decide), if_pos (by decide)]
theorem v_fbL1 {M : St} (hM : MI M) {σ0 : St} (hC : CI σ0) (hF : FR σ0) (hm : mv σ0 = M) {s : Nat} (hs : s < 3) : ∀ (n k : Nat) (σ : St) (v : Int), (∀ i, i ≠ 42 + s → σ i = σ0 i) → BRO M σ s k → v = k → k ≤ 8 → 8 - k < n → ∃ σ', L_X0_fillBrought_11 n σ s v = some (0, σ') ∧ (∀ i, i ≠ 42 + s → σ' i = σ0 i) ∧ BRO M σ' s 8
  | 0, k, σ, v, h1, hB, hv, hk, hn => by omega
  | n + 1, k, σ, v, h1, hB, hv, hk, hn => by
    subst hv
    rw [L_X0_fillBrought_11, S_X0_fillBrought_11, chk_pos (by omega)]
    by_cases q : 8 ≤ (k : Int)
    · have e : k = 8 := by omega
      subst e
      rw [if_pos q]
      exact ⟨σ, rfl, h1, hB⟩
    · have cc : CC σ σ0 := ⟨fun i q1 q2 => h1 i (by omega), fun j _ _ _ => by rw [h1 37 (by omega)]⟩
      have hmσ : mv σ = M := cc.mv.trans hm
      have hMσ : MI (mv σ) := by rw [hmσ]; exact hM
      have ha := v_amountOf (hC.eq cc.eq) hMσ (cc.fr hF) (s := s) (k := k) hs (by omega)
      rw [hmσ] at ha
      have e11 : σ 69 (4 * k) = M 11 (4 * k) := by rw [← hmσ]; rfl
      have hpow : 2 ^ (k + 1) = 2 * 2 ^ k := by rw [Nat.pow_succ, Nat.mul_comm]
      rw [if_neg q, ha, cll_pos, v_isSigned (hC.eq cc.eq) (by omega), cll_pos, chk_b01, ite_b0]
      by_cases z : σ 69 (4 * k) = 1
      · rw [if_pos z, shl1 (by omega)]
        obtain ⟨σ1, k1, k2, k3⟩ := v_fbL2 (M := M) (σ0 := σ) (am := amt M s k) hs (by omega) hB (rec11 := L_X0_fillBrought_11 n) rfl FU 0 σ 0 (fun _ _ => rfl) (fun _ _ => rfl) (fun S h => by omega) rfl (Nat.zero_le _) (by rw [FU_eq]; omega)
        rw [k1]
        refine v_fbL1 hM hC hF hm hs n (k + 1) σ1 (k + 1) (fun i hi => by rw [k2 i hi]; exact h1 i hi) (fun S hS ht => ?_) (by omega) (by omega) (by omega)
        rcases Nat.lt_or_ge S (2 ^ k) with g | g
        · rw [(k3 S g).1]
          exact hB S g ht
        · obtain ⟨T, hT⟩ : ∃ T, S = 2 ^ k + T := ⟨S - 2 ^ k, by omega⟩
          subst hT
          have hTl : T < 2 ^ k := by omega
          rw [(k3 T hTl).2, br_more hTl, if_pos (by omega), hB T hTl]
          rw [thA_iff] at ht ⊢
          intro j hj hb
          exact ht j hj (by rw [bits_more hTl, hb, Bool.or_true])
      · obtain ⟨kf, hkf⟩ : ∃ kf, FU = kf + 1 := ⟨999, rfl⟩
        rw [if_neg z, hkf, v_fbL0]
        refine v_fbL1 hM hC hF hm hs n (k + 1) σ (k + 1) h1 (fun S hS ht => ?_) (by omega) (by omega) (by omega)
        rcases Nat.lt_or_ge S (2 ^ k) with g | g
        · exact hB S g ht
        · obtain ⟨T, hT⟩ : ∃ T, S = 2 ^ k + T := ⟨S - 2 ^ k, by omega⟩
          subst hT
          have := (thA_iff M _ 8).mp ht k (by omega) (by rw [bits_more (by omega), decide_eq_true rfl, Bool.true_or])
          rw [← e11] at this
          exact absurd this z
theorem v_fillBrought {σ : St} (hC : CI σ) (hM : MI (mv σ)) (hF : FR σ) {s : Nat} (hs : s < 3) : ∃ σ', f_X0_fillBrought σ s = some (0, σ') ∧ (∀ i, i ≠ 42 + s → σ' i = σ i) ∧ BRO (mv σ) σ' s 8 := by
  unfold f_X0_fillBrought
  rw [chk_pos (by omega), show (s : Int).toNat = s by omega]
  have cc : CC (su σ (42 + s) 0 0) σ := CC.wr hs
  obtain ⟨σ', k1, k2, k3⟩ := v_fbL1 (M := mv σ) hM (hC.eq cc.eq) (cc.fr hF) cc.mv hs FU 0 (su σ (42 + s) 0 0) 0 (fun _ _ => rfl) (fun S hS _ => by
    have e : S = 0 := by simpa using hS
    subst e
    rw [su_eq, if_pos rfl]
    simp [brA]) rfl (by omega) (by rw [FU_eq]; omega)
  exact ⟨σ', k1, fun i hi => by rw [k2 i hi, su_ne i hi], k3⟩
theorem kpA_mono {M : St} {S : Nat} {a : Nat} (h : kpA M S a = false) : ∀ n, kpA M S (a + n) = false
  | 0 => h
  | n + 1 => by rw [show a + (n + 1) = (a + n) + 1 by omega, kpA, kpA_mono h n, Bool.false_and]
theorem v_nlL {M σ : St} (hC : CI σ) (hM : MI M) (hm : mv σ = M) {S : Nat} (hS : S < 256) (hb : ∀ s, s < 3 → σ (42 + s) S = brA M s S 8) : ∀ (n s : Nat) (v : Int), v = s → s ≤ 3 → kpA M S s = true → 3 - s < n → L_X0_neverLoses_2 n σ S v = some (if kpA M S 3 then 1 else 0, σ)
  | 0, s, v, hv, h1, hk, hn => by omega
  | n + 1, s, v, hv, h1, hk, hn => by
    subst hv
    rw [L_X0_neverLoses_2, S_X0_neverLoses_2, chk_pos (by omega)]
    by_cases q : 3 ≤ (s : Int)
    · have e : s = 3 := by omega
      subst e
      rw [if_pos q, hk]
      rfl
    · have hc := hM.chc (s := s) (by omega)
      have e8 : σ 66 s = M 8 s := by rw [← hm]; rfl
      have br := brA_rng hM (s := s) (S := S) 8 (by omega)
      have ih := fun h => v_nlL hC hM hm hS hb n (s + 1) (s + 1) (by omega) (by omega) h (by omega)
      rw [if_neg q, chk_pos (by omega), show (s : Int).toNat = s by omega, hC.2.2.1 s (by omega), e8, chk_pos (by omega)]
      by_cases z : M 8 s ≤ 0
      · rw [if_pos z]
        exact ih (by rw [kpA, hk, decide_eq_true (show M 8 s = 0 by omega)]; rfl)
      · rw [if_neg z, chk_pos (by omega), show (S : Int).toNat = S by omega, hb s (by omega), chk_pos (by omega)]
        by_cases y : 0 ≤ brA M s S 8
        · rw [if_pos y]
          exact ih (by rw [kpA, hk, decide_eq_true y]; simp)
        · rw [if_neg y]
          have f : kpA M S (s + 1) = false := by rw [kpA, decide_eq_false (show ¬ M 8 s = 0 by omega), decide_eq_false y]; simp
          have := kpA_mono f (3 - (s + 1))
          rw [show s + 1 + (3 - (s + 1)) = 3 by omega] at this
          rw [this]
          rfl
theorem v_wsL {M σ : St} (hC : CI σ) (hm : mv σ = M) {S : Nat} (hS : S < 256) (hb : ∀ s, s < 3 → σ (42 + s) S = brA M s S 8) : ∀ (n s : Nat) (v acc : Int), v = s → s ≤ 3 → acc = wsA M S s → 3 - s < n → L_X0_weightedSum_4 n σ S acc v = some (wsA M S 3, σ)
  | 0, s, v, acc, hv, h1, ha, hn => by omega
  | n + 1, s, v, acc, hv, h1, ha, hn => by
    subst hv
    subst ha
    rw [L_X0_weightedSum_4, S_X0_weightedSum_4, chk_pos (by omega)]
    by_cases q : 3 ≤ (s : Int)
    · rw [if_pos q, show s = 3 by omega]
    · have e8 : σ 66 s = M 8 s := by rw [← hm]; rfl
      rw [if_neg q, chk_pos (by omega), chk_pos (by omega), show (s : Int).toNat = s by omega, show (S : Int).toNat = S by omega, hC.2.2.1 s (by omega), e8, hb s (by omega)]
      exact v_wsL hC hm hS hb n (s + 1) (s + 1) _ (by omega) (by omega) rfl (by omega)
/-- sets of contracts that are there -/
theorem there_iff {σ : St} (hC : CI σ) {S : Nat} (hS : S < 256) : andZ S (xorZ (σ 37 6) (-1)) = ((S ^^^ (S &&& (σ 37 6).toNat) : Nat) : Int) ∧ (S ^^^ (S &&& (σ 37 6).toNat) = 0 ↔ thA (mv σ) S 8 = true) ∧ S ^^^ (S &&& (σ 37 6).toNat) < 256 := by
  have hp := hC.2.2.2.2.1
  have e : σ 37 6 = (((σ 37 6).toNat : Nat) : Int) := by omega
  have h1 := andnZ_nat (a := S) (b := (σ 37 6).toNat) (by omega) (by omega)
  rw [← e] at h1
  refine ⟨h1, ?_, Nat.xor_lt_two_pow (n := 8) hS (Nat.lt_of_le_of_lt Nat.and_le_left hS)⟩
  rw [thA_iff]
  constructor
  · intro h k hk hb
    have : (S ^^^ (S &&& (σ 37 6).toNat)).testBit k = false := by rw [h]; simp
    rw [Nat.testBit_xor, Nat.testBit_and, hb, (hp.2 k hk).1] at this
    simpa [mv_11] using this
  · intro h
    refine Nat.eq_of_testBit_eq fun k => ?_
    rw [Nat.testBit_xor, Nat.testBit_and, Nat.zero_testBit]
    by_cases q : S.testBit k = true
    · have hk : k < 8 := by
        rcases Nat.lt_or_ge k 8 with g | g
        · exact g
        · have h2 : 2 ^ 8 ≤ 2 ^ k := Nat.pow_le_pow_right (by omega) g
          rw [Nat.testBit_lt_two_pow (show S < 2 ^ k by omega)] at q
          cases q
      have := h k hk q
      rw [mv_11] at this
      rw [q, (hp.2 k hk).1, decide_eq_true this]
      rfl
    · have q2 : S.testBit k = false := by simpa using q
      rw [q2]
      rfl
def cn3 (σ : St) : K3 := (σ 37 7, σ 37 8, σ 37 9)
theorem v_crL2 {M : St} (hM : MI M) {σ0 : St} (hC : CI σ0) (hm : mv σ0 = M) (hB : ∀ s, s < 3 → BRO M σ0 s 8) : ∀ (n S : Nat) (σ : St) (v : Int), (∀ k, k ≠ 37 → σ k = σ0 k) → (∀ j, j ≠ 7 → j ≠ 8 → j ≠ 9 → σ 37 j = σ0 37 j) → cn3 σ = nvA M S → v = S → S ≤ 256 → 256 - S < n → ∃ σ', L_X0_reckon_35 n σ v = some (0, σ') ∧ CC σ' σ0 ∧ cn3 σ' = nvA M 256
  | 0, S, σ, v, h1, h2, h3, hv, hS, hn => by omega
  | n + 1, S, σ, v, h1, h2, h3, hv, hS, hn => by
    subst hv
    have cc : CC σ σ0 := ⟨fun k q1 _ => h1 k q1, h2⟩
    have hmσ : mv σ = M := cc.mv.trans hm
    have hCσ := hC.eq cc.eq
    have nr := nvA_rng hM S
    have wr := wsA_rng hM (S := S) 3 (by omega)
    have g7 : σ 37 7 = (nvA M S).1 := congrArg Prod.fst h3
    have g8 : σ 37 8 = (nvA M S).2.1 := congrArg (fun u => u.2.1) h3
    have g9 : σ 37 9 = (nvA M S).2.2 := congrArg (fun u => u.2.2) h3
    rw [L_X0_reckon_35, S_X0_reckon_35, chk_pos (by omega)]
    by_cases q : 256 ≤ (S : Int)
    · have e : S = 256 := by omega
      subst e
      rw [if_pos q]
      exact ⟨σ, rfl, cc, h3⟩
    · obtain ⟨t1, t2, t3⟩ := there_iff hCσ (S := S) (by omega)
      rw [hmσ] at t2
      have nx := fun σ1 a1 a2 a3 => v_crL2 hM hC hm hB n (S + 1) σ1 (S + 1) a1 a2 a3 (by omega) (by omega) (by omega)
      rw [if_neg q, t1, chk_pos (by omega)]
      by_cases z : S ^^^ (S &&& (σ 37 6).toNat) = 0
      · have th := t2.mp z
        have hb : ∀ s, s < 3 → σ (42 + s) S = brA M s S 8 := fun s hs => by
          rw [h1 (42 + s) (by omega)]
          exact hB s hs S (by omega) th
        have nl := v_nlL hCσ hM hmσ (S := S) (by omega) hb FU 0 0 rfl (by omega) th (by rw [FU_eq]; omega)
        rw [show f_X0_neverLoses σ S = L_X0_neverLoses_2 FU σ S 0 from rfl, if_pos (by omega), nl, cll_pos, chk_b01, ite_b0]
        by_cases g : kpA M S 3
        · have c7 : CC (su σ 37 7 (σ 37 7 + 1)) σ := CC.wr37 (by decide)
          have ws := v_wsL (M := M) (σ := su σ 37 7 (σ 37 7 + 1)) (hCσ.eq c7.eq) (c7.mv.trans hmσ) (S := S) (by omega) (fun s hs => by rw [su_ne (42 + s) (by omega)]; exact hb s hs) FU 0 0 0 rfl (by omega) rfl (by rw [FU_eq]; omega)
          have e9 : su σ 37 7 (σ 37 7 + 1) 37 9 = σ 37 9 := by rw [su_eq, if_neg (by decide)]
          rw [if_pos g, show f_X0_weightedSum (su σ 37 7 (σ 37 7 + 1)) S = L_X0_weightedSum_4 FU (su σ 37 7 (σ 37 7 + 1)) S 0 0 from rfl, ws, cll_pos, chk_pos (by omega), e9, chk_pos (by omega)]
          by_cases y : wsA M S 3 ≤ σ 37 9
          · rw [if_pos y]
            refine nx _ (fun k hk => by rw [su_ne k hk]; exact h1 k hk) (fun j a1 a2 a3 => by rw [su_eq, if_neg a1]; exact h2 j a1 a2 a3) ?_
            rw [nvA, nvU, if_pos g, if_pos (by omega), ← g7, ← g8, ← g9]
            unfold cn3
            simp [su]
          · rw [if_neg y]
            refine nx _ (fun k hk => by rw [su_ne k hk, su_ne k hk, su_ne k hk]; exact h1 k hk) (fun j a1 a2 a3 => by rw [su_eq, if_neg a2, su_eq, if_neg a3, su_eq, if_neg a1]; exact h2 j a1 a2 a3) ?_
            rw [nvA, nvU, if_pos g, if_neg (by omega), ← g7]
            unfold cn3
            simp [su]
        · rw [if_neg g]
          refine nx σ h1 h2 ?_
          rw [nvA, nvU, if_neg g, h3]
      · rw [if_neg (by omega)]
        refine nx σ h1 h2 ?_
        have kf : kpA M S 3 = false := by
          have h0 : kpA M S 0 = false := by
            show thA M S 8 = false
            cases h : thA M S 8
            · rfl
            · exact absurd (t2.mpr h) z
          exact kpA_mono h0 3
        rw [nvA, nvU, kf, h3]
        rfl
theorem v_crL1 {M : St} (hM : MI M) {σ0 : St} (hC : CI σ0) (hF : FR σ0) (hm : mv σ0 = M) : ∀ (n s : Nat) (σ : St) (v : Int), CC σ σ0 → (∀ t, t < s → BRO M σ t 8) → v = s → s ≤ 3 → 3 - s < n → ∃ σ', L_X0_reckon_2 n σ v = some (0, σ') ∧ CC σ' σ0 ∧ cn3 σ' = nvA M 256
  | 0, s, σ, v, hK, hB, hv, h1, hn => by omega
  | n + 1, s, σ, v, hK, hB, hv, h1, hn => by
    subst hv
    have hmσ : mv σ = M := hK.mv.trans hm
    rw [L_X0_reckon_2, S_X0_reckon_2, chk_pos (by omega)]
    by_cases q : 3 ≤ (s : Int)
    · have c3 : CC (su (su (su σ 37 7 0) 37 8 0) 37 9 0) σ := (CC.wr37 (by decide)).tr ((CC.wr37 (by decide)).tr (CC.wr37 (by decide)))
      rw [if_pos q]
      obtain ⟨σ', k1, k2, k3⟩ := v_crL2 hM (hC.eq (c3.tr hK).eq) ((c3.tr hK).mv.trans hm) (fun t ht S hS hth => by
        rw [su_ne (42 + t) (by omega), su_ne (42 + t) (by omega), su_ne (42 + t) (by omega)]
        exact hB t (by omega) S hS hth) FU 0 (su (su (su σ 37 7 0) 37 8 0) 37 9 0) 0 (fun _ _ => rfl) (fun _ _ _ _ => rfl) (by unfold cn3; simp [su, nvA]) rfl (by omega) (by rw [FU_eq]; omega)
      exact ⟨σ', k1, k2.tr (c3.tr hK), k3⟩
    · obtain ⟨σ1, k1, k2, k3⟩ := v_fillBrought (hC.eq hK.eq) (by rw [hmσ]; exact hM) (hK.fr hF) (s := s) (by omega)
      rw [hmσ] at k3
      have c1 : CC σ1 σ := ⟨fun k q1 q2 => k2 k (by omega), fun j _ _ _ => by rw [k2 37 (by omega)]⟩
      rw [if_neg q, k1, cll_pos]
      refine v_crL1 hM hC hF hm n (s + 1) σ1 (s + 1) (c1.tr hK) (fun t ht => ?_) (by omega) (by omega) (by omega)
      by_cases y : t = s
      · rw [y]; exact k3
      · intro S hS hth
        rw [k2 (42 + t) (by omega)]
        exact hB t (by omega) S hS hth
theorem v_crReckon {σ : St} (hC : CI σ) (hM : MI (mv σ)) (hF : FR σ) : ∃ σ', f_X0_reckon σ = some (0, σ') ∧ CC σ' σ ∧ cn3 σ' = nvA (mv σ) 256 := by
  unfold f_X0_reckon
  exact v_crL1 hM hC hF rfl FU 0 σ 0 (CC.rf σ) (fun t h => by omega) rfl (by omega) (by rw [FU_eq]; omega)
