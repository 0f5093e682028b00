/-! numbers and bits: the machine's words as natural numbers -/
theorem zN (n : Nat) : Int32.ofInt (n : Int) = nI n := Int32.ofInt_eq_ofNat
theorem nI_bv (n : Nat) : (nI n).toBitVec = BitVec.ofNat 32 n := rfl
theorem nI_and (a b : Nat) : nI a &&& nI b = nI (a &&& b) := by
  apply Int32.toBitVec.inj
  rw [Int32.toBitVec_and, nI_bv, nI_bv, nI_bv]
  apply BitVec.eq_of_getLsbD_eq
  intro i hi
  simp [hi]
theorem nI_or (a b : Nat) : nI a ||| nI b = nI (a ||| b) := by
  apply Int32.toBitVec.inj
  rw [Int32.toBitVec_or, nI_bv, nI_bv, nI_bv]
  apply BitVec.eq_of_getLsbD_eq
  intro i hi
  simp [hi]
theorem nI_andn (a b : Nat) : nI a &&& (nI b ^^^ (-1)) = nI (a ^^^ (a &&& b)) := by
  apply Int32.toBitVec.inj
  rw [Int32.toBitVec_and, Int32.toBitVec_xor, nI_bv, nI_bv, nI_bv]
  apply BitVec.eq_of_getLsbD_eq
  intro i hi
  have h1 : (Int32.toBitVec (-1)).getLsbD i = true := by
    rw [show Int32.toBitVec (-1) = BitVec.allOnes 32 from by decide, BitVec.getLsbD_allOnes]
    exact decide_eq_true hi
  simp only [BitVec.getLsbD_and, BitVec.getLsbD_xor, h1, BitVec.getLsbD_ofNat, hi, Nat.testBit_xor, Nat.testBit_and]
  cases a.testBit i <;> cases b.testBit i <;> rfl
theorem sm31 : ∀ k, k < 32 → ((nI k &&& 31).toBitVec.smod 32).toNat = k := by decide +kernel
theorem andZ_nat {a b : Nat} (ha : a < 2147483648) : andZ a b = ((a &&& b : Nat) : Int) := by
  unfold andZ
  rw [zN, zN, nI_and, nI_toInt (Nat.lt_of_le_of_lt Nat.and_le_left ha)]
theorem orZ_nat {a b : Nat} (ha : a < 2147483648) (hb : b < 2147483648) : orZ a b = ((a ||| b : Nat) : Int) := by
  unfold orZ
  rw [zN, zN, nI_or, nI_toInt (Nat.or_lt_two_pow (n := 31) ha hb)]
theorem andnZ_nat {a b : Nat} (ha : a < 2147483648) (hb : b < 2147483648) : andZ a (xorZ b (-1)) = ((a ^^^ (a &&& b) : Nat) : Int) := by
  unfold andZ xorZ
  rw [zN, zN, Int32.ofInt_toInt, show Int32.ofInt (-1) = -1 from by decide, nI_andn, nI_toInt (Nat.xor_lt_two_pow (n := 31) ha (Nat.lt_of_le_of_lt Nat.and_le_left ha))]
theorem shlZ_nat {a k : Nat} (hk : k < 32) (h : a * 2 ^ k < 2147483648) : shlZ a k = ((a * 2 ^ k : Nat) : Int) := by
  unfold shlZ
  rw [zN, zN, pk_shlN (nI k &&& 31) k (sm31 k hk) (by omega), nI_toInt h]
theorem shrZ_nat {a k : Nat} (ha : a < 2147483648) (hk : k < 32) : shrZ a k = ((a / 2 ^ k : Nat) : Int) := by
  unfold shrZ
  rw [zN, zN, pk_shrN ha (nI k &&& 31) k (sm31 k hk), nI_toInt (Nat.lt_of_le_of_lt (Nat.div_le_self _ _) ha)]
theorem shl1 {k : Nat} (hk : k < 31) : shlZ 1 k = ((2 ^ k : Nat) : Int) := by
  have h : 2 ^ k < 2147483648 := Nat.pow_lt_pow_right (by omega) hk
  have := shlZ_nat (a := 1) (k := k) (by omega) (by omega)
  rw [Nat.one_mul] at this
  exact this
/-- is a bit set -/
theorem bit1 {a k : Nat} (ha : a < 2147483648) (hk : k < 32) : andZ (shrZ a k) 1 = if a.testBit k then 1 else 0 := by
  rw [shrZ_nat ha hk]
  have h := andZ_nat (a := a / 2 ^ k) (b := 1) (Nat.lt_of_le_of_lt (Nat.div_le_self _ _) ha)
  rw [show ((1 : Nat) : Int) = 1 from rfl] at h
  rw [h, Nat.and_one_is_mod, Nat.testBit_eq_decide_div_mod_eq]
  by_cases q : a / 2 ^ k % 2 = 1
  · simp [q]
  · rw [show a / 2 ^ k % 2 = 0 by omega]
    simp
/-- the number with just these bits below n -/
def bts (P : Nat → Bool) : Nat → Nat
  | 0 => 0
  | n + 1 => bts P n ||| (if P n then 2 ^ n else 0)
theorem bts_bit (P : Nat → Bool) : ∀ n i, (bts P n).testBit i = (decide (i < n) && P i)
  | 0, i => by simp [bts]
  | n + 1, i => by
    have ih := bts_bit P n i
    unfold bts
    rw [Nat.testBit_or, ih]
    by_cases h : i = n
    · subst h
      by_cases q : P i <;> simp [q]
    · by_cases q : P n
      · simp only [q, if_true, Nat.testBit_two_pow]
        by_cases h2 : i < n
        · simp [h2, Nat.lt_succ_of_lt h2, show ¬ n = i from fun e => h e.symm]
        · simp [h2, show ¬ i < n + 1 by omega, show ¬ n = i from fun e => h e.symm]
      · by_cases h2 : i < n
        · simp [q, h2, Nat.lt_succ_of_lt h2]
        · simp [q, h2, show ¬ i < n + 1 by omega]
theorem bts_lt (P : Nat → Bool) : ∀ n, bts P n < 2 ^ n
  | 0 => by simp [bts]
  | n + 1 => by
    have ih := bts_lt P n
    unfold bts
    refine Nat.or_lt_two_pow (Nat.lt_of_lt_of_le ih (Nat.pow_le_pow_right (by omega) (by omega))) ?_
    by_cases q : P n
    · simp only [q, if_true]
      exact Nat.pow_lt_pow_right (by omega) (by omega)
    · simp only [q]
      exact Nat.two_pow_pos _
theorem bts_small (P : Nat → Bool) {n : Nat} (h : n ≤ 12) : bts P n < 4096 := Nat.lt_of_lt_of_le (bts_lt P n) (Nat.pow_le_pow_right (n := 2) (by omega) h)
theorem bts_congr {P Q : Nat → Bool} : ∀ {n : Nat}, (∀ i, i < n → P i = Q i) → bts P n = bts Q n
  | 0, _ => rfl
  | n + 1, h => by
    have ih := bts_congr (P := P) (Q := Q) (n := n) (fun i hi => h i (by omega))
    unfold bts
    rw [ih, h n (by omega)]
theorem bts_eq {P : Nat → Bool} {n N : Nat} (h : ∀ i, N.testBit i = (decide (i < n) && P i)) : N = bts P n := Nat.eq_of_testBit_eq (fun i => by rw [h i, bts_bit])
theorem or_bit {P : Nat → Bool} {n : Nat} (hn : n < 30) : orZ (bts P n : Nat) (if P n then shlZ 1 n else 0) = (bts P (n + 1) : Nat) := by
  have h1 : bts P n < 2147483648 := Nat.lt_of_lt_of_le (bts_lt P n) (Nat.pow_le_pow_right (n := 2) (by omega) (show n ≤ 31 by omega))
  by_cases q : P n
  · rw [if_pos q, shl1 (by omega)]
    rw [orZ_nat h1 (Nat.pow_lt_pow_right (n := 31) (by omega) (by omega))]
    simp [bts, q]
  · rw [if_neg q]
    have := orZ_nat (a := bts P n) (b := 0) h1 (by omega)
    rw [show ((0 : Nat) : Int) = 0 from rfl] at this
    rw [this]
    simp [bts, q]
/-- what the reader's functions say, put together -/
theorem b01_32 {P : Prop} [Decidable P] : in32 (if P then 1 else 0) := by split <;> decide
theorem ite_b0 {P : Prop} [Decidable P] {α : Sort _} {A B : α} : (if (if P then (1 : Int) else 0) = 0 then A else B) = if P then B else A := by
  by_cases h : P <;> simp [h]
theorem ite_b1 {P : Prop} [Decidable P] {α : Sort _} {A B : α} : (if (if P then (1 : Int) else 0) = 1 then A else B) = if P then A else B := by
  by_cases h : P <;> simp [h]
theorem chk_b01 {P : Prop} [Decidable P] {E : Option Rt} : chk (in32 (if P then 1 else 0)) E = E := chk_pos b01_32
theorem chk_01 {P : Prop} [Decidable P] {E : Option Rt} : chk ((if P then (1 : Int) else 0) = 0 ∨ (if P then (1 : Int) else 0) = 1) E = E := chk_pos (by by_cases h : P <;> simp [h])
