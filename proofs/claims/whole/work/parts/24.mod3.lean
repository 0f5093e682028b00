/-! THE REFERENCE: waiting -/
theorem mulb {x y a b : Int} (h1 : 0 ≤ x) (h2 : x ≤ a) (h3 : 0 ≤ y) (h4 : y ≤ b) : 0 ≤ x * y ∧ x * y ≤ a * b :=
  ⟨Int.mul_nonneg h1 h3, Int.le_trans (Int.mul_le_mul_of_nonneg_right h2 h3) (Int.mul_le_mul_of_nonneg_left h4 (by omega))⟩
def alkA (M : St) (s t : Nat) : Nat → Bool
  | 0 => true
  | n + 1 => alkA M s t n && decide (lev M s n = lev M t n)
def alk (M : St) (s t d : Nat) : Bool := alkA M s t (d + 1)
def alb (M : St) (s d : Nat) : Nat := bts (fun t => alk M s t d) 3
def wgA (M : St) (P : Nat → Bool) : Nat → Int
  | 0 => 0
  | n + 1 => wgA M P n + (if P n then M 8 n else 0)
def wei (M : St) (s d : Nat) : Int := wgA M (fun t => alk M s t d) 3
def frA (M : St) (t d : Nat) : Nat → Bool
  | 0 => true
  | n + 1 => frA M t d n && !alk M t n d
def fir (M : St) (t d : Nat) : Bool := frA M t d t
def nxtA (M : St) (d : Nat) (w : Nat → Int) (s : Nat) : Nat → Int
  | 0 => 0
  | n + 1 => nxtA M d w s n + (if alk M s n d then (if fir M n (d + 1) then w n else 0) else 0)
def nowW (M : St) (a b s d : Nat) : Int := wei M s d * cst M s d a b
def worA (M : St) (a b : Nat) : Nat → Nat → Int
  | 0, s => nowW M a b s 29
  | r + 1, s => min (nowW M a b s (28 - r)) (M 7 6 * wei M s (28 - r) + nxtA M (28 - r) (worA M a b r) s 3)
def latW (M : St) (a b s d : Nat) : Int := M 7 6 * wei M s d + nxtA M d (worA M a b (28 - d)) s 3
def goe (M : St) (a b s d : Nat) : Bool := decide (d = 29 ∨ nowW M a b s d ≤ latW M a b s d)
theorem alkA_iff (M : St) (s t : Nat) : ∀ n, alkA M s t n = true ↔ ∀ e, e < n → lev M s e = lev M t e
  | 0 => by simp [alkA]
  | n + 1 => by
    have ih := alkA_iff M s t n
    unfold alkA
    rw [Bool.and_eq_true, ih, decide_eq_true_iff]
    constructor
    · intro ⟨h1, h2⟩ e he
      by_cases q : e = n
      · rw [q]; exact h2
      · exact h1 e (by omega)
    · intro h
      exact ⟨fun e he => h e (by omega), h n (by omega)⟩
theorem alk_iff (M : St) (s t d : Nat) : alk M s t d = true ↔ ∀ e, e ≤ d → lev M s e = lev M t e := by
  unfold alk
  rw [alkA_iff]
  exact ⟨fun h e he => h e (by omega), fun h e he => h e (by omega)⟩
theorem alk_self (M : St) (s d : Nat) : alk M s s d = true := (alk_iff M s s d).mpr fun _ _ => rfl
theorem alk_symm (M : St) (s t d : Nat) : alk M s t d = alk M t s d := by
  rw [Bool.eq_iff_iff, alk_iff, alk_iff]
  exact ⟨fun h e he => (h e he).symm, fun h e he => (h e he).symm⟩
theorem alk_of_next {M : St} {i j d : Nat} (h : alk M i j (d + 1) = true) (s : Nat) : alk M s i d = alk M s j d := by
  have h1 := (alk_iff M i j (d + 1)).mp h
  rw [Bool.eq_iff_iff, alk_iff, alk_iff]
  exact ⟨fun g e he => (g e he).trans (h1 e (by omega)), fun g e he => (g e he).trans (h1 e (by omega)).symm⟩
theorem wgA_rng {M : St} (hM : MI M) (P : Nat → Bool) : ∀ n, n ≤ 3 → 0 ≤ wgA M P n ∧ wgA M P n ≤ 99 * n
  | 0, _ => by simp [wgA]
  | n + 1, h => by
    have ih := wgA_rng hM P n (by omega)
    have hc := hM.chc (s := n) (by omega)
    unfold wgA
    split <;> omega
theorem wei_rng {M : St} (hM : MI M) {s d : Nat} : 0 ≤ wei M s d ∧ wei M s d ≤ 297 := by
  have := wgA_rng hM (fun t => alk M s t d) 3 (by omega)
  unfold wei
  omega
theorem now_rng {M : St} (hM : MI M) {a b s d : Nat} (hab : a ≤ b) (hb : b < 12) : 0 ≤ nowW M a b s d ∧ nowW M a b s d ≤ 32076 := by
  have h1 := wei_rng hM (s := s) (d := d)
  have h2 := cst_rng hM (s := s) (d := d) hab hb
  have h3 := mulb h1.1 h1.2 h2.1 h2.2
  unfold nowW
  omega
theorem nxtA_rng {M : St} {d : Nat} {w : Nat → Int} {s : Nat} {B : Int} (hw : ∀ t, t < 3 → 0 ≤ w t ∧ w t ≤ B) : ∀ n, n ≤ 3 → 0 ≤ nxtA M d w s n ∧ nxtA M d w s n ≤ B * n
  | 0, _ => by simp [nxtA]
  | n + 1, h => by
    have ih := nxtA_rng (M := M) (d := d) (s := s) hw n (by omega)
    have h1 := hw n (by omega)
    have e : B * ((n + 1 : Nat) : Int) = B * n + B := by rw [Int.natCast_add, Int.mul_add]; simp
    unfold nxtA
    rw [e]
    split
    · split <;> omega
    · omega
theorem wor_rng {M : St} (hM : MI M) {a b : Nat} (hab : a ≤ b) (hb : b < 12) : ∀ r s, 0 ≤ worA M a b r s ∧ worA M a b r s ≤ 32076
  | 0, s => now_rng hM hab hb
  | r + 1, s => by
    have h1 := now_rng hM (s := s) (d := 28 - r) hab hb
    have h2 := nxtA_rng (M := M) (d := 28 - r) (w := worA M a b r) (s := s) (B := 32076) (fun t _ => wor_rng hM hab hb r t) 3 (by omega)
    have h3 := wei_rng hM (s := s) (d := 28 - r)
    have h4 := hM.set.2.2.2.2.2
    have h5 := mulb h4.1 h4.2 h3.1 h3.2
    unfold worA
    omega
theorem lat_rng {M : St} (hM : MI M) {a b s d : Nat} (hab : a ≤ b) (hb : b < 12) : 0 ≤ latW M a b s d ∧ latW M a b s d ≤ 98901 := by
  have h2 := nxtA_rng (M := M) (d := d) (w := worA M a b (28 - d)) (s := s) (B := 32076) (fun t _ => wor_rng hM hab hb (28 - d) t) 3 (by omega)
  have h3 := wei_rng hM (s := s) (d := d)
  have h4 := hM.set.2.2.2.2.2
  have h5 := mulb h4.1 h4.2 h3.1 h3.2
  unfold latW
  omega
theorem m_alikeL2 {σ : St} (hM : MI (mv σ)) {s t d : Nat} (hs : s < 3) (ht : t < 3) (hd : d < 31) {rec5 : St → Int → Int → Int → Int → Option Rt} {v3 : Int} : ∀ (n e : Nat) (v w : Int), v = e → e ≤ d + 1 → w = (if alkA (mv σ) s t e then 1 else 0) → 40 - e < n → L_X9_alike_17 rec5 n σ s d v3 t w v = rec5 σ s d (orZ v3 (if alk (mv σ) s t d then shlZ 1 t else 0)) (t + 1)
  | 0, e, v, w, hv, h1, hw, h3 => by omega
  | n + 1, e, v, w, hv, h1, hw, h3 => by
    subst hv
    subst hw
    rw [L_X9_alike_17, S_X9_alike_17, chk_pos (by omega), chk_pos (by omega)]
    by_cases q : (d : Int) < e
    · rw [if_pos q, chk_b01, ite_b0, show e = d + 1 by omega]
      show _ = rec5 σ s d (orZ v3 (if alkA (mv σ) s t (d + 1) then shlZ 1 t else 0)) (t + 1)
      cases alkA (mv σ) s t (d + 1) <;> rfl
    · have ih := fun w hw => m_alikeL2 hM hs ht hd (rec5 := rec5) (v3 := v3) n (e + 1) (e + 1) w (by omega) (by omega) hw (by omega)
      have l1 := lev_rng (M := mv σ) (s := s) (d := e)
      have l2 := lev_rng (M := mv σ) (s := t) (d := e)
      rw [if_neg q, chk_b01, ite_b0]
      by_cases g : alkA (mv σ) s t e
      · rw [if_pos g, m_levelOf hM hs (by omega), cll_pos, m_levelOf hM ht (by omega), cll_pos, chk_pos (by omega), chk_pos (by omega)]
        by_cases z : lev (mv σ) s e = lev (mv σ) t e
        · rw [if_pos z]
          exact ih 1 (by simp [alkA, g, z])
        · rw [if_neg z]
          exact ih 0 (by simp [alkA, z])
      · rw [if_neg g]
        exact ih 0 (by simp [alkA, g])
theorem m_alikeL1 {σ : St} (hM : MI (mv σ)) {s d : Nat} (hs : s < 3) (hd : d < 31) : ∀ (n t : Nat) (v acc : Int), v = t → t ≤ 3 → acc = (bts (fun t => alk (mv σ) s t d) t : Nat) → 3 - t < n → L_X9_alike_5 n σ s d acc v = some (((alb (mv σ) s d : Nat) : Int), σ)
  | 0, t, v, acc, hv, h1, ha, h3 => by omega
  | n + 1, t, v, acc, hv, h1, ha, h3 => by
    subst hv
    subst ha
    rw [L_X9_alike_5, S_X9_alike_5, chk_pos (by omega)]
    by_cases q : 3 ≤ (t : Int)
    · rw [if_pos q, show t = 3 by omega]
      rfl
    · rw [if_neg q, m_alikeL2 hM hs (by omega) hd FU 0 0 1 rfl (by omega) rfl (by rw [FU_eq]; omega), or_bit (P := fun t => alk (mv σ) s t d) (by omega)]
      exact m_alikeL1 hM hs hd n (t + 1) (t + 1) _ (by omega) (by omega) rfl (by omega)
theorem m_alike {σ : St} (hM : MI (mv σ)) {s d : Nat} (hs : s < 3) (hd : d < 31) : f_X9_alike σ s d = some (((alb (mv σ) s d : Nat) : Int), σ) := by
  unfold f_X9_alike
  exact m_alikeL1 hM hs hd FU 0 0 0 rfl (by omega) rfl (by rw [FU_eq]; omega)
theorem m_weightL {σ : St} (hM : MI (mv σ)) {B : Nat} (hB : B < 8) : ∀ (n t : Nat) (v acc : Int), v = t → t ≤ 3 → acc = wgA (mv σ) (fun t => B.testBit t) t → 3 - t < n → L_X9_weight_5 n σ B acc v = some (wgA (mv σ) (fun t => B.testBit t) 3, σ)
  | 0, t, v, acc, hv, h1, ha, h3 => by omega
  | n + 1, t, v, acc, hv, h1, ha, h3 => by
    subst hv
    subst ha
    rw [L_X9_weight_5, S_X9_weight_5, chk_pos (by omega)]
    by_cases q : 3 ≤ (t : Int)
    · rw [if_pos q, show t = 3 by omega]
    · have ih := fun acc ha => m_weightL hM hB n (t + 1) (t + 1) acc (by omega) (by omega) ha (by omega)
      have hc := hM.chc (s := t) (by omega)
      rw [mv_8] at hc
      rw [if_neg q, m_isIn (by omega) (by omega), cll_pos, chk_b01, ite_b0, show (t : Int).toNat = t by omega]
      by_cases g : B.testBit t
      · rw [if_pos g, chk_pos (by omega), chk_pos (by omega)]
        exact ih _ (by simp [wgA, g, mv_8])
      · rw [if_neg g]
        exact ih _ (by simp [wgA, g])
theorem m_weight {σ : St} (hM : MI (mv σ)) {B : Nat} (hB : B < 8) : f_X9_weight σ B = some (wgA (mv σ) (fun t => B.testBit t) 3, σ) := by
  unfold f_X9_weight
  exact m_weightL hM hB FU 0 0 0 rfl (by omega) rfl (by rw [FU_eq]; omega)
theorem alb_lt {M : St} {s d : Nat} : alb M s d < 8 := bts_lt _ 3
theorem alb_bit {M : St} {s d t : Nat} (ht : t < 3) : (alb M s d).testBit t = alk M s t d := by
  unfold alb
  rw [bts_bit, decide_eq_true ht, Bool.true_and]
theorem wei_alb {M : St} {s d : Nat} : wgA M (fun t => (alb M s d).testBit t) 3 = wei M s d := by
  unfold wei
  simp only [wgA, alb_bit (show 0 < 3 by omega), alb_bit (show 1 < 3 by omega), alb_bit (show 2 < 3 by omega)]
theorem m_weiOf {σ : St} (hM : MI (mv σ)) {s d : Nat} : f_X9_weight σ (alb (mv σ) s d : Nat) = some (wei (mv σ) s d, σ) := by
  rw [m_weight hM alb_lt, wei_alb]
/-- the sum over cases of the next day: by those that were not yet done -/
theorem nxt3 {M : St} {s d : Nat} {w : Nat → Int} : nxtA M d w s 3 = (if alk M s 0 d then w 0 else 0) + (if alk M s 1 d then (if (!(alk M s 0 d && alk M 0 1 (d + 1))) then w 1 else 0) else 0) + (if alk M s 2 d then (if (!(alk M s 0 d && alk M 0 2 (d + 1)) && !((alk M s 1 d && !(alk M s 0 d && alk M 0 1 (d + 1))) && alk M 1 2 (d + 1))) then w 2 else 0) else 0) := by
  have e01 : alk M 1 0 (d + 1) = alk M 0 1 (d + 1) := alk_symm ..
  have e02 : alk M 2 0 (d + 1) = alk M 0 2 (d + 1) := alk_symm ..
  have e12 : alk M 2 1 (d + 1) = alk M 1 2 (d + 1) := alk_symm ..
  have c01 := fun h => alk_of_next (M := M) (i := 0) (j := 1) (d := d) h s
  have c02 := fun h => alk_of_next (M := M) (i := 0) (j := 2) (d := d) h s
  have c12 := fun h => alk_of_next (M := M) (i := 1) (j := 2) (d := d) h s
  have t1 : alk M 0 1 (d + 1) = true → alk M 0 2 (d + 1) = alk M 1 2 (d + 1) := fun h => by
    have h1 := (alk_iff M 0 1 (d + 1)).mp h
    rw [Bool.eq_iff_iff, alk_iff, alk_iff]
    exact ⟨fun g e he => (h1 e he).symm.trans (g e he), fun g e he => (h1 e he).trans (g e he)⟩
  simp only [nxtA, fir, frA, e01, e02, e12]
  revert c01 c02 c12 t1
  generalize alk M 0 1 (d + 1) = E01
  generalize alk M 0 2 (d + 1) = E02
  generalize alk M 1 2 (d + 1) = E12
  generalize alk M s 0 d = A0
  generalize alk M s 1 d = A1
  generalize alk M s 2 d = A2
  cases E01 <;> cases E02 <;> cases E12 <;> cases A0 <;> cases A1 <;> cases A2 <;> simp
theorem bit_or2 {a b : Nat} (ha : a < 8) (hb : b < 8) : orZ (a : Nat) (b : Nat) = ((a ||| b : Nat) : Int) ∧ (a ||| b) < 8 := ⟨orZ_nat (by omega) (by omega), Nat.or_lt_two_pow (n := 3) ha hb⟩
theorem m_waitingFor {σ : St} (hM : MI (mv σ)) {s d : Nat} {w : Nat → Int} (hs : s < 3) (hd : d < 29) (hw : ∀ t, t < 3 → σ 68 (3 * (d + 1) + t) = w t) : f_X9_waitingFor σ (alb (mv σ) s d : Nat) d = some (σ 65 6 * wei (mv σ) s d + nxtA (mv σ) d w s 3, σ) := by
  have hr := hM.set.2.2.2.2.2
  rw [mv_7] at hr
  unfold f_X9_waitingFor
  obtain ⟨kf, hkf⟩ : ∃ kf, FU = kf + 1 + 1 + 1 + 1 := ⟨996, rfl⟩
  rw [chk_pos (by omega), m_weiOf hM, cll_pos, hkf]
  have hb := alb_lt (M := mv σ) (s := s) (d := d)
  have h0 := alb_lt (M := mv σ) (s := 0) (d := d + 1)
  have h1 := alb_lt (M := mv σ) (s := 1) (d := d + 1)
  have a0 := m_alike hM (s := 0) (d := d + 1) (by omega) (by omega)
  have a1 := m_alike hM (s := 1) (d := d + 1) (by omega) (by omega)
  have a2 := m_alike hM (s := 2) (d := d + 1) (by omega) (by omega)
  have ed : ((d + 1 : Nat) : Int) = (d : Int) + 1 := by omega
  rw [ed] at a0 a1 a2
  rw [show ((0 : Nat) : Int) = 0 from rfl] at a0
  rw [show ((1 : Nat) : Int) = 1 from rfl] at a1
  rw [show ((2 : Nat) : Int) = 2 from rfl] at a2
  have i0 := m_isIn (σ := σ) (a := alb (mv σ) s d) (k := 0) (by omega) (by omega)
  have i1 := m_isIn (σ := σ) (a := alb (mv σ) s d) (k := 1) (by omega) (by omega)
  have i2 := m_isIn (σ := σ) (a := alb (mv σ) s d) (k := 2) (by omega) (by omega)
  rw [alb_bit (by omega)] at i0 i1 i2
  rw [show ((0 : Nat) : Int) = 0 from rfl] at i0
  rw [show ((1 : Nat) : Int) = 1 from rfl] at i1
  rw [show ((2 : Nat) : Int) = 2 from rfl] at i2
  have w0 := hw 0 (by omega)
  have w1 := hw 1 (by omega)
  have w2 := hw 2 (by omega)
  have x0 : ((3 * ((d : Int) + 1)) + 0).toNat = 3 * (d + 1) + 0 := by omega
  have x1 : ((3 * ((d : Int) + 1)) + 1).toNat = 3 * (d + 1) + 1 := by omega
  have x2 : ((3 * ((d : Int) + 1)) + 2).toNat = 3 * (d + 1) + 2 := by omega
  rw [nxt3]
  -- what is done after spring 0, after spring 1
  have st0 : ∀ acc : Int, L_X9_waitingFor_21 (kf + 1 + 1 + 1 + 1) σ (alb (mv σ) s d : Nat) d acc 0 0 = L_X9_waitingFor_21 (kf + 1 + 1 + 1) σ (alb (mv σ) s d : Nat) d (acc + (if alk (mv σ) s 0 d then w 0 else 0)) (((if alk (mv σ) s 0 d then alb (mv σ) 0 (d + 1) else 0 : Nat)) : Int) 1 := by
    intro acc
    have j0 := m_isIn (σ := σ) (a := 0) (k := 0) (by omega) (by omega)
    rw [show ((0 : Nat) : Int) = 0 from rfl] at j0
    rw [L_X9_waitingFor_21, S_X9_waitingFor_21, chk_pos (by decide), if_neg (by decide), i0, cll_pos, chk_b01, ite_b0, j0, cll_pos, chk_b01, ite_b0]
    by_cases g : alk (mv σ) s 0 d
    · have o := (bit_or2 (a := 0) (by omega) h0).1
      rw [show ((0 : Nat) : Int) = 0 from rfl, Nat.zero_or] at o
      rw [if_pos g, if_pos g, if_pos g, if_neg (by decide), chk_pos (by omega), x0, w0, a0, cll_pos, o]
      rfl
    · rw [if_neg g, if_neg g, if_neg g, Int.add_zero]
      rfl
  have st1 : ∀ (acc : Int) (D : Nat), D < 8 → L_X9_waitingFor_21 (kf + 1 + 1 + 1) σ (alb (mv σ) s d : Nat) d acc D 1 = L_X9_waitingFor_21 (kf + 1 + 1) σ (alb (mv σ) s d : Nat) d (acc + (if alk (mv σ) s 1 d then (if (!D.testBit 1) then w 1 else 0) else 0)) (((if alk (mv σ) s 1 d && !D.testBit 1 then D ||| alb (mv σ) 1 (d + 1) else D : Nat)) : Int) 2 := by
    intro acc D hD
    have j0 := m_isIn (σ := σ) (a := D) (k := 1) (by omega) (by omega)
    rw [show ((1 : Nat) : Int) = 1 from rfl] at j0
    rw [L_X9_waitingFor_21, S_X9_waitingFor_21, chk_pos (by decide), if_neg (by decide), i1, cll_pos, chk_b01, ite_b0, j0, cll_pos, chk_b01, ite_b0]
    by_cases g : alk (mv σ) s 1 d
    · rw [if_pos g, if_pos g]
      by_cases z : D.testBit 1
      · simp [z, g]
      · have o := (bit_or2 hD h1).1
        rw [if_neg z, chk_pos (by omega), x1, w1, a1, cll_pos, o]
        simp only [z, g]
        rfl
    · simp only [g]
      simp
  have st2 : ∀ (acc : Int) (D : Nat), D < 8 → L_X9_waitingFor_21 (kf + 1 + 1) σ (alb (mv σ) s d : Nat) d acc D 2 = some (acc + (if alk (mv σ) s 2 d then (if (!D.testBit 2) then w 2 else 0) else 0), σ) := by
    intro acc D hD
    have j0 := m_isIn (σ := σ) (a := D) (k := 2) (by omega) (by omega)
    rw [show ((2 : Nat) : Int) = 2 from rfl] at j0
    have en : ∀ (acc D : Int), L_X9_waitingFor_21 (kf + 1) σ (alb (mv σ) s d : Nat) d acc D 3 = some (acc, σ) := by
      intro acc D
      rw [L_X9_waitingFor_21, S_X9_waitingFor_21, chk_pos (by decide), if_pos (by decide)]
    rw [L_X9_waitingFor_21, S_X9_waitingFor_21, chk_pos (by decide), if_neg (by decide), i2, cll_pos, chk_b01, ite_b0, j0, cll_pos, chk_b01, ite_b0]
    simp only [show (2 : Int) + 1 = 3 from rfl, en]
    by_cases g : alk (mv σ) s 2 d
    · rw [if_pos g, if_pos g]
      by_cases z : D.testBit 2
      · simp [z]
      · rw [if_neg z, chk_pos (by omega), x2, w2, a2, cll_pos]
        simp [z, en]
    · simp [g]
  have hD1 : (if alk (mv σ) s 0 d then alb (mv σ) 0 (d + 1) else 0 : Nat) < 8 := by split <;> omega
  have b01 : (if alk (mv σ) s 0 d then alb (mv σ) 0 (d + 1) else 0 : Nat).testBit 1 = (alk (mv σ) s 0 d && alk (mv σ) 0 1 (d + 1)) := by
    split <;> simp_all [alb_bit]
  have b02 : (if alk (mv σ) s 0 d then alb (mv σ) 0 (d + 1) else 0 : Nat).testBit 2 = (alk (mv σ) s 0 d && alk (mv σ) 0 2 (d + 1)) := by
    split <;> simp_all [alb_bit]
  rw [st0]
  generalize (if alk (mv σ) s 0 d then alb (mv σ) 0 (d + 1) else 0 : Nat) = D1 at hD1 b01 b02 ⊢
  rw [st1 _ _ hD1, st2 _ _ (by
    split
    · exact (bit_or2 hD1 h1).2
    · exact hD1)]
  have b12 : (if (alk (mv σ) s 1 d && !D1.testBit 1) = true then D1 ||| alb (mv σ) 1 (d + 1) else D1).testBit 2 = ((alk (mv σ) s 0 d && alk (mv σ) 0 2 (d + 1)) || ((alk (mv σ) s 1 d && !(alk (mv σ) s 0 d && alk (mv σ) 0 1 (d + 1))) && alk (mv σ) 1 2 (d + 1))) := by
    rw [b01]
    split
    · rename_i z
      rw [Nat.testBit_or, b02, alb_bit (by omega), z, Bool.true_and]
    · rename_i z
      rw [b02]
      have z2 : (alk (mv σ) s 1 d && !(alk (mv σ) s 0 d && alk (mv σ) 0 1 (d + 1))) = false := by simpa using z
      rw [z2, Bool.false_and, Bool.or_false]
  rw [b12, b01, Bool.not_or]
  refine congrArg some (Prod.ext ?_ rfl)
  show _ + _ + _ + _ = _ + (_ + _ + _)
  omega
