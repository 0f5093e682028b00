/-! THE REFERENCE: contracts, signs -/
def amt (M : St) (s k : Nat) : Int := (if pos M s ≠ -1 ∧ pos M s ≤ M 11 (4 * k + 1) then M 11 (4 * k + 2) else 0) - M 11 (4 * k + 3)
def brA (M : St) (s S : Nat) : Nat → Int
  | 0 => 0
  | k + 1 => brA M s S k + (if S.testBit k then amt M s k else 0)
def thA (M : St) (S : Nat) : Nat → Bool
  | 0 => true
  | k + 1 => thA M S k && (!S.testBit k || decide (M 11 (4 * k) = 1))
def kpA (M : St) (S : Nat) : Nat → Bool
  | 0 => thA M S 8
  | s + 1 => kpA M S s && (decide (M 8 s = 0) || decide (0 ≤ brA M s S 8))
def wsA (M : St) (S : Nat) : Nat → Int
  | 0 => 0
  | s + 1 => wsA M S s + M 8 s * brA M s S 8
def nvU (M : St) (S : Nat) (u : K3) : K3 := if kpA M S 3 then (u.1 + 1, if wsA M S 3 ≤ u.2.2 then (u.2.1, u.2.2) else ((S : Int), wsA M S 3)) else u
def nvA (M : St) : Nat → K3
  | 0 => (0, 0, 0)
  | S + 1 => nvU M S (nvA M S)
theorem amt_rng {M : St} (hM : MI M) {s k : Nat} (hk : k < 8) : -99 ≤ amt M s k ∧ amt M s k ≤ 99 := by
  have h := hM.con hk
  unfold amt
  split <;> omega
theorem brA_rng {M : St} (hM : MI M) {s S : Nat} : ∀ k : Nat, k ≤ 8 → -99 * (k : Int) ≤ brA M s S k ∧ brA M s S k ≤ 99 * k
  | 0, _ => by simp [brA]
  | k + 1, h => by
    have ih := brA_rng hM (s := s) (S := S) k (by omega)
    have ha := amt_rng hM (s := s) (k := k) (by omega)
    unfold brA
    split <;> omega
theorem mulb2 {x y a b : Int} (h1 : 0 ≤ x) (h2 : x ≤ a) (h3 : -b ≤ y) (h4 : y ≤ b) : -(a * b) ≤ x * y ∧ x * y ≤ a * b := by
  have hb : 0 ≤ b := by omega
  constructor
  · have e1 : x * (-b) ≤ x * y := Int.mul_le_mul_of_nonneg_left h3 h1
    have e2 : x * b ≤ a * b := Int.mul_le_mul_of_nonneg_right h2 hb
    rw [Int.mul_neg] at e1
    omega
  · exact Int.le_trans (Int.mul_le_mul_of_nonneg_left h4 h1) (Int.mul_le_mul_of_nonneg_right h2 hb)
theorem wsA_rng {M : St} (hM : MI M) {S : Nat} : ∀ s : Nat, s ≤ 3 → -78408 * (s : Int) ≤ wsA M S s ∧ wsA M S s ≤ 78408 * s
  | 0, _ => by simp [wsA]
  | s + 1, h => by
    have ih := wsA_rng hM (S := S) s (by omega)
    have hc := hM.chc (s := s) (by omega)
    have hb := brA_rng hM (s := s) (S := S) 8 (by omega)
    have hm := mulb2 (y := brA M s S 8) hc.1 hc.2 (b := 792) (by omega) (by omega)
    unfold wsA
    omega
theorem nvA_rng {M : St} (hM : MI M) : ∀ S, (0 ≤ (nvA M S).1 ∧ (nvA M S).1 ≤ S) ∧ (0 ≤ (nvA M S).2.1 ∧ (nvA M S).2.1 ≤ S) ∧ (0 ≤ (nvA M S).2.2 ∧ (nvA M S).2.2 ≤ 235224)
  | 0 => by simp [nvA]
  | S + 1 => by
    have ih := nvA_rng hM S
    have hw := wsA_rng hM (S := S) 3 (by omega)
    unfold nvA nvU
    split
    · split
      · dsimp only
        omega
      · dsimp only
        omega
    · omega
theorem m_bringsL {σ : St} (hM : MI (mv σ)) {s S : Nat} (hS : S < 256) : ∀ (n k : Nat) (v acc : Int), v = k → k ≤ 8 → acc = brA (mv σ) s S k → 8 - k < n → L_X9_brings_12 n σ S (pos (mv σ) s) acc v = some (brA (mv σ) s S 8, σ)
  | 0, k, v, acc, hv, h1, ha, h3 => by omega
  | n + 1, k, v, acc, hv, h1, ha, h3 => by
    subst hv
    subst ha
    have hp := pos_rng hM (s := s)
    have hs := hM.set.1
    rw [L_X9_brings_12, S_X9_brings_12, chk_pos (by omega)]
    by_cases q : 8 ≤ (k : Int)
    · rw [if_pos q, show k = 8 by omega]
    · have ih := fun acc ha => m_bringsL hM (s := s) hS n (k + 1) (k + 1) acc (by omega) (by omega) ha (by omega)
      have hc := hM.con (k := k) (by omega)
      rw [mv_11, mv_11, mv_11, mv_11] at hc
      have e1 : (4 * (k : Int) + 1).toNat = 4 * k + 1 := by omega
      have e2 : (4 * (k : Int) + 2).toNat = 4 * k + 2 := by omega
      have e3 : (4 * (k : Int) + 3).toNat = 4 * k + 3 := by omega
      rw [if_neg q, m_isIn (by omega) (by omega), cll_pos, chk_b01, ite_b0]
      by_cases g : S.testBit k
      · rw [if_pos g, chk_pos (by omega)]
        have am : amt (mv σ) s k = (if pos (mv σ) s ≠ -1 ∧ pos (mv σ) s ≤ σ 69 (4 * k + 1) then σ 69 (4 * k + 2) else 0) - σ 69 (4 * k + 3) := rfl
        have st : brA (mv σ) s S (k + 1) = brA (mv σ) s S k + amt (mv σ) s k := by rw [brA, if_pos g]
        by_cases z : pos (mv σ) s = -1
        · rw [if_pos z, B_X9_brings_65, chk_pos (by omega), e3]
          exact ih _ (by rw [st, am, if_neg (fun h => h.1 z)]; omega)
        · rw [if_neg z, chk_pos (by omega), e1, chk_pos (by omega)]
          by_cases y : σ 69 (4 * k + 1) < pos (mv σ) s
          · rw [if_pos y, B_X9_brings_65, chk_pos (by omega), e3]
            exact ih _ (by rw [st, am, if_neg (fun h => by omega)]; omega)
          · rw [if_neg y, chk_pos (by omega), e2, B_X9_brings_65, chk_pos (by omega), e3]
            exact ih _ (by rw [st, am, if_pos ⟨z, by omega⟩]; omega)
      · rw [if_neg g]
        exact ih _ (by rw [brA, if_neg g]; omega)
theorem m_brings {σ : St} (hM : MI (mv σ)) {s S : Nat} (hs : s < 3) (hS : S < 256) : f_X9_brings σ S s = some (brA (mv σ) s S 8, σ) := by
  unfold f_X9_brings
  rw [m_possessionOf hM hs, cll_pos]
  exact m_bringsL hM hS FU 0 0 0 rfl (by omega) rfl (by rw [FU_eq]; omega)
theorem m_thereL {σ : St} (hM : MI (mv σ)) {S : Nat} (hS : S < 256) : ∀ (n k : Nat) (v w : Int), v = k → k ≤ 8 → w = (if thA (mv σ) S k then 1 else 0) → 8 - k < n → L_X9_areThere_4 n σ S w v = some (if thA (mv σ) S 8 then 1 else 0, σ)
  | 0, k, v, w, hv, h1, ha, h3 => by omega
  | n + 1, k, v, w, hv, h1, ha, h3 => by
    subst hv
    subst ha
    rw [L_X9_areThere_4, S_X9_areThere_4, chk_pos (by omega)]
    by_cases q : 8 ≤ (k : Int)
    · rw [if_pos q, chk_01, show k = 8 by omega]
    · have ih := fun w hw => m_thereL hM hS n (k + 1) (k + 1) w (by omega) (by omega) hw (by omega)
      have hc := hM.con (k := k) (by omega)
      rw [mv_11] at hc
      rw [if_neg q, chk_b01, ite_b0]
      by_cases g : thA (mv σ) S k
      · rw [if_pos g, m_isIn (by omega) (by omega), cll_pos, chk_b01, ite_b0]
        by_cases z : S.testBit k
        · rw [if_pos z, chk_pos (by omega), show (4 * (k : Int)).toNat = 4 * k by omega, chk_pos (by omega)]
          by_cases y : σ 69 (4 * k) = 1
          · rw [if_pos y]
            exact ih 1 (by simp [thA, g, mv_11, y])
          · rw [if_neg y]
            exact ih 0 (by simp [thA, z, mv_11, y])
        · rw [if_neg z]
          exact ih 1 (by simp [thA, g, z])
      · rw [if_neg g]
        exact ih 0 (by simp [thA, g])
theorem m_areThere {σ : St} (hM : MI (mv σ)) {S : Nat} (hS : S < 256) : f_X9_areThere σ S = some (if thA (mv σ) S 8 then 1 else 0, σ) := by
  unfold f_X9_areThere
  exact m_thereL hM hS FU 0 0 1 rfl (by omega) rfl (by rw [FU_eq]; omega)
def FN (σ' σ : St) : Prop := (∀ k, k ≠ 58 → σ' k = σ k) ∧ (∀ j, j ≠ 14 → j ≠ 15 → j ≠ 16 → σ' 58 j = σ 58 j)
theorem FN.rf (σ : St) : FN σ σ := ⟨fun _ _ => rfl, fun _ _ _ _ => rfl⟩
theorem FN.tr {a b c : St} (h1 : FN a b) (h2 : FN b c) : FN a c := ⟨fun k q => (h1.1 k q).trans (h2.1 k q), fun j q1 q2 q3 => (h1.2 j q1 q2 q3).trans (h2.2 j q1 q2 q3)⟩
theorem FN.mv {σ' σ : St} (h : FN σ' σ) : mv σ' = mv σ :=
  mv_congr (h.1 59 (by decide)) (h.1 60 (by decide)) (h.1 61 (by decide)) (h.1 63 (by decide)) (h.1 64 (by decide)) (h.1 65 (by decide)) (h.1 66 (by decide)) (h.1 69 (by decide)) (h.1 70 (by decide)) (h.2 4 (by decide) (by decide) (by decide)) (h.2 9 (by decide) (by decide) (by decide)) (h.2 17 (by decide) (by decide) (by decide)) (fun j _ => by rw [h.1 67 (by decide)])
theorem FN.qm {σ' σ : St} (h : FN σ' σ) : QM σ' σ := ⟨fun k hk => h.1 k (by omega), h.mv, fun g => by unfold GN; rw [h.2 12 (by decide) (by decide) (by decide)]; exact g⟩
theorem FN.su {σ : St} {j : Nat} {x : Int} (h : j = 14 ∨ j = 15 ∨ j = 16) : FN (su σ 58 j x) σ := by
  refine ⟨fun k hk => su_ne k hk, fun i h1 h2 h3 => ?_⟩
  rw [su_eq, if_neg (by omega)]
/-- the three numbers of the search -/
def nv3 (σ : St) : K3 := (σ 58 14, σ 58 15, σ 58 16)
theorem m_nv129 {σ : St} {S : Nat} {x t : Int} {rec17 : St → Int → Option Rt} (hx : -1000000 ≤ x ∧ x ≤ 1000000) (h16 : 0 ≤ σ 58 16 ∧ σ 58 16 ≤ 1000000) :
    ∃ σ', B_X9_findNever_129 rec17 σ S x t = rec17 σ' (S + 1) ∧ FN σ' σ ∧ nv3 σ' = (σ 58 14, t, if x ≤ σ 58 16 then σ 58 16 else x) := by
  have e16 : su σ 58 15 t 58 16 = σ 58 16 := by rw [su_eq, if_neg (by decide)]
  unfold B_X9_findNever_129
  rw [e16, chk_pos (by omega), chk_pos (by omega)]
  by_cases q : x ≤ σ 58 16
  · rw [if_pos q]
    refine ⟨_, rfl, (FN.su (by decide)).tr (FN.su (by decide)), ?_⟩
    rw [if_pos q]
    unfold nv3
    simp [su]
  · rw [if_neg q]
    refine ⟨_, rfl, (FN.su (by decide)).tr (FN.su (by decide)), ?_⟩
    rw [if_neg q]
    unfold nv3
    simp [su]
theorem m_neverL2 {M : St} (hM : MI M) {S : Nat} (hS : S < 256) {rec17 : St → Int → Option Rt} {σ : St} (hm : mv σ = M) (h3 : nv3 σ = nvA M S) : ∀ (n s : Nat) (v w acc : Int), v = s → s ≤ 3 → w = (if kpA M S s then 1 else 0) → acc = wsA M S s → 3 - s < n →
    ∃ σ', L_X9_findNever_35 rec17 n σ S w acc v = rec17 σ' (S + 1) ∧ FN σ' σ ∧ nv3 σ' = nvA M (S + 1)
  | 0, s, v, w, acc, hv, h1, hw, ha, hn => by omega
  | n + 1, s, v, w, acc, hv, h1, hw, ha, hn => by
    subst hv
    subst hw
    subst ha
    have hM' : MI (mv σ) := by rw [hm]; exact hM
    have hn1 := nvA_rng hM S
    have hws := wsA_rng hM (S := S) 3 (by omega)
    have g14 : σ 58 14 = (nvA M S).1 := congrArg Prod.fst h3
    have g15 : σ 58 15 = (nvA M S).2.1 := congrArg (fun u => u.2.1) h3
    have g16 : σ 58 16 = (nvA M S).2.2 := congrArg (fun u => u.2.2) h3
    rw [L_X9_findNever_35, S_X9_findNever_35, chk_pos (by omega)]
    by_cases q : 3 ≤ (s : Int)
    · have e3 : s = 3 := by omega
      subst e3
      rw [if_pos q, chk_b01, ite_b0]
      by_cases g : kpA M S 3
      · have e16 : su σ 58 14 (σ 58 14 + 1) 58 16 = σ 58 16 := by rw [su_eq, if_neg (by decide)]
        have e15 : su σ 58 14 (σ 58 14 + 1) 58 15 = σ 58 15 := by rw [su_eq, if_neg (by decide)]
        have e14 : su σ 58 14 (σ 58 14 + 1) 58 14 = σ 58 14 + 1 := by rw [su_eq, if_pos rfl]
        rw [if_pos g, e16, e15, chk_pos (by omega), chk_pos (by omega)]
        by_cases z : wsA M S 3 ≤ σ 58 16
        · obtain ⟨σ', k1, k2, k3⟩ := m_nv129 (σ := su σ 58 14 (σ 58 14 + 1)) (S := S) (x := wsA M S 3) (t := σ 58 15) (rec17 := rec17) (by omega) (by rw [e16]; omega)
          rw [if_pos z, k1]
          refine ⟨σ', rfl, k2.tr (FN.su (by decide)), ?_⟩
          rw [k3, e14, e16, if_pos z, nvA, nvU, if_pos g, if_pos (by omega), g14, g15, g16]
        · obtain ⟨σ', k1, k2, k3⟩ := m_nv129 (σ := su σ 58 14 (σ 58 14 + 1)) (S := S) (x := wsA M S 3) (t := S) (rec17 := rec17) (by omega) (by rw [e16]; omega)
          rw [if_neg z, k1]
          refine ⟨σ', rfl, k2.tr (FN.su (by decide)), ?_⟩
          rw [k3, e14, e16, if_neg z, nvA, nvU, if_pos g, if_neg (by omega), g14]
      · rw [if_neg g]
        refine ⟨σ, rfl, FN.rf σ, ?_⟩
        rw [h3, nvA, nvU, if_neg g]
    · have hc := hM'.chc (s := s) (by omega)
      have hb := brA_rng hM (s := s) (S := S) 8 (by omega)
      have hbr := m_brings hM' (s := s) (S := S) (by omega) hS
      rw [hm] at hbr
      rw [mv_8] at hc
      have e8 : σ 66 s = M 8 s := by rw [← hm]; rfl
      have e0 : (s : Int).toNat = s := by omega
      have nx : ∀ w : Int, w = (if kpA M S (s + 1) then 1 else 0) → ∃ σ', B_X9_findNever_70 rec17 (L_X9_findNever_35 rec17 n) σ S (wsA M S s) s w = rec17 σ' (S + 1) ∧ FN σ' σ ∧ nv3 σ' = nvA M (S + 1) := by
        intro w hw
        unfold B_X9_findNever_70
        rw [chk_pos (by omega), e0, chk_pos (by omega), hbr, cll_pos, chk_pos (by omega)]
        exact m_neverL2 hM hS hm h3 n (s + 1) _ w _ (by omega) (by omega) hw (by rw [wsA, e8]) (by omega)
      rw [if_neg q, chk_b01, ite_b0]
      by_cases g : kpA M S s
      · rw [if_pos g, chk_pos (by omega), e0, chk_pos (by omega)]
        by_cases z : σ 66 s = 0
        · rw [if_pos z]
          exact nx 1 (by rw [kpA, g, ← e8, z]; rfl)
        · rw [if_neg z, hbr, cll_pos, chk_pos (by omega)]
          by_cases y : brA M s S 8 < 0
          · rw [if_pos y]
            exact nx 0 (by rw [kpA, ← e8, decide_eq_false z, decide_eq_false (by omega)]; simp)
          · rw [if_neg y]
            exact nx 1 (by rw [kpA, g, decide_eq_true (show 0 ≤ brA M s S 8 by omega)]; simp)
      · rw [if_neg g]
        exact nx 0 (by simp [kpA, g])
theorem m_neverL1 {M : St} (hM : MI M) : ∀ (n S : Nat) (σ : St) (v : Int), mv σ = M → nv3 σ = nvA M S → v = S → S ≤ 256 → 256 - S < n → ∃ σ', L_X9_findNever_17 n σ v = some (0, σ') ∧ FN σ' σ ∧ nv3 σ' = nvA M 256
  | 0, S, σ, v, hm, h3, hv, h1, hn => by omega
  | n + 1, S, σ, v, hm, h3, hv, h1, hn => by
    subst hv
    rw [L_X9_findNever_17, S_X9_findNever_17, chk_pos (by omega)]
    by_cases q : 256 ≤ (S : Int)
    · rw [if_pos q]
      have e : S = 256 := by omega
      subst e
      exact ⟨σ, rfl, FN.rf σ, h3⟩
    · have hM' : MI (mv σ) := by rw [hm]; exact hM
      rw [if_neg q, m_areThere hM' (by omega), cll_pos]
      obtain ⟨σ1, k1, k2, k3⟩ := m_neverL2 hM (S := S) (by omega) (rec17 := L_X9_findNever_17 n) hm h3 FU 0 0 (if thA (mv σ) S 8 then 1 else 0) 0 rfl (by omega) (by rw [hm]; rfl) rfl (by rw [FU_eq]; omega)
      rw [k1]
      obtain ⟨σ2, j1, j2, j3⟩ := m_neverL1 hM n (S + 1) σ1 (S + 1) (k2.mv.trans hm) k3 (by omega) (by omega) (by omega)
      exact ⟨σ2, j1, j2.tr k2, j3⟩
theorem m_findNever {σ : St} (hM : MI (mv σ)) : ∃ σ', f_X9_findNever σ = some (0, σ') ∧ FN σ' σ ∧ nv3 σ' = nvA (mv σ) 256 := by
  unfold f_X9_findNever
  have F : FN (su (su (su σ 58 14 0) 58 15 0) 58 16 0) σ := (FN.su (by decide)).tr ((FN.su (by decide)).tr (FN.su (by decide)))
  obtain ⟨σ', k1, k2, k3⟩ := m_neverL1 hM FU 0 (su (su (su σ 58 14 0) 58 15 0) 58 16 0) 0 F.mv (by unfold nv3; simp [su, nvA]) rfl (by omega) (by rw [FU_eq]; omega)
  exact ⟨σ', k1, k2.tr F, k3⟩
def nev (M : St) (w : Int) : Int := if w = 0 then (nvA M 256).1 else (nvA M 256).2.1
theorem m_neverOf {σ : St} (hM : MI (mv σ)) {w : Int} (hw : in32 w) : ∃ σ', f_X9_neverOf σ w = some (nev (mv σ) w, σ') ∧ QM σ' σ := by
  obtain ⟨σ', k1, k2, k3⟩ := m_findNever hM
  unfold f_X9_neverOf nev
  have g14 : σ' 58 14 = (nvA (mv σ) 256).1 := congrArg Prod.fst k3
  have g15 : σ' 58 15 = (nvA (mv σ) 256).2.1 := congrArg (fun u => u.2.1) k3
  rw [k1, cll_pos, chk_pos hw, g14, g15]
  refine ⟨σ', ?_, k2.qm⟩
  split <;> rfl
def allw (M : St) : Int := wgA M (fun _ => true) 3
theorem m_weight7 {σ : St} (hM : MI (mv σ)) : f_X9_weight σ 7 = some (allw (mv σ), σ) := by
  have h := m_weight hM (B := 7) (by omega)
  rw [show ((7 : Nat) : Int) = 7 from rfl] at h
  rw [h]
  rfl
theorem allw_rng {M : St} (hM : MI M) : 0 ≤ allw M ∧ allw M ≤ 297 := by
  have := wgA_rng hM (fun _ => true) 3 (by omega)
  unfold allw
  omega
def gai (M : St) (w : Int) : Int := if allw M = 0 then w else prt (nvA M 256).2.2.toNat (allw M).toNat w
theorem m_gainOf {σ : St} (hM : MI (mv σ)) {w : Int} (hw : in32 w) : ∃ σ', f_X9_gainOf σ w = some (gai (mv σ) w, σ') ∧ QM σ' σ := by
  obtain ⟨σ', k1, k2, k3⟩ := m_findNever hM
  have hn := (nvA_rng hM 256).2.2
  have ha := allw_rng hM
  have g16 : σ' 58 16 = (nvA (mv σ) 256).2.2 := congrArg (fun u => u.2.2) k3
  have hw7 := m_weight7 (σ := σ') (by rw [k2.mv]; exact hM)
  rw [k2.mv] at hw7
  unfold f_X9_gainOf gai
  rw [k1, cll_pos, hw7, cll_pos, chk_pos (by omega)]
  by_cases q : allw (mv σ) = 0
  · rw [if_pos q, if_pos q, chk_pos hw]
    exact ⟨σ', rfl, k2.qm⟩
  · rw [if_neg q, if_neg q, g16]
    have e1 : (nvA (mv σ) 256).2.2 = ((((nvA (mv σ) 256).2.2).toNat : Nat) : Int) := by omega
    have e2 : allw (mv σ) = (((allw (mv σ)).toNat : Nat) : Int) := by omega
    have h := m_part (σ := σ') (x := ((nvA (mv σ) 256).2.2).toNat) (y := (allw (mv σ)).toNat) (w := w) (by omega) (by omega) (by omega) hw
    rw [← e1, ← e2] at h
    rw [h, cll_pos]
    exact ⟨σ', rfl, k2.qm⟩
/-- kinds of levels -/
def kbA (M : St) (d : Nat) : Nat → Nat
  | 0 => 0
  | n + 1 => kbA M d n ||| (if 0 < M 8 n then 2 ^ (lev M n d).toNat else 0)
def pcn (N : Nat) : Int := cntA (fun i => N.testBit i) 12
def knd (M : St) (d : Nat) : Int := pcn (kbA M d 3)
theorem kbA_lt (M : St) (d : Nat) : ∀ n, kbA M d n < 1024
  | 0 => by simp [kbA]
  | n + 1 => by
    have ih := kbA_lt M d n
    have hl := lev_rng (M := M) (s := n) (d := d)
    unfold kbA
    refine Nat.or_lt_two_pow (n := 10) ih ?_
    split
    · exact Nat.pow_lt_pow_right (by omega) (by omega)
    · omega
theorem pcn_rng (N : Nat) : 0 ≤ pcn N ∧ pcn N ≤ 12 := cntA_rng _ 12
set_option maxRecDepth 100000 in
theorem kern : ∀ N, N < 1024 → N ≠ 0 → pcn (N &&& (N - 1)) + 1 = pcn N ∧ N &&& (N - 1) < N := by decide +kernel
theorem m_kindsL2 {σ : St} : ∀ (n N : Nat) (acc : Int), N < 1024 → pcn N < n → L_X9_kinds_44 n σ acc N = some (acc + pcn N, σ)
  | 0, N, acc, h1, hn => by
    have := pcn_rng N
    omega
  | n + 1, N, acc, h1, hn => by
    rw [L_X9_kinds_44, S_X9_kinds_44, chk_pos (by omega)]
    by_cases q : N = 0
    · subst q
      rw [if_pos (by rfl), show pcn 0 = 0 from by decide, Int.add_zero]
    · have hk := kern N h1 q
      have e : ((N : Int) - 1) = ((N - 1 : Nat) : Int) := by omega
      rw [if_neg (by omega), e, andZ_nat (by omega), m_kindsL2 n _ _ (by omega) (by omega)]
      refine congrArg some (Prod.ext ?_ rfl)
      show acc + 1 + _ = acc + _
      omega
theorem m_kindsL1 {σ : St} (hM : MI (mv σ)) {d : Nat} (hd : d < 30) : ∀ (n s : Nat) (v acc : Int), v = s → s ≤ 3 → acc = (kbA (mv σ) d s : Nat) → 3 - s < n → L_X9_kinds_4 n σ d acc v = some (knd (mv σ) d, σ)
  | 0, s, v, acc, hv, h1, ha, h3 => by omega
  | n + 1, s, v, acc, hv, h1, ha, h3 => by
    subst hv
    subst ha
    have hk := kbA_lt (mv σ) d
    rw [L_X9_kinds_4, S_X9_kinds_4, chk_pos (by omega)]
    by_cases q : 3 ≤ (s : Int)
    · have e : s = 3 := by omega
      subst e
      have hp := pcn_rng (kbA (mv σ) d 3)
      rw [if_pos q, m_kindsL2 FU _ _ (hk 3) (by rw [FU_eq]; omega)]
      unfold knd
      rw [Int.zero_add]
    · have hc := hM.chc (s := s) (by omega)
      rw [mv_8] at hc
      have hl := lev_rng (M := mv σ) (s := s) (d := d)
      have ih := fun acc ha => m_kindsL1 hM hd n (s + 1) (s + 1) acc (by omega) (by omega) ha (by omega)
      have hks := hk s
      rw [if_neg q, chk_pos (by omega), show (s : Int).toNat = s by omega, chk_pos (by omega)]
      by_cases z : σ 66 s ≤ 0
      · have o := orZ_nat (a := kbA (mv σ) d s) (b := 0) (by omega) (by omega)
        rw [show ((0 : Nat) : Int) = 0 from rfl] at o
        rw [if_pos z, o]
        exact ih _ (by rw [kbA, if_neg (by rw [mv_8]; omega)])
      · have e : lev (mv σ) s d = (((lev (mv σ) s d).toNat : Nat) : Int) := by omega
        have hp : 2 ^ (lev (mv σ) s d).toNat < 2147483648 := Nat.pow_lt_pow_right (n := 31) (by omega) (by omega)
        have sh := shl1 (k := (lev (mv σ) s d).toNat) (by omega)
        rw [← e] at sh
        rw [if_neg z, m_levelOf hM (by omega) (by omega), cll_pos, sh, orZ_nat (by omega) hp]
        exact ih _ (by rw [kbA, if_pos (by rw [mv_8]; omega)])
theorem m_kinds {σ : St} (hM : MI (mv σ)) {d : Nat} (hd : d < 30) : f_X9_kinds σ d = some (knd (mv σ) d, σ) := by
  unfold f_X9_kinds
  exact m_kindsL1 hM hd FU 0 0 0 rfl (by omega) rfl (by rw [FU_eq]; omega)
theorem knd_rng {M : St} {d : Nat} : 0 ≤ knd M d ∧ knd M d ≤ 12 := pcn_rng _
def wcA (M : St) : Nat → Nat
  | 0 => 0
  | d + 1 => if knd M d ≤ knd M (wcA M d) then wcA M d else d
theorem wcA_lt (M : St) : ∀ d, wcA M d = 0 ∨ wcA M d < d
  | 0 => Or.inl rfl
  | d + 1 => by
    have ih := wcA_lt M d
    unfold wcA
    split <;> omega
theorem m_watchL {σ : St} (hM : MI (mv σ)) : ∀ (n d : Nat) (v w : Int), v = d → 1 ≤ d → d ≤ 30 → w = (wcA (mv σ) d : Nat) → 30 - d < n → L_X9_watchNow_4 n σ w v = some (((wcA (mv σ) 30 : Nat) : Int), σ)
  | 0, d, v, w, hv, h0, h1, hw, hn => by omega
  | n + 1, d, v, w, hv, h0, h1, hw, hn => by
    subst hv
    subst hw
    have hl := wcA_lt (mv σ) d
    rw [L_X9_watchNow_4, S_X9_watchNow_4, chk_pos (by omega)]
    by_cases q : 30 ≤ (d : Int)
    · rw [if_pos q, show d = 30 by omega]
    · have ih := fun w hw => m_watchL hM n (d + 1) (d + 1) w (by omega) (by omega) (by omega) hw (by omega)
      have r1 := knd_rng (M := mv σ) (d := d)
      have r2 := knd_rng (M := mv σ) (d := wcA (mv σ) d)
      rw [if_neg q, m_kinds hM (by omega), cll_pos, m_kinds hM (by omega), cll_pos, chk_pos (by omega), chk_pos (by omega)]
      by_cases z : knd (mv σ) d ≤ knd (mv σ) (wcA (mv σ) d)
      · rw [if_pos z]
        exact ih _ (by rw [wcA, if_pos z])
      · rw [if_neg z]
        exact ih _ (by rw [wcA, if_neg z])
theorem m_watchNow {σ : St} (hM : MI (mv σ)) : f_X9_watchNow σ = some (((wcA (mv σ) 30 : Nat) : Int), σ) := by
  unfold f_X9_watchNow
  exact m_watchL hM FU 1 1 0 rfl (by omega) (by omega) (by simp [wcA]) (by rw [FU_eq]; omega)
def ftA (M : St) (s : Nat) : Nat → Bool
  | 0 => true
  | f + 1 => ftA M s f && (decide (yds M ≤ M 12 (3 * f + 1)) || (wet M s (M 12 (3 * f)).toNat (M 12 (3 * f + 1)).toNat == decide (M 12 (3 * f + 2) = 1)))
def fitB (M : St) : Nat := bts (fun s => ftA M s (M 0 17).toNat) 3
theorem m_fitL2 {σ : St} (hM : MI (mv σ)) {s : Nat} (hs : s < 3) {rec4 : St → Int → Int → Option Rt} {v1 : Int} : ∀ (n f : Nat) (v w : Int), v = f → (f : Int) ≤ σ 58 17 → w = (if ftA (mv σ) s f then 1 else 0) → 10 - f < n → L_X9_fitNow_14 rec4 n σ v1 s w v = rec4 σ (orZ v1 (if ftA (mv σ) s (σ 58 17).toNat then shlZ 1 s else 0)) (s + 1)
  | 0, f, v, w, hv, h1, hw, hn => by
    have := hM.fas
    rw [mv_0f] at this
    omega
  | n + 1, f, v, w, hv, h1, hw, hn => by
    subst hv
    subst hw
    have hf := hM.fas
    rw [mv_0f] at hf
    have hy := yds_rng hM
    rw [L_X9_fitNow_14, S_X9_fitNow_14, chk_pos (by omega), chk_pos (by omega)]
    by_cases q : σ 58 17 ≤ f
    · rw [if_pos q, chk_b01, ite_b0, show (σ 58 17).toNat = f by omega]
      split <;> rfl
    · have ih := fun w hw => m_fitL2 hM hs (rec4 := rec4) (v1 := v1) n (f + 1) (f + 1) w (by omega) (by omega) hw (by omega)
      have hc := hM.fac (k := f) (by omega)
      rw [mv_12, mv_12, mv_12] at hc
      have e0 : (3 * (f : Int)).toNat = 3 * f := by omega
      have e1 : (3 * (f : Int) + 1).toNat = 3 * f + 1 := by omega
      have e2 : (3 * (f : Int) + 2).toNat = 3 * f + 2 := by omega
      rw [if_neg q, chk_pos (by omega), chk_b01, ite_b0]
      by_cases g : ftA (mv σ) s f
      · rw [if_pos g, m_yards hM, cll_pos, e1, chk_pos (by omega), chk_pos (by omega)]
        by_cases z : yds (mv σ) ≤ σ 70 (3 * f + 1)
        · rw [if_pos z]
          exact ih 1 (by simp [ftA, g, mv_12, z])
        · have w0 : σ 70 (3 * f) = (((σ 70 (3 * f)).toNat : Nat) : Int) := by omega
          have w1 : σ 70 (3 * f + 1) = (((σ 70 (3 * f + 1)).toNat : Nat) : Int) := by omega
          have hw := m_isWet hM hs (d := (σ 70 (3 * f)).toNat) (y := (σ 70 (3 * f + 1)).toNat) (by omega) (by omega)
          rw [← w0, ← w1] at hw
          rw [if_neg z, chk_pos (by omega), e0, hw, cll_pos, chk_pos (by omega), e2, chk_pos (by omega)]
          have st : ftA (mv σ) s (f + 1) = (wet (mv σ) s (σ 70 (3 * f)).toNat (σ 70 (3 * f + 1)).toNat == decide (σ 70 (3 * f + 2) = 1)) := by
            rw [ftA, g, mv_12, mv_12, mv_12, decide_eq_false z]
            simp
          unfold B_X9_fitNow_85
          by_cases y : σ 70 (3 * f + 2) = 1
          · rw [if_pos y, chk_b01, chk_pos (by decide), ite_b1]
            split
            · rename_i x
              exact ih 1 (by rw [st, x, decide_eq_true y]; rfl)
            · rename_i x
              have x2 : wet (mv σ) s (σ 70 (3 * f)).toNat (σ 70 (3 * f + 1)).toNat = false := by simpa using x
              exact ih 0 (by rw [st, x2, decide_eq_true y]; rfl)
          · rw [if_neg y, chk_b01, chk_pos (by decide), ite_b0]
            split
            · rename_i x
              exact ih 0 (by rw [st, x, decide_eq_false y]; rfl)
            · rename_i x
              have x2 : wet (mv σ) s (σ 70 (3 * f)).toNat (σ 70 (3 * f + 1)).toNat = false := by simpa using x
              exact ih 1 (by rw [st, x2, decide_eq_false y]; rfl)
      · rw [if_neg g]
        exact ih 0 (by simp [ftA, g])
theorem m_fitL1 {σ : St} (hM : MI (mv σ)) : ∀ (n s : Nat) (v acc : Int), v = s → s ≤ 3 → acc = (bts (fun s => ftA (mv σ) s (σ 58 17).toNat) s : Nat) → 3 - s < n → L_X9_fitNow_4 n σ acc v = some (((fitB (mv σ) : Nat) : Int), σ)
  | 0, s, v, acc, hv, h1, ha, hn => by omega
  | n + 1, s, v, acc, hv, h1, ha, hn => by
    subst hv
    subst ha
    have hf := hM.fas
    rw [mv_0f] at hf
    rw [L_X9_fitNow_4, S_X9_fitNow_4, chk_pos (by omega)]
    by_cases q : 3 ≤ (s : Int)
    · rw [if_pos q, show s = 3 by omega]
      rfl
    · rw [if_neg q, m_fitL2 hM (by omega) FU 0 0 1 rfl (by omega) rfl (by rw [FU_eq]; omega), or_bit (P := fun s => ftA (mv σ) s (σ 58 17).toNat) (by omega)]
      exact m_fitL1 hM n (s + 1) (s + 1) _ (by omega) (by omega) rfl (by omega)
theorem m_fitNow {σ : St} (hM : MI (mv σ)) : f_X9_fitNow σ = some (((fitB (mv σ) : Nat) : Int), σ) := by
  unfold f_X9_fitNow
  exact m_fitL1 hM FU 0 0 0 rfl (by omega) rfl (by rw [FU_eq]; omega)
def cnA (M : St) : Nat → Int
  | 0 => 0
  | k + 1 => cnA M k + M 11 (4 * k)
theorem m_countL {σ : St} (hM : MI (mv σ)) : ∀ (n k : Nat) (v acc : Int), v = k → k ≤ 8 → acc = cnA (mv σ) k → 8 - k < n → L_X9_count_72 n σ acc v = some (cnA (mv σ) 8, σ)
  | 0, k, v, acc, hv, h1, ha, hn => by omega
  | n + 1, k, v, acc, hv, h1, ha, hn => by
    subst hv
    subst ha
    rw [L_X9_count_72, S_X9_count_72, chk_pos (by omega)]
    by_cases q : 8 ≤ (k : Int)
    · rw [if_pos q, show k = 8 by omega]
    · rw [if_neg q, chk_pos (by omega), show (4 * (k : Int)).toNat = 4 * k by omega]
      exact m_countL hM n (k + 1) (k + 1) _ (by omega) (by omega) (by rw [cnA, mv_11]) (by omega)
def cou (M : St) (w : Int) : Int := if w = 0 then yds M else if w = 1 then fig M 0 else if w = 2 then fig M 1 else if w = 3 then fig M 2 else if w = 4 then M 0 9 else if w = 5 then cnA M 8 else if w = 6 then M 0 17 else if w = 7 then allw M else if w = 8 then M 0 4 else -2
theorem m_count {σ : St} (hM : MI (mv σ)) {w : Int} (hw : in32 w) : f_X9_count σ w = some (cou (mv σ) w, σ) := by
  have f0 := m_figures hM (t := 0) (by omega)
  have f1 := m_figures hM (t := 1) (by omega)
  have f2 := m_figures hM (t := 2) (by omega)
  unfold f_X9_count cou
  rw [chk_pos hw]
  by_cases q0 : w = 0
  · rw [if_pos q0, if_pos q0, m_yards hM, cll_pos]
  rw [if_neg q0, if_neg q0]
  by_cases q1 : w = 1
  · rw [if_pos q1, if_pos q1, q1, show (1 : Int) - 1 = ((0 : Nat) : Int) from rfl, f0, cll_pos]
  rw [if_neg q1, if_neg q1]
  by_cases q2 : w = 2
  · rw [if_pos q2, if_pos q2, q2, show (2 : Int) - 1 = ((1 : Nat) : Int) from rfl, f1, cll_pos]
  rw [if_neg q2, if_neg q2]
  by_cases q3 : w = 3
  · rw [if_pos q3, if_pos q3, q3, show (3 : Int) - 1 = ((2 : Nat) : Int) from rfl, f2, cll_pos]
  rw [if_neg q3, if_neg q3, m_weight7 hM, cll_pos, m_countL hM FU 0 0 0 rfl (by omega) rfl (by rw [FU_eq]; omega)]
  by_cases q4 : w = 4
  · rw [if_pos q4, if_pos q4]; rfl
  rw [if_neg q4, if_neg q4]
  by_cases q5 : w = 5
  · rw [if_pos q5, if_pos q5]
  rw [if_neg q5, if_neg q5]
  by_cases q6 : w = 6
  · rw [if_pos q6, if_pos q6]; rfl
  rw [if_neg q6, if_neg q6]
  by_cases q7 : w = 7
  · rw [if_pos q7, if_pos q7]
  rw [if_neg q7, if_neg q7]
  by_cases q8 : w = 8
  · rw [if_pos q8, if_pos q8]; rfl
  rw [if_neg q8, if_neg q8]
