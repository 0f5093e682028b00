/-! THE REFERENCE: a dike more -/
def drA (P : Nat → Bool) (lo : Nat) : Nat → Bool
  | 0 => true
  | n + 1 => drA P lo n && !P (lo + n)
def dryD (M : St) (s d lo hi : Nat) (E : Nat → Bool) : Bool := drA (fun y => wet M s d y && !E y) lo (hi + 1 - lo)
def dryC (M : St) (s day lo hi : Nat) (E : Nat → Bool) : Nat → Int
  | 0 => 0
  | i + 1 => dryC M s day lo hi E i + (if day + i < 30 ∧ dryD M s (day + i) lo hi E = true then 1 else 0)
def noE : Nat → Bool := fun _ => false
def exE (f m : Nat) : Nat → Bool := fun y => decide (f ≤ y ∧ y + 1 ≤ f + m)
theorem dryC_rng (M : St) (s day lo hi : Nat) (E : Nat → Bool) : ∀ i, 0 ≤ dryC M s day lo hi E i ∧ dryC M s day lo hi E i ≤ i
  | 0 => by simp [dryC]
  | i + 1 => by
    have ih := dryC_rng M s day lo hi E i
    unfold dryC
    split <;> omega
theorem dryC_stop (M : St) (s day lo hi : Nat) (E : Nat → Bool) {i : Nat} (h : 30 ≤ day + i) : ∀ n, dryC M s day lo hi E (i + n) = dryC M s day lo hi E i
  | 0 => rfl
  | n + 1 => by
    have ih := dryC_stop M s day lo hi E h n
    rw [show i + (n + 1) = (i + n) + 1 by omega, dryC, ih, if_neg (by omega)]
    omega
theorem m_dryL2 {σ : St} (hM : MI (mv σ)) {s d lo hi : Nat} (hs : s < 3) (hd : d < 30) (hlo : lo ≤ hi) (hhi : hi < 12) {rec6 : St → Int → Int → Int → Int → Int → Int → Option Rt} {v2 v5 : Int} : ∀ (n j : Nat) (v w : Int), v = ((lo + j : Nat) : Int) → lo + j ≤ hi + 1 → w = (if drA (fun y => wet (mv σ) s d y && !noE y) lo j then 1 else 0) → 14 - j < n → L_X9_dryDays_28 rec6 n σ s v2 lo hi v5 d w v = rec6 σ s v2 lo hi (v5 + (if dryD (mv σ) s d lo hi noE then 1 else 0)) (d + 1)
  | 0, j, v, w, hv, h1, hw, h3 => by omega
  | n + 1, j, v, w, hv, h1, hw, h3 => by
    subst hv
    subst hw
    rw [L_X9_dryDays_28, S_X9_dryDays_28, chk_pos (by omega), chk_pos (by omega)]
    by_cases q : (hi : Int) < ((lo + j : Nat) : Int)
    · rw [if_pos q, chk_b01, ite_b0]
      unfold dryD
      rw [show hi + 1 - lo = j by omega]
      split <;> rfl
    · have ih := fun w hw => m_dryL2 hM hs hd hlo hhi (rec6 := rec6) (v2 := v2) (v5 := v5) n (j + 1) (((lo + j : Nat) : Int) + 1) w (by omega) (by omega) hw (by omega)
      rw [if_neg q, chk_b01, ite_b0]
      by_cases g : drA (fun y => wet (mv σ) s d y && !noE y) lo j
      · rw [if_pos g, m_isWet hM hs hd (by omega), cll_pos, chk_b01, ite_b0]
        by_cases z : wet (mv σ) s d (lo + j)
        · rw [if_pos z]
          exact ih 0 (by simp [drA, z, noE])
        · rw [if_neg z]
          exact ih 1 (by simp [drA, z, g])
      · rw [if_neg g]
        exact ih 0 (by simp [drA, g])
theorem m_dryL1 {σ : St} (hM : MI (mv σ)) {s day lo hi : Nat} (hs : s < 3) (hday : day < 30) (hlo : lo ≤ hi) (hhi : hi < 12) : ∀ (n i : Nat) (v acc : Int), v = ((day + i : Nat) : Int) → i ≤ 7 → acc = dryC (mv σ) s day lo hi noE i → 8 - i < n → L_X9_dryDays_6 n σ s day lo hi acc v = some (dryC (mv σ) s day lo hi noE 7, σ)
  | 0, i, v, acc, hv, h1, ha, h3 => by omega
  | n + 1, i, v, acc, hv, h1, ha, h3 => by
    subst hv
    subst ha
    rw [L_X9_dryDays_6, S_X9_dryDays_6, chk_pos (by omega)]
    by_cases q : 30 ≤ ((day + i : Nat) : Int)
    · rw [if_pos q]
      have := dryC_stop (mv σ) s day lo hi noE (i := i) (by omega) (7 - i)
      rw [show i + (7 - i) = 7 by omega] at this
      rw [this]
    · rw [if_neg q, chk_pos (by omega)]
      by_cases z : (day : Int) + 7 ≤ ((day + i : Nat) : Int)
      · rw [if_pos z, show i = 7 by omega]
      · have h := m_dryL2 hM hs (d := day + i) (by omega) hlo hhi (rec6 := L_X9_dryDays_6 n) (v2 := day) (v5 := dryC (mv σ) s day lo hi noE i) FU 0 lo 1 (by omega) (by omega) rfl (by rw [FU_eq]; omega)
        rw [if_neg z, h]
        exact m_dryL1 hM hs hday hlo hhi n (i + 1) _ _ (by omega) (by omega) (by
          rw [dryC]
          by_cases y : dryD (mv σ) s (day + i) lo hi noE
          · rw [if_pos y, if_pos ⟨by omega, y⟩]
          · rw [if_neg y, if_neg (fun x => y x.2)]) (by omega)
theorem m_dryDays {σ : St} (hM : MI (mv σ)) {s day lo hi : Nat} (hs : s < 3) (hday : day < 30) (hlo : lo ≤ hi) (hhi : hi < 12) : f_X9_dryDays σ s day lo hi = some (dryC (mv σ) s day lo hi noE 7, σ) := by
  unfold f_X9_dryDays
  exact m_dryL1 hM hs hday hlo hhi FU 0 day 0 (by omega) (by omega) rfl (by rw [FU_eq]; omega)
/-- what depends on what -/
theorem fltA_congr {M' M : St} (h5 : M' 5 = M 5) (t : Nat) : ∀ n i, fltA M' t n i = fltA M t n i
  | 0, _ => rfl
  | n + 1, i => by
    unfold fltA
    rw [h5, fltA_congr h5 t n (i + 1)]
theorem fig_congr {M' M : St} (h5 : M' 5 = M 5) (h6 : M' 6 = M 6) (t : Nat) : fig M' t = fig M t := by
  unfold fig flt
  rw [fltA_congr h5, h6]
theorem lev_congr {M' M : St} (h5 : M' 5 = M 5) (h6 : M' 6 = M 6) (s d : Nat) : lev M' s d = lev M s d := by
  unfold lev
  rw [fig_congr h5 h6, h5]
theorem posA_congr {M' M : St} (h5 : M' 5 = M 5) (h6 : M' 6 = M 6) (h7 : M' 7 = M 7) (s : Nat) : ∀ n d, posA M' s n d = posA M s n d
  | 0, _ => rfl
  | n + 1, d => by
    unfold posA
    rw [h7, lev_congr h5 h6, posA_congr h5 h6 h7 s n (d + 1)]
theorem pos_congr {M' M : St} (h5 : M' 5 = M 5) (h6 : M' 6 = M 6) (h7 : M' 7 = M 7) (s : Nat) : pos M' s = pos M s := by
  unfold pos
  rw [posA_congr h5 h6 h7, h7]
theorem kepA_congr {M' M : St} (d y : Nat) : ∀ n, (∀ j, j < 3 * n → M' 9 j = M 9 j) → kepA M' d y n = kepA M d y n
  | 0, _ => rfl
  | n + 1, h => by
    unfold kepA
    rw [kepA_congr d y n (fun j hj => h j (by omega)), h (3 * n) (by omega), h (3 * n + 1) (by omega), h (3 * n + 2) (by omega)]
theorem MI.ext {M' M : St} (hM : MI M) (hk : ∀ k, k ≠ 0 → k ≠ 9 → M' k = M k) (h4 : M' 0 4 = M 0 4) (hf : M' 0 17 = M 0 17) (hd : 0 ≤ M' 0 9 ∧ M' 0 9 ≤ 9) (hdk : ∀ k : Nat, (k : Int) < M' 0 9 → (0 ≤ M' 9 (3 * k) ∧ M' 9 (3 * k) ≤ M' 9 (3 * k + 1)) ∧ M' 9 (3 * k + 1) ≤ 11 ∧ 0 ≤ M' 9 (3 * k + 2) ∧ M' 9 (3 * k + 2) ≤ 29) : MI M' := by
  obtain ⟨a1, a2, a3, a4, a5, a6, a7, a8, a9, a10, a11, a12⟩ := hM
  unfold MI
  rw [hk 6 (by decide) (by decide), hk 5 (by decide) (by decide), hk 7 (by decide) (by decide), hk 8 (by decide) (by decide), hk 11 (by decide) (by decide), hk 12 (by decide) (by decide), hk 1 (by decide) (by decide), hk 2 (by decide) (by decide), hk 3 (by decide) (by decide), h4, hf]
  exact ⟨a1, a2, a3, a4, hd, hdk, a7, a8, a9, a10, a11, a12⟩
/-- the state of the search: one dike more, of m yards from f on -/
def FK (σ' σ : St) : Prop := (∀ k, k ≠ 67 → k ≠ 58 → σ' k = σ k) ∧ (∀ j, j ≠ 9 → σ' 58 j = σ 58 j) ∧ (∀ j : Nat, (j : Int) < 3 * σ 58 9 → σ' 67 j = σ 67 j)
theorem FK.rf (σ : St) : FK σ σ := ⟨fun _ _ _ => rfl, fun _ _ => rfl, fun _ _ => rfl⟩
def exS (σ : St) (had f m day : Nat) : St := su (su (su (su σ 67 (3 * had) f) 67 (3 * had + 1) ((f : Int) + m - 1)) 67 (3 * had + 2) day) 58 9 (had + 1)
theorem exS_FK {σ σ0 : St} {had f m day : Nat} (hh : (had : Int) = σ0 58 9) (h : FK σ σ0) : FK (exS σ had f m day) σ0 := by
  refine ⟨fun k h1 h2 => ?_, fun j hj => ?_, fun j hj => ?_⟩
  · unfold exS
    rw [su_ne k h2, su_ne k h1, su_ne k h1, su_ne k h1]
    exact h.1 k h1 h2
  · unfold exS
    rw [su_eq, if_neg hj, su_ne 58 (by decide), su_ne 58 (by decide), su_ne 58 (by decide)]
    exact h.2.1 j hj
  · unfold exS
    rw [su_ne 67 (by decide), su_eq, if_neg (by omega), su_eq, if_neg (by omega), su_eq, if_neg (by omega)]
    exact h.2.2 j hj
theorem exS_9 {σ : St} {had f m day : Nat} : mv (exS σ had f m day) 0 9 = (had : Int) + 1 := by
  show exS σ had f m day 58 9 = _
  unfold exS
  rw [su_eq, if_pos rfl]
theorem exS_67 {σ : St} {had f m day j : Nat} (hj : j < 3 * had + 3) : mv (exS σ had f m day) 9 j = if j = 3 * had + 2 then (day : Int) else if j = 3 * had + 1 then (f : Int) + m - 1 else if j = 3 * had then (f : Int) else σ 67 j := by
  have h9 : exS σ had f m day 58 9 = (had : Int) + 1 := exS_9
  rw [mv_9 (by rw [h9]; omega)]
  unfold exS
  rw [su_ne 67 (by decide), su_eq, su_eq, su_eq]
theorem exS_k {σ σ0 : St} {had f m day : Nat} (hh : (had : Int) = σ0 58 9) (h : FK σ σ0) (k : Nat) (h0 : k ≠ 0) (h9 : k ≠ 9) : mv (exS σ had f m day) k = mv σ0 k := by
  have F := exS_FK (f := f) (m := m) (day := day) hh h
  funext j
  match k, h0, h9 with
  | 1, _, _ => exact congrFun (F.1 59 (by decide) (by decide)) j
  | 2, _, _ => exact congrFun (F.1 60 (by decide) (by decide)) j
  | 3, _, _ => exact congrFun (F.1 61 (by decide) (by decide)) j
  | 4, _, _ => rfl
  | 5, _, _ => exact congrFun (F.1 63 (by decide) (by decide)) j
  | 6, _, _ => exact congrFun (F.1 64 (by decide) (by decide)) j
  | 7, _, _ => exact congrFun (F.1 65 (by decide) (by decide)) j
  | 8, _, _ => exact congrFun (F.1 66 (by decide) (by decide)) j
  | 10, _, _ => rfl
  | 11, _, _ => exact congrFun (F.1 69 (by decide) (by decide)) j
  | 12, _, _ => exact congrFun (F.1 70 (by decide) (by decide)) j
  | n + 13, _, _ => rfl
theorem exS_old {σ σ0 : St} {had f m day j : Nat} (hh : (had : Int) = σ0 58 9) (h : FK σ σ0) (hj : j < 3 * had) : mv (exS σ had f m day) 9 j = mv σ0 9 j := by
  rw [exS_67 (by omega), if_neg (by omega), if_neg (by omega), if_neg (by omega), mv_9 (by omega)]
  exact h.2.2 j (by omega)
theorem exS_MI {σ σ0 : St} (hM : MI (mv σ0)) {had f m day : Nat} (hh : (had : Int) = σ0 58 9) (h8 : had ≤ 8) (h : FK σ σ0) (hm : 1 ≤ m) (hf : f + m ≤ 12) (hd : day < 30) : MI (mv (exS σ had f m day)) := by
  have F := exS_FK (f := f) (m := m) (day := day) hh h
  refine hM.ext (fun k h0 h9 => exS_k hh h k h0 h9) (F.2.1 4 (by decide)) (F.2.1 17 (by decide)) (by rw [exS_9]; omega) (fun k hk => ?_)
  rw [exS_9] at hk
  by_cases e : k = had
  · subst e
    rw [exS_67 (by omega), exS_67 (by omega), exS_67 (by omega), if_neg (by omega), if_neg (by omega), if_pos rfl, if_neg (by omega), if_pos rfl, if_pos rfl]
    omega
  · rw [exS_old hh h (by omega), exS_old hh h (by omega), exS_old hh h (by omega)]
    exact hM.dik (k := k) (by rw [mv_09]; omega)
theorem exS_wet {σ σ0 : St} {had f m day : Nat} (hh : (had : Int) = σ0 58 9) (h : FK σ σ0) (hm : 1 ≤ m) {s d y : Nat} (hd1 : day ≤ d) (hd2 : d ≤ day + 6) : wet (mv (exS σ had f m day)) s d y = (wet (mv σ0) s d y && !exE f m y) := by
  have k5 := exS_k (f := f) (m := m) (day := day) hh h 5 (by decide) (by decide)
  have k6 := exS_k (f := f) (m := m) (day := day) hh h 6 (by decide) (by decide)
  have k7 := exS_k (f := f) (m := m) (day := day) hh h 7 (by decide) (by decide)
  have kk : kep (mv (exS σ had f m day)) d y = (kep (mv σ0) d y || exE f m y) := by
    unfold kep
    rw [exS_9, mv_09, show ((had : Int) + 1).toNat = had + 1 by omega, show (σ0 58 9).toNat = had by omega, kepA, kepA_congr d y had (fun j hj => exS_old hh h hj)]
    rw [exS_67 (by omega), exS_67 (by omega), exS_67 (by omega), if_neg (by omega), if_neg (by omega), if_pos rfl, if_neg (by omega), if_pos rfl, if_pos rfl]
    congr 1
    unfold exE
    rw [decide_eq_decide]
    omega
  unfold wet hgt
  rw [kk, pos_congr k5 k6 k7, lev_congr k5 k6, k5, k7, Bool.not_or, Bool.and_assoc]
theorem drA_congr {P Q : Nat → Bool} {lo : Nat} : ∀ n, (∀ y, P y = Q y) → drA P lo n = drA Q lo n
  | 0, _ => rfl
  | n + 1, h => by
    unfold drA
    rw [drA_congr n h, h]
theorem exS_dry {σ σ0 : St} {had f m day : Nat} (hh : (had : Int) = σ0 58 9) (h : FK σ σ0) (hm : 1 ≤ m) {s lo hi : Nat} : ∀ i, i ≤ 7 → dryC (mv (exS σ had f m day)) s day lo hi noE i = dryC (mv σ0) s day lo hi (exE f m) i
  | 0, _ => rfl
  | i + 1, hi7 => by
    unfold dryC
    rw [exS_dry hh h hm i (by omega)]
    have e : dryD (mv (exS σ had f m day)) s (day + i) lo hi noE = dryD (mv σ0) s (day + i) lo hi (exE f m) := by
      unfold dryD
      refine drA_congr _ (fun y => ?_)
      rw [exS_wet hh h hm (by omega) (by omega)]
      simp [noE]
    rw [e]
abbrev K3 : Type := Int × Int × Int
/-- the search's step and its course -/
def kUp (M : St) (s day lo hi m y : Nat) (u : K3) : K3 := if dryC M s day lo hi (exE y m) 7 ≤ u.1 then u else (dryC M s day lo hi (exE y m) 7, (y : Int), (m : Int))
def kIn (M : St) (s day lo hi m : Nat) : Nat → K3 → K3
  | 0, u => u
  | j + 1, u => kUp M s day lo hi m (lo + j) (kIn M s day lo hi m j u)
def kOut (M : St) (s day lo hi : Nat) : Nat → K3
  | 0 => (dryC M s day lo hi noE 7, 0, 0)
  | m + 1 => kIn M s day lo hi (m + 1) (hi + 2 - (lo + (m + 1))) (kOut M s day lo hi m)
def k3w (u : K3) (w : Int) : Int := if w = 0 then u.1 else if w = 1 then u.2.1 else u.2.2
theorem kUp_rng {M : St} {s day lo hi m y : Nat} {u : K3} (h : 0 ≤ u.1 ∧ u.1 ≤ 7) : 0 ≤ (kUp M s day lo hi m y u).1 ∧ (kUp M s day lo hi m y u).1 ≤ 7 := by
  have := dryC_rng M s day lo hi (exE y m) 7
  unfold kUp
  split
  · exact h
  · exact ⟨this.1, this.2⟩
theorem kIn_rng {M : St} {s day lo hi m : Nat} : ∀ j {u : K3}, 0 ≤ u.1 ∧ u.1 ≤ 7 → 0 ≤ (kIn M s day lo hi m j u).1 ∧ (kIn M s day lo hi m j u).1 ≤ 7
  | 0, _, h => h
  | j + 1, _, h => kUp_rng (kIn_rng j h)
theorem kOut_rng {M : St} {s day lo hi : Nat} : ∀ m, 0 ≤ (kOut M s day lo hi m).1 ∧ (kOut M s day lo hi m).1 ≤ 7
  | 0 => by have := dryC_rng M s day lo hi noE 7; exact ⟨this.1, this.2⟩
  | m + 1 => kIn_rng _ (kOut_rng m)
theorem m_keepL2 {σ0 : St} (hM : MI (mv σ0)) {had s day lo hi m : Nat} {yy w : Int} (hh : (had : Int) = σ0 58 9) (h8 : had ≤ 8) (hs : s < 3) (hday : day < 30) (hlo : lo ≤ hi) (hhi : hi < 12) (hm : 1 ≤ m) (hm2 : m ≤ 12) {rec44 : St → Int → Int → Int → Int → Int → Int → Int → Int → Int → Int → Int → Option Rt} {u0 : K3} (hu0 : 0 ≤ u0.1 ∧ u0.1 ≤ 7) :
    ∀ (n j : Nat) (σ : St) (v : Int) (u : K3), FK σ σ0 → v = ((lo + j : Nat) : Int) → j ≤ hi + 2 - (lo + m) → u = kIn (mv σ0) s day lo hi m j u0 → 14 - j < n →
    ∃ σ', L_X9_keepOf_55 rec44 n σ s day yy w lo hi u.1 u.2.1 u.2.2 had m v = rec44 σ' s day yy w lo hi (kIn (mv σ0) s day lo hi m (hi + 2 - (lo + m)) u0).1 (kIn (mv σ0) s day lo hi m (hi + 2 - (lo + m)) u0).2.1 (kIn (mv σ0) s day lo hi m (hi + 2 - (lo + m)) u0).2.2 had (m + 1) ∧ FK σ' σ0
  | 0, j, σ, v, u, hF, hv, h1, hu, h3 => by omega
  | n + 1, j, σ, v, u, hF, hv, h1, hu, h3 => by
    subst hv
    subst hu
    have hr := kIn_rng (M := mv σ0) (s := s) (day := day) (lo := lo) (hi := hi) (m := m) j hu0
    rw [L_X9_keepOf_55, S_X9_keepOf_55, chk_pos (by omega), chk_pos (by omega)]
    by_cases q : (hi : Int) < ((lo + j : Nat) : Int) + m - 1
    · rw [if_pos q, show j = hi + 2 - (lo + m) by omega]
      exact ⟨σ, rfl, hF⟩
    · have e0 : (3 * (had : Int)).toNat = 3 * had := by omega
      have e1 : (3 * (had : Int) + 1).toNat = 3 * had + 1 := by omega
      have e2 : (3 * (had : Int) + 2).toNat = 3 * had + 2 := by omega
      have hS : su (su (su (su σ 67 (3 * had) ((lo + j : Nat) : Int)) 67 (3 * had + 1) (((lo + j : Nat) : Int) + m - 1)) 67 (3 * had + 2) day) 58 9 (had + 1) = exS σ had (lo + j) m day := rfl
      have hMI := exS_MI hM hh h8 hF hm (f := lo + j) (by omega) hday
      have hF' := exS_FK (f := lo + j) (m := m) (day := day) hh hF
      have hdr := exS_dry hh hF hm (f := lo + j) (day := day) (s := s) (lo := lo) (hi := hi) 7 (by omega)
      have hc := dryC_rng (mv σ0) s day lo hi (exE (lo + j) m) 7
      rw [if_neg q, chk_pos (by omega), chk_pos (by omega), chk_pos (by omega), e0, e1, e2, hS, m_dryDays hMI hs hday hlo hhi, cll_pos, hdr, chk_pos (by omega), chk_pos (by omega)]
      have nx := fun u hu => m_keepL2 hM (yy := yy) (w := w) hh h8 hs hday hlo hhi hm hm2 (rec44 := rec44) hu0 n (j + 1) (exS σ had (lo + j) m day) (((lo + j : Nat) : Int) + 1) u hF' (by omega) (by omega) hu (by omega)
      by_cases z : dryC (mv σ0) s day lo hi (exE (lo + j) m) 7 ≤ (kIn (mv σ0) s day lo hi m j u0).1
      · rw [if_pos z]
        exact nx _ (by rw [kIn, kUp, if_pos z])
      · rw [if_neg z]
        exact nx (dryC (mv σ0) s day lo hi (exE (lo + j) m) 7, ((lo + j : Nat) : Int), (m : Int)) (by rw [kIn, kUp, if_neg z])
theorem m_keepL1 {σ0 : St} (hM : MI (mv σ0)) {had s day lo hi yards : Nat} {w : Int} (hh : (had : Int) = σ0 58 9) (h8 : had ≤ 8) (hs : s < 3) (hday : day < 30) (hlo : lo ≤ hi) (hhi : hi < 12) (hy : yards ≤ 12) (hw : in32 w) :
    ∀ (n m : Nat) (σ : St) (v : Int) (u : K3), FK σ σ0 → v = (m : Int) + 1 → m ≤ yards → u = kOut (mv σ0) s day lo hi m → 14 - m < n →
    ∃ σ', L_X9_keepOf_44 n σ s day yards w lo hi u.1 u.2.1 u.2.2 had v = some (k3w (kOut (mv σ0) s day lo hi yards) w, su σ' 58 9 had) ∧ FK σ' σ0
  | 0, m, σ, v, u, hF, hv, h1, hu, h3 => by omega
  | n + 1, m, σ, v, u, hF, hv, h1, hu, h3 => by
    subst hv
    subst hu
    rw [L_X9_keepOf_44, S_X9_keepOf_44, chk_pos (by omega), chk_pos (by omega)]
    by_cases q : (yards : Int) < (m : Int) + 1
    · rw [if_pos q, chk_pos hw, show m = yards by omega]
      refine ⟨σ, ?_, hF⟩
      unfold k3w
      split
      · rfl
      · split <;> rfl
    · obtain ⟨σ1, k1, k2⟩ := m_keepL2 hM (m := m + 1) (yy := yards) (w := w) hh h8 hs hday hlo hhi (by omega) (by omega) (rec44 := L_X9_keepOf_44 n) (kOut_rng m) FU 0 σ lo _ hF (by omega) (by omega) rfl (by rw [FU_eq]; omega)
      rw [show ((m + 1 : Nat) : Int) = (m : Int) + 1 by omega] at k1
      rw [if_neg q]
      simp only [kIn] at k1
      rw [k1]
      exact m_keepL1 hM hh h8 hs hday hlo hhi hy hw n (m + 1) σ1 _ _ k2 (by omega) (by omega) rfl (by omega)
/-- a call of the reference that asks: the class's cells and what counts of its own stay -/
def QM (σ' σ : St) : Prop := (∀ k, k < 58 → σ' k = σ k) ∧ mv σ' = mv σ ∧ (GN σ → GN σ')
theorem QM.rf (σ : St) : QM σ σ := ⟨fun _ _ => rfl, rfl, id⟩
theorem QM.tr {a b c : St} (h1 : QM a b) (h2 : QM b c) : QM a c := ⟨fun k hk => (h1.1 k hk).trans (h2.1 k hk), h1.2.1.trans h2.2.1, fun g => h1.2.2 (h2.2.2 g)⟩
theorem FW.qm {σ' σ : St} (h : FW σ' σ) (g : GN σ') : QM σ' σ := ⟨fun k hk => h.1 k (by omega) (by omega), h.mv, fun _ => g⟩
theorem m_keepOf {σ : St} (hM : MI (mv σ)) (h8 : σ 58 9 ≤ 8) {s day p3 p4 yards : Nat} {w : Int} (hs : s < 3) (hday : day < 30) (h3 : p3 < 12) (h4 : p4 < 12) (hy : yards ≤ 12) (hw : in32 w) :
    ∃ σ', f_X9_keepOf σ s day p3 p4 yards w = some (k3w (kOut (mv σ) s day (min p3 p4) (max p3 p4) yards) w, σ') ∧ QM σ' σ := by
  have hd := hM.dks
  rw [mv_09] at hd
  have e1 : min (p3 : Int) (p4 : Int) = ((min p3 p4 : Nat) : Int) := by omega
  have e2 : ((p3 : Int) + (p4 : Int)) - ((min p3 p4 : Nat) : Int) = ((max p3 p4 : Nat) : Int) := by omega
  have e3 : σ 58 9 = (((σ 58 9).toNat : Nat) : Int) := by omega
  unfold f_X9_keepOf
  rw [m_lesser (by omega) (by omega), cll_pos, e1, e2, m_dryDays hM hs hday (by omega) (by omega), cll_pos]
  obtain ⟨σ', k1, k2⟩ := m_keepL1 hM (had := (σ 58 9).toNat) (lo := min p3 p4) (hi := max p3 p4) (yards := yards) (w := w) e3.symm (by omega) hs hday (by omega) (by omega) hy hw FU 0 σ 1 (kOut (mv σ) s day (min p3 p4) (max p3 p4) 0) (FK.rf σ) (by omega) (by omega) rfl (by rw [FU_eq]; omega)
  rw [← e3] at k1
  refine ⟨su σ' 58 9 (σ 58 9), k1, ?_, ?_, ?_⟩
  · intro k hk
    rw [su_ne k (by omega)]
    exact k2.1 k (by omega) (by omega)
  · refine mv_congr ?_ ?_ ?_ ?_ ?_ ?_ ?_ ?_ ?_ ?_ ?_ ?_ ?_
    · rw [su_ne 59 (by decide)]; exact k2.1 59 (by decide) (by decide)
    · rw [su_ne 60 (by decide)]; exact k2.1 60 (by decide) (by decide)
    · rw [su_ne 61 (by decide)]; exact k2.1 61 (by decide) (by decide)
    · rw [su_ne 63 (by decide)]; exact k2.1 63 (by decide) (by decide)
    · rw [su_ne 64 (by decide)]; exact k2.1 64 (by decide) (by decide)
    · rw [su_ne 65 (by decide)]; exact k2.1 65 (by decide) (by decide)
    · rw [su_ne 66 (by decide)]; exact k2.1 66 (by decide) (by decide)
    · rw [su_ne 69 (by decide)]; exact k2.1 69 (by decide) (by decide)
    · rw [su_ne 70 (by decide)]; exact k2.1 70 (by decide) (by decide)
    · rw [su_eq, if_neg (by decide)]; exact k2.2.1 4 (by decide)
    · rw [su_eq, if_pos rfl]
    · rw [su_eq, if_neg (by decide)]; exact k2.2.1 17 (by decide)
    · intro j hj
      rw [su_ne 67 (by decide)]
      exact k2.2.2 j hj
  · intro g
    unfold GN
    rw [su_eq, if_neg (by decide), k2.2.1 12 (by decide)]
    exact g
