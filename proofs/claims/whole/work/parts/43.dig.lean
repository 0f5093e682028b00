/-! BOTH SIDES: the digest -/
def dsA (g : Nat → Int) : Nat → Int → Int
  | 0, h => h
  | n + 1, h => 31 * dsA g n h + g n
def sp1 (M : St) (s : Nat) (h : Int) : Int := 31 * (31 * (31 * h + pos M s) + ((wb M s 5 : Nat) : Int)) + ((isl M s 5 : Nat) : Int)
def sp2 (M : St) (s : Nat) (h : Int) : Int := dsA (fun k => aCost M s 5 0 3 k) 3 (sp1 M s h)
def sp3 (M : St) (s : Nat) (h : Int) : Int := dsA (fun k => dee M s k) 3 (sp2 M s h)
def sp4 (M : St) (s : Nat) (h : Int) : Int := 31 * (31 * (31 * sp3 M s h + aWaits M s 4 0 2 0) + aWaits M s 4 0 2 1) + aGoes M s 4 0 2
def sp5 (M : St) (s : Nat) (h : Int) : Int := dsA (fun k => aKeep M s 5 0 4 2 k) 3 (sp4 M s h)
def spg (M : St) (s : Nat) (h : Int) : Int := 31 * sp5 M s h + aClosed M s 0
def spA (M : St) : Nat → Int → Int
  | 0, h => h
  | n + 1, h => spg M n (spA M n h)
def dg3 (M : St) : Int := dsA (fun y => hgt M y) (yds M).toNat (dsA (fun t => flt M t) 4 (dsA (fun k => cou M k) 8 17))
def dg4 (M : St) : Int := spA M 3 (dg3 M)
def dig (M : St) : Int := 31 * (31 * (31 * (31 * (31 * (31 * dg4 M + nev M 0) + nev M 1) + gai M 0) + gai M 1) + ((wcA M 30 : Nat) : Int)) + ((fitB M : Nat) : Int)
theorem cnA_rng {M : St} (hM : MI M) : ∀ k : Nat, k ≤ 8 → 0 ≤ cnA M k ∧ cnA M k ≤ k
  | 0, _ => by simp [cnA]
  | k + 1, h => by
    have ih := cnA_rng hM k (by omega)
    have c := (hM.con (k := k) (by omega)).1
    unfold cnA
    omega
theorem r_cou {M : St} (hM : MI M) {w : Int} : in32 (cou M w) := by
  have h1 := yds_rng hM
  have f0 := fig_rng hM (t := 0) (by omega)
  have f1 := fig_rng hM (t := 1) (by omega)
  have f2 := fig_rng hM (t := 2) (by omega)
  have t0 := hM.typ (t := 0) (by omega)
  have t1 := hM.typ (t := 1) (by omega)
  have t2 := hM.typ (t := 2) (by omega)
  have h2 := hM.dks
  have h3 := cnA_rng hM 8 (by omega)
  have h4 := hM.fas
  have h5 := allw_rng hM
  have h6 := hM.lat
  unfold cou
  repeat' split
  all_goals omega
theorem r_cost {M : St} (hM : MI M) {s d a b w : Int} : in32 (aCost M s d a b w) := by
  have hy := yds_rng hM
  unfold aCost csw
  split
  · rename_i q
    have h1 := rod_rng hM (s := s.toNat) (d := d.toNat) (a := min a.toNat b.toNat) (b := max a.toNat b.toNat) (by omega)
    have h2 := rdg_rng hM (a := min a.toNat b.toNat) (b := max a.toNat b.toNat) (by omega) (by omega)
    have h3 := cst_rng hM (s := s.toNat) (d := d.toNat) (a := min a.toNat b.toNat) (b := max a.toNat b.toNat) (by omega) (by omega)
    split
    · omega
    · split <;> omega
  · decide
theorem grv_rng {M : St} (hM : MI M) {s : Nat} : ∀ d : Nat, 0 ≤ grv M s d ∧ grv M s d ≤ 12 * d
  | 0 => by simp [grv]
  | d + 1 => by
    have ih := grv_rng hM (s := s) d
    have hy := yds_rng hM
    have hc := cntA_rng (wet M s d) (yds M).toNat
    unfold grv
    omega
theorem wdy_rng {M : St} {s : Nat} : ∀ d : Nat, 0 ≤ wdy M s d ∧ wdy M s d ≤ d
  | 0 => by simp [wdy]
  | d + 1 => by
    have ih := wdy_rng (M := M) (s := s) d
    unfold wdy
    split <;> omega
theorem r_dee {M : St} (hM : MI M) {s : Nat} {w : Int} : in32 (dee M s w) := by
  have h1 := grv_rng hM (s := s) 30
  have h2 := wdy_rng (M := M) (s := s) 30
  have h3 := hM.set.2.2.2
  have h4 := mulb h3.1.1 h3.1.2 h1.1 h1.2
  have h5 := mulb h3.2.1.1 h3.2.1.2 h2.1 h2.2
  unfold dee
  split
  · omega
  · split <;> omega
theorem kIn_r2 {M : St} {s day lo hi m : Nat} (hm : m ≤ 12) (hlo : lo ≤ 12) : ∀ j {u : K3}, j ≤ 14 → (0 ≤ u.2.1 ∧ u.2.1 ≤ 30) ∧ 0 ≤ u.2.2 ∧ u.2.2 ≤ 30 → (0 ≤ (kIn M s day lo hi m j u).2.1 ∧ (kIn M s day lo hi m j u).2.1 ≤ 30) ∧ 0 ≤ (kIn M s day lo hi m j u).2.2 ∧ (kIn M s day lo hi m j u).2.2 ≤ 30
  | 0, _, _, h => h
  | j + 1, u, hj, h => by
    have ih := kIn_r2 (M := M) (s := s) (day := day) (lo := lo) (hi := hi) hm hlo j (u := u) (by omega) h
    unfold kIn kUp
    split
    · exact ih
    · dsimp only
      omega
theorem kOut_r2 {M : St} {s day lo hi : Nat} (hlo : lo ≤ hi) (hhi : hi < 12) : ∀ m, m ≤ 12 → (0 ≤ (kOut M s day lo hi m).2.1 ∧ (kOut M s day lo hi m).2.1 ≤ 30) ∧ 0 ≤ (kOut M s day lo hi m).2.2 ∧ (kOut M s day lo hi m).2.2 ≤ 30
  | 0, _ => by simp [kOut]
  | m + 1, h => by
    have ih := kOut_r2 (M := M) (s := s) (day := day) hlo hhi m (by omega)
    unfold kOut
    exact kIn_r2 h (by omega) _ (by omega) ih
theorem r_keep {M : St} (hM : MI M) {s d a b n w : Int} : in32 (aKeep M s d a b n w) := by
  have hy := yds_rng hM
  unfold aKeep k3w
  split
  · rename_i q
    have h1 := kOut_rng (M := M) (s := s.toNat) (day := d.toNat) (lo := min a.toNat b.toNat) (hi := max a.toNat b.toNat) n.toNat
    have h2 := kOut_r2 (M := M) (s := s.toNat) (day := d.toNat) (lo := min a.toNat b.toNat) (hi := max a.toNat b.toNat) (by omega) (by omega) n.toNat (by omega)
    split
    · omega
    · split <;> omega
  · decide
theorem r_goes {M : St} {s d a b : Int} : in32 (aGoes M s d a b) := by
  unfold aGoes gos
  repeat' split
  all_goals decide
theorem r_closed {M : St} {s y : Int} : in32 (aClosed M s y) := by
  unfold aClosed
  split
  · have := clo_rng (M := M) (s := s.toNat) (y := y.toNat)
    omega
  · decide
theorem r_nev {M : St} (hM : MI M) {w : Int} : in32 (nev M w) := by
  have := nvA_rng hM 256
  unfold nev
  split <;> omega
theorem r_watch {M : St} : in32 ((wcA M 30 : Nat) : Int) := by
  have := wcA_lt M 30
  omega
theorem r_fit {M : St} : in32 ((fitB M : Nat) : Int) := by
  have : fitB M < 2 ^ 3 := bts_lt _ 3
  omega
theorem e_poss {M : St} {s : Nat} (hs : s < 3) : aPoss M s = pos M s := by
  unfold aPoss
  rw [if_pos (by omega)]
  rfl
theorem e_wat0 {M : St} {s : Nat} (hs : s < 3) : aWater M s 5 0 = ((wb M s 5 : Nat) : Int) := by
  unfold aWater
  rw [if_pos (by omega), if_pos rfl]
  rfl
theorem e_wat1 {M : St} {s : Nat} (hs : s < 3) : aWater M s 5 1 = ((isl M s 5 : Nat) : Int) := by
  unfold aWater
  rw [if_pos (by omega), if_neg (by decide)]
  rfl
theorem e_deed {M : St} {s : Nat} {k : Nat} (hs : s < 3) (hk : k < 3) : aDeed M s k = dee M s k := by
  unfold aDeed
  rw [if_pos (by omega)]
  rfl
theorem e_fault {M : St} {t : Nat} (ht : t < 4) : aFault M t = flt M t := by
  unfold aFault
  rw [if_pos (by omega)]
  rfl
theorem e_height {M : St} {y : Nat} (hy : (y : Int) < yds M) : aHeight M y = hgt M y := by
  unfold aHeight
  rw [if_pos (by omega)]
  rfl
/-- the class's loops -/
theorem QC.of_eq {A : Option Rt} {x : Int} {σ : St} (hI : Inv σ) (h : A = some (x, σ)) : ∃ σ1, A = some (x, σ1) ∧ QC σ1 σ := ⟨σ, h, QC.rf hI⟩
theorem d_X8_digestSpring_172 {σ0 : St} (hI0 : Inv σ0) {s : Nat} (hs : s < 3) {H : Int} : ∀ (n k : Nat) (σ : St) (v h : Int), QC σ σ0 → v = k → k ≤ 3 → h = dsA (fun k => aKeep (mv σ0) s 5 0 4 2 k) k H → 3 - k < n → ∃ σ', L_X8_digestSpring_172 n σ s h v = some (31 * dsA (fun k => aKeep (mv σ0) s 5 0 4 2 k) 3 H + aClosed (mv σ0) s 0, σ') ∧ QC σ' σ0
  | 0, k, σ, v, h, hq, hv, hk, hh, hn => by omega
  | n + 1, k, σ, v, h, hq, hv, hk, hh, hn => by
    subst hv
    subst hh
    have hI := hI0.qc hq
    have hm := hq.1.mv
    rw [L_X8_digestSpring_172, S_X8_digestSpring_172, chk_pos (by omega)]
    by_cases q : 3 ≤ (k : Int)
    · rw [if_pos q, show k = 3 by omega]
      obtain ⟨σ1, a1, a2⟩ := V_closed hI (s := s) (y := 0) (by omega) (by decide)
      rw [hm] at a1
      rw [a1, cll_pos, chk_pos r_closed]
      exact ⟨σ1, rfl, a2.tr hq⟩
    · obtain ⟨σ1, a1, a2⟩ := V_keep hI (s := s) (d := 5) (a := 0) (b := 4) (n := 2) (w := k) (by omega) (by decide) (by decide) (by decide) (by decide) (by omega)
      rw [hm] at a1
      rw [if_neg q, a1, cll_pos, chk_pos (r_keep hI0.2.1)]
      exact d_X8_digestSpring_172 hI0 hs n (k + 1) σ1 _ _ (a2.tr hq) (by omega) (by omega) rfl (by omega)
theorem d_X8_digestSpring_86 {σ0 : St} (hI0 : Inv σ0) {s : Nat} (hs : s < 3) {H : Int} : ∀ (n k : Nat) (σ : St) (v h : Int), QC σ σ0 → v = k → k ≤ 3 → h = dsA (fun k => dee (mv σ0) s k) k H → 3 - k < n → ∃ σ', L_X8_digestSpring_86 n σ s h v = some (31 * dsA (fun k => aKeep (mv σ0) s 5 0 4 2 k) 3 (31 * (31 * (31 * dsA (fun k => dee (mv σ0) s k) 3 H + aWaits (mv σ0) s 4 0 2 0) + aWaits (mv σ0) s 4 0 2 1) + aGoes (mv σ0) s 4 0 2) + aClosed (mv σ0) s 0, σ') ∧ QC σ' σ0
  | 0, k, σ, v, h, hq, hv, hk, hh, hn => by omega
  | n + 1, k, σ, v, h, hq, hv, hk, hh, hn => by
    subst hv
    subst hh
    have hI := hI0.qc hq
    have hm := hq.1.mv
    rw [L_X8_digestSpring_86, S_X8_digestSpring_86, chk_pos (by omega)]
    by_cases q : 3 ≤ (k : Int)
    · rw [if_pos q, show k = 3 by omega]
      obtain ⟨σ1, a1, a2⟩ := V_waits hI (s := s) (d := 4) (a := 0) (b := 2) (w := 0) (by omega) (by decide) (by decide) (by decide) (by decide)
      have hI1 := hI.qc a2
      obtain ⟨σ2, b1, b2⟩ := V_waits hI1 (s := s) (d := 4) (a := 0) (b := 2) (w := 1) (by omega) (by decide) (by decide) (by decide) (by decide)
      have hI2 := hI1.qc b2
      obtain ⟨σ3, c1, c2⟩ := V_goes hI2 (s := s) (d := 4) (a := 0) (b := 2) (by omega) (by decide) (by decide) (by decide)
      rw [b2.1.mv, a2.1.mv, hm] at c1
      rw [a2.1.mv, hm] at b1
      rw [hm] at a1
      rw [a1, cll_pos, b1, cll_pos, c1, cll_pos, chk_pos r_goes]
      exact d_X8_digestSpring_172 hI0 hs FU 0 σ3 0 _ (c2.tr (b2.tr (a2.tr hq))) rfl (by omega) rfl (by rw [FU_eq]; omega)
    · obtain ⟨σ1, a1, a2⟩ := V_deed hI (s := s) (w := k) (by omega) (by omega)
      rw [hm, e_deed hs (by omega)] at a1
      rw [if_neg q, a1, cll_pos, chk_pos (r_dee hI0.2.1)]
      exact d_X8_digestSpring_86 hI0 hs n (k + 1) σ1 _ _ (a2.tr hq) (by omega) (by omega) rfl (by omega)
theorem d_X8_digestSpring_51 {σ0 : St} (hI0 : Inv σ0) {s : Nat} (hs : s < 3) {H : Int} : ∀ (n k : Nat) (σ : St) (v h : Int), QC σ σ0 → v = k → k ≤ 3 → h = dsA (fun k => aCost (mv σ0) s 5 0 3 k) k H → 3 - k < n → ∃ σ', L_X8_digestSpring_51 n σ s h v = some (31 * dsA (fun k => aKeep (mv σ0) s 5 0 4 2 k) 3 (31 * (31 * (31 * dsA (fun k => dee (mv σ0) s k) 3 (dsA (fun k => aCost (mv σ0) s 5 0 3 k) 3 H) + aWaits (mv σ0) s 4 0 2 0) + aWaits (mv σ0) s 4 0 2 1) + aGoes (mv σ0) s 4 0 2) + aClosed (mv σ0) s 0, σ') ∧ QC σ' σ0
  | 0, k, σ, v, h, hq, hv, hk, hh, hn => by omega
  | n + 1, k, σ, v, h, hq, hv, hk, hh, hn => by
    subst hv
    subst hh
    have hI := hI0.qc hq
    have hm := hq.1.mv
    rw [L_X8_digestSpring_51, S_X8_digestSpring_51, chk_pos (by omega)]
    by_cases q : 3 ≤ (k : Int)
    · rw [if_pos q, show k = 3 by omega]
      exact d_X8_digestSpring_86 hI0 hs FU 0 σ 0 _ hq rfl (by omega) rfl (by rw [FU_eq]; omega)
    · obtain ⟨σ1, a1, a2⟩ := V_cost hI (s := s) (d := 5) (a := 0) (b := 3) (w := k) (by omega) (by decide) (by decide) (by decide) (by omega)
      rw [hm] at a1
      rw [if_neg q, a1, cll_pos, chk_pos (r_cost hI0.2.1)]
      exact d_X8_digestSpring_51 hI0 hs n (k + 1) σ1 _ _ (a2.tr hq) (by omega) (by omega) rfl (by omega)
theorem V_digestSpring {σ : St} (hI : Inv σ) {s : Nat} (hs : s < 3) {h : Int} : ∃ σ1, f_X8_digestSpring σ h s = some (spg (mv σ) s h, σ1) ∧ QC σ1 σ := by
  obtain ⟨σ1, a1, a2⟩ := V_possession hI (s := s) (by omega)
  have hI1 := hI.qc a2
  obtain ⟨σ2, b1, b2⟩ := V_water hI1 (s := s) (d := 5) (w := 0) (by omega) (by decide) (by decide)
  have hI2 := hI1.qc b2
  obtain ⟨σ3, c1, c2⟩ := V_water hI2 (s := s) (d := 5) (w := 1) (by omega) (by decide) (by decide)
  rw [e_poss hs] at a1
  rw [a2.1.mv, e_wat0 hs] at b1
  rw [b2.1.mv, a2.1.mv, e_wat1 hs] at c1
  have p := pos_rng hI.2.1 (s := s)
  have p2 := hI.2.1.set.1
  have w1 := wb_lt hI.2.1 (s := s) (d := 5)
  have w2 := isl_lt hI.2.1 (s := s) (d := 5)
  unfold f_X8_digestSpring
  rw [a1, cll_pos, chk_pos (by omega), b1, cll_pos, chk_pos (by omega), c1, cll_pos, chk_pos (by omega)]
  exact d_X8_digestSpring_51 hI hs FU 0 σ3 0 _ (c2.tr (b2.tr a2)) rfl (by omega) rfl (by rw [FU_eq]; omega)
theorem d_X8_digest_99 {σ0 : St} (hI0 : Inv σ0) : ∀ (n k : Nat) (σ : St) (v h : Int), QC σ σ0 → v = k → k ≤ 3 → h = spA (mv σ0) k (dg3 (mv σ0)) → 3 - k < n → ∃ σ', L_X8_digest_99 n σ h v = some (dig (mv σ0), σ') ∧ QC σ' σ0
  | 0, k, σ, v, h, hq, hv, hk, hh, hn => by omega
  | n + 1, k, σ, v, h, hq, hv, hk, hh, hn => by
    subst hv
    subst hh
    have hI := hI0.qc hq
    have hm := hq.1.mv
    rw [L_X8_digest_99, S_X8_digest_99, chk_pos (by omega)]
    by_cases q : 3 ≤ (k : Int)
    · rw [if_pos q, show k = 3 by omega]
      obtain ⟨σ1, a1, a2⟩ := V_never hI (w := 0) (by decide)
      have hI1 := hI.qc a2
      obtain ⟨σ2, b1, b2⟩ := V_never hI1 (w := 1) (by decide)
      have hI2 := hI1.qc b2
      obtain ⟨σ3, c1, c2⟩ := V_gain hI2 (w := 0) (by decide)
      have hI3 := hI2.qc c2
      obtain ⟨σ4, d1, d2⟩ := V_gain hI3 (w := 1) (by decide)
      have hI4 := hI3.qc d2
      obtain ⟨σ5, e1, e2⟩ := V_watch hI4
      have hI5 := hI4.qc e2
      obtain ⟨σ6, f1, f2⟩ := V_fit hI5
      rw [hm, show aNever (mv σ0) 0 = nev (mv σ0) 0 from rfl] at a1
      rw [a2.1.mv, hm, show aNever (mv σ0) 1 = nev (mv σ0) 1 from rfl] at b1
      rw [b2.1.mv, a2.1.mv, hm, show aGain (mv σ0) 0 = gai (mv σ0) 0 from rfl] at c1
      rw [c2.1.mv, b2.1.mv, a2.1.mv, hm, show aGain (mv σ0) 1 = gai (mv σ0) 1 from rfl] at d1
      rw [d2.1.mv, c2.1.mv, b2.1.mv, a2.1.mv, hm] at e1
      rw [e2.1.mv, d2.1.mv, c2.1.mv, b2.1.mv, a2.1.mv, hm] at f1
      rw [a1, cll_pos, chk_pos (r_nev hI0.2.1), b1, cll_pos, chk_pos (r_nev hI0.2.1), c1, cll_pos, d1, cll_pos, e1, cll_pos, chk_pos r_watch, f1, cll_pos, chk_pos r_fit]
      exact ⟨σ6, rfl, f2.tr (e2.tr (d2.tr (c2.tr (b2.tr (a2.tr hq)))))⟩
    · obtain ⟨σ1, a1, a2⟩ := V_digestSpring hI (s := k) (by omega) (h := spA (mv σ0) k (dg3 (mv σ0)))
      rw [hm] at a1
      rw [if_neg q, a1, cll_pos]
      exact d_X8_digest_99 hI0 n (k + 1) σ1 _ _ (a2.tr hq) (by omega) (by omega) rfl (by omega)
theorem d_X8_digest_70 {σ0 : St} (hI0 : Inv σ0) : ∀ (n k : Nat) (v h : Int), v = k → (k : Int) ≤ yds (mv σ0) → h = dsA (fun y => hgt (mv σ0) y) k (dsA (fun t => flt (mv σ0) t) 4 (dsA (fun k => cou (mv σ0) k) 8 17)) → 14 - k < n → ∃ σ', L_X8_digest_70 n σ0 h (yds (mv σ0)) v = some (dig (mv σ0), σ') ∧ QC σ' σ0
  | 0, k, v, h, hv, hk, hh, hn => by
    have := yds_rng hI0.2.1
    omega
  | n + 1, k, v, h, hv, hk, hh, hn => by
    subst hv
    subst hh
    have hy := yds_rng hI0.2.1
    rw [L_X8_digest_70, S_X8_digest_70, chk_pos (by omega), chk_pos (by omega)]
    by_cases q : yds (mv σ0) ≤ (k : Int)
    · rw [if_pos q, show k = (yds (mv σ0)).toNat by omega]
      exact d_X8_digest_99 hI0 FU 0 σ0 0 _ (QC.rf hI0) rfl (by omega) rfl (by rw [FU_eq]; omega)
    · have hh := hgt_rng (M := mv σ0) (y := k) (by omega)
      rw [if_neg q, V_height hI0 (by omega), cll_pos, e_height (by omega), chk_pos (by omega)]
      exact d_X8_digest_70 hI0 n (k + 1) _ _ (by omega) (by omega) rfl (by omega)
theorem d_X8_digest_33 {σ0 : St} (hI0 : Inv σ0) : ∀ (n k : Nat) (v h : Int), v = k → k ≤ 4 → h = dsA (fun t => flt (mv σ0) t) k (dsA (fun k => cou (mv σ0) k) 8 17) → 4 - k < n → ∃ σ', L_X8_digest_33 n σ0 h v = some (dig (mv σ0), σ') ∧ QC σ' σ0
  | 0, k, v, h, hv, hk, hh, hn => by omega
  | n + 1, k, v, h, hv, hk, hh, hn => by
    subst hv
    subst hh
    have hy := yds_rng hI0.2.1
    rw [L_X8_digest_33, S_X8_digest_33, chk_pos (by omega)]
    by_cases q : 4 ≤ (k : Int)
    · rw [if_pos q, show k = 4 by omega, v_told hI0.1 hI0.2.1 (by omega), cll_pos]
      exact d_X8_digest_70 hI0 FU 0 0 _ rfl (by omega) rfl (by rw [FU_eq]; omega)
    · have hr := flt_rng hI0.2.1 (t := k) (by omega)
      rw [if_neg q, V_fault hI0 (by omega), cll_pos, e_fault (by omega), chk_pos (by omega)]
      exact d_X8_digest_33 hI0 n (k + 1) _ _ (by omega) (by omega) rfl (by omega)
theorem d_X8_digest_6 {σ0 : St} (hI0 : Inv σ0) : ∀ (n k : Nat) (v h : Int), v = k → k ≤ 8 → h = dsA (fun k => cou (mv σ0) k) k 17 → 8 - k < n → ∃ σ', L_X8_digest_6 n σ0 h v = some (dig (mv σ0), σ') ∧ QC σ' σ0
  | 0, k, v, h, hv, hk, hh, hn => by omega
  | n + 1, k, v, h, hv, hk, hh, hn => by
    subst hv
    subst hh
    rw [L_X8_digest_6, S_X8_digest_6, chk_pos (by omega)]
    by_cases q : 7 < (k : Int)
    · rw [if_pos q, show k = 8 by omega]
      exact d_X8_digest_33 hI0 FU 0 0 _ rfl (by omega) rfl (by rw [FU_eq]; omega)
    · rw [if_neg q, V_count hI0 (by omega), cll_pos, chk_pos (r_cou hI0.2.1)]
      exact d_X8_digest_6 hI0 n (k + 1) _ _ (by omega) (by omega) rfl (by omega)
theorem V_digest {σ : St} (hI : Inv σ) : ∃ σ1, f_X8_digest σ = some (dig (mv σ), σ1) ∧ QC σ1 σ := by
  unfold f_X8_digest
  exact d_X8_digest_6 hI FU 0 0 _ rfl (by omega) rfl (by rw [FU_eq]; omega)
/-- the reference's loops -/
def MS (σ : St) : Prop := MI (mv σ) ∧ GN σ ∧ σ 58 9 ≤ 8
theorem MS.qm {σ' σ : St} (h : MS σ) (q : QM σ' σ) : MS σ' := ⟨by rw [q.2.1]; exact h.1, q.2.2 h.2.1, by
  have e : σ' 58 9 = σ 58 9 := congrFun (congrFun q.2.1 0) 9
  rw [e]; exact h.2.2⟩
theorem Inv.ms {σ : St} (h : Inv σ) : MS σ := ⟨h.2.1, h.2.2.1, h.1.2.2.2.1.2.1⟩
theorem QM.of_eq {A : Option Rt} {x : Int} {σ : St} (h : A = some (x, σ)) : ∃ σ1, A = some (x, σ1) ∧ QM σ1 σ := ⟨σ, h, QM.rf σ⟩
theorem e_X9_digest_251 {σ0 : St} (hI0 : MS σ0) {s : Nat} (hs : s < 3) {rec88 : St → Int → Int → Option Rt} {H : Int} : ∀ (n k : Nat) (σ : St) (v h : Int), QM σ σ0 → v = k → k ≤ 3 → h = dsA (fun k => aKeep (mv σ0) s 5 0 4 2 k) k H → 3 - k < n → ∃ σ', L_X9_digest_251 rec88 n σ h s v = rec88 σ' (31 * dsA (fun k => aKeep (mv σ0) s 5 0 4 2 k) 3 H + aClosed (mv σ0) s 0) (s + 1) ∧ QM σ' σ0
  | 0, k, σ, v, h, hq, hv, hk, hh, hn => by omega
  | n + 1, k, σ, v, h, hq, hv, hk, hh, hn => by
    subst hv
    subst hh
    have hI := hI0.qm hq
    have hm := hq.2.1
    rw [L_X9_digest_251, S_X9_digest_251, chk_pos (by omega)]
    by_cases q : 3 ≤ (k : Int)
    · rw [if_pos q, show k = 3 by omega]
      rw [N_closed hI.1 (by omega) (by decide), hm, cll_pos, chk_pos r_closed]
      exact ⟨σ, rfl, hq⟩
    · obtain ⟨σ1, a1, a2⟩ := N_keep hI.1 hI.2.2 (s := s) (d := 5) (a := 0) (b := 4) (n := 2) (w := k) (by omega) (by decide) (by decide) (by decide) (by decide) (by omega)
      rw [hm] at a1
      rw [if_neg q, a1, cll_pos, chk_pos (r_keep hI0.1)]
      exact e_X9_digest_251 hI0 hs n (k + 1) σ1 _ _ (a2.tr hq) (by omega) (by omega) rfl (by omega)
theorem e_X9_digest_203 {σ0 : St} (hI0 : MS σ0) {s : Nat} (hs : s < 3) {rec88 : St → Int → Int → Option Rt} {H : Int} : ∀ (n k : Nat) (σ : St) (v h : Int), QM σ σ0 → v = k → k ≤ 2 → h = dsA (fun k => aWaits (mv σ0) s 4 0 2 k) k H → 2 - k < n → ∃ σ', L_X9_digest_203 rec88 n σ h s v = rec88 σ' (31 * dsA (fun k => aKeep (mv σ0) s 5 0 4 2 k) 3 (31 * dsA (fun k => aWaits (mv σ0) s 4 0 2 k) 2 H + aGoes (mv σ0) s 4 0 2) + aClosed (mv σ0) s 0) (s + 1) ∧ QM σ' σ0
  | 0, k, σ, v, h, hq, hv, hk, hh, hn => by omega
  | n + 1, k, σ, v, h, hq, hv, hk, hh, hn => by
    subst hv
    subst hh
    have hI := hI0.qm hq
    have hm := hq.2.1
    rw [L_X9_digest_203, S_X9_digest_203, chk_pos (by omega)]
    by_cases q : 2 ≤ (k : Int)
    · rw [if_pos q, show k = 2 by omega]
      obtain ⟨σ1, a1, a2⟩ := N_goes hI.1 hI.2.1 (s := s) (d := 4) (a := 0) (b := 2) (by omega) (by decide) (by decide) (by decide)
      rw [hm] at a1
      rw [a1, cll_pos, chk_pos r_goes]
      exact e_X9_digest_251 hI0 hs FU 0 σ1 0 _ (a2.tr hq) rfl (by omega) rfl (by rw [FU_eq]; omega)
    · obtain ⟨σ1, a1, a2⟩ := N_waits hI.1 hI.2.1 (s := s) (d := 4) (a := 0) (b := 2) (w := k) (by omega) (by decide) (by decide) (by decide) (by omega)
      rw [hm] at a1
      rw [if_neg q, a1, cll_pos]
      exact e_X9_digest_203 hI0 hs n (k + 1) σ1 _ _ (a2.tr hq) (by omega) (by omega) rfl (by omega)
theorem e_X9_digest_173 {σ0 : St} (hI0 : MS σ0) {s : Nat} (hs : s < 3) {rec88 : St → Int → Int → Option Rt} {H : Int} : ∀ (n k : Nat) (σ : St) (v h : Int), QM σ σ0 → v = k → k ≤ 3 → h = dsA (fun k => dee (mv σ0) s k) k H → 3 - k < n → ∃ σ', L_X9_digest_173 rec88 n σ h s v = rec88 σ' (31 * dsA (fun k => aKeep (mv σ0) s 5 0 4 2 k) 3 (31 * dsA (fun k => aWaits (mv σ0) s 4 0 2 k) 2 (dsA (fun k => dee (mv σ0) s k) 3 H) + aGoes (mv σ0) s 4 0 2) + aClosed (mv σ0) s 0) (s + 1) ∧ QM σ' σ0
  | 0, k, σ, v, h, hq, hv, hk, hh, hn => by omega
  | n + 1, k, σ, v, h, hq, hv, hk, hh, hn => by
    subst hv
    subst hh
    have hI := hI0.qm hq
    have hm := hq.2.1
    rw [L_X9_digest_173, S_X9_digest_173, chk_pos (by omega)]
    by_cases q : 3 ≤ (k : Int)
    · rw [if_pos q, show k = 3 by omega]
      exact e_X9_digest_203 hI0 hs FU 0 σ 0 _ hq rfl (by omega) rfl (by rw [FU_eq]; omega)
    · obtain ⟨σ1, a1, a2⟩ := QM.of_eq (m_deedOf hI.1 (s := s) (w := k) (by omega) (by omega))
      rw [hm] at a1
      rw [if_neg q, a1, cll_pos, chk_pos (r_dee hI0.1)]
      exact e_X9_digest_173 hI0 hs n (k + 1) σ1 _ _ (a2.tr hq) (by omega) (by omega) rfl (by omega)
theorem e_X9_digest_140 {σ0 : St} (hI0 : MS σ0) {s : Nat} (hs : s < 3) {rec88 : St → Int → Int → Option Rt} {H : Int} : ∀ (n k : Nat) (σ : St) (v h : Int), QM σ σ0 → v = k → k ≤ 3 → h = dsA (fun k => aCost (mv σ0) s 5 0 3 k) k H → 3 - k < n → ∃ σ', L_X9_digest_140 rec88 n σ h s v = rec88 σ' (31 * dsA (fun k => aKeep (mv σ0) s 5 0 4 2 k) 3 (31 * dsA (fun k => aWaits (mv σ0) s 4 0 2 k) 2 (dsA (fun k => dee (mv σ0) s k) 3 (dsA (fun k => aCost (mv σ0) s 5 0 3 k) 3 H)) + aGoes (mv σ0) s 4 0 2) + aClosed (mv σ0) s 0) (s + 1) ∧ QM σ' σ0
  | 0, k, σ, v, h, hq, hv, hk, hh, hn => by omega
  | n + 1, k, σ, v, h, hq, hv, hk, hh, hn => by
    subst hv
    subst hh
    have hI := hI0.qm hq
    have hm := hq.2.1
    rw [L_X9_digest_140, S_X9_digest_140, chk_pos (by omega)]
    by_cases q : 3 ≤ (k : Int)
    · rw [if_pos q, show k = 3 by omega]
      exact e_X9_digest_173 hI0 hs FU 0 σ 0 _ hq rfl (by omega) rfl (by rw [FU_eq]; omega)
    · obtain ⟨σ1, a1, a2⟩ := QM.of_eq (N_cost hI.1 (s := s) (d := 5) (a := 0) (b := 3) (w := k) (by omega) (by decide) (by decide) (by decide) (by omega))
      rw [hm] at a1
      rw [if_neg q, a1, cll_pos, chk_pos (r_cost hI0.1)]
      exact e_X9_digest_140 hI0 hs n (k + 1) σ1 _ _ (a2.tr hq) (by omega) (by omega) rfl (by omega)
theorem m_wat {σ : St} (hM : MI (mv σ)) {s k : Nat} (hs : s < 3) (hk : k < 2) : f_X9_waterOf σ s 5 k = some (if (k : Int) = 0 then ((wb (mv σ) s 5 : Nat) : Int) else ((isl (mv σ) s 5 : Nat) : Int), σ) := by
  have h := m_waterOf hM (s := s) (d := 5) hs (by omega) (w := k) (by omega)
  rw [show ((5 : Nat) : Int) = 5 from rfl] at h
  rw [h]
  split <;> rfl
theorem r_wat {M : St} (hM : MI M) {s k : Nat} : in32 (if (k : Int) = 0 then ((wb M s 5 : Nat) : Int) else ((isl M s 5 : Nat) : Int)) := by
  have w1 := wb_lt hM (s := s) (d := 5)
  have w2 := isl_lt hM (s := s) (d := 5)
  split <;> omega
theorem e_X9_digest_109 {σ0 : St} (hI0 : MS σ0) {s : Nat} (hs : s < 3) {rec88 : St → Int → Int → Option Rt} {H : Int} : ∀ (n k : Nat) (σ : St) (v h : Int), QM σ σ0 → v = k → k ≤ 2 → h = dsA (fun k => if (k : Int) = 0 then ((wb (mv σ0) s 5 : Nat) : Int) else ((isl (mv σ0) s 5 : Nat) : Int)) k H → 2 - k < n → ∃ σ', L_X9_digest_109 rec88 n σ h s v = rec88 σ' (31 * dsA (fun k => aKeep (mv σ0) s 5 0 4 2 k) 3 (31 * dsA (fun k => aWaits (mv σ0) s 4 0 2 k) 2 (dsA (fun k => dee (mv σ0) s k) 3 (dsA (fun k => aCost (mv σ0) s 5 0 3 k) 3 (dsA (fun k => if (k : Int) = 0 then ((wb (mv σ0) s 5 : Nat) : Int) else ((isl (mv σ0) s 5 : Nat) : Int)) 2 H))) + aGoes (mv σ0) s 4 0 2) + aClosed (mv σ0) s 0) (s + 1) ∧ QM σ' σ0
  | 0, k, σ, v, h, hq, hv, hk, hh, hn => by omega
  | n + 1, k, σ, v, h, hq, hv, hk, hh, hn => by
    subst hv
    subst hh
    have hI := hI0.qm hq
    have hm := hq.2.1
    rw [L_X9_digest_109, S_X9_digest_109, chk_pos (by omega)]
    by_cases q : 2 ≤ (k : Int)
    · rw [if_pos q, show k = 2 by omega]
      exact e_X9_digest_140 hI0 hs FU 0 σ 0 _ hq rfl (by omega) rfl (by rw [FU_eq]; omega)
    · obtain ⟨σ1, a1, a2⟩ := QM.of_eq (m_wat hI.1 (s := s) (k := k) (by omega) (by omega))
      rw [hm] at a1
      rw [if_neg q, a1, cll_pos, chk_pos (r_wat hI0.1)]
      exact e_X9_digest_109 hI0 hs n (k + 1) σ1 _ _ (a2.tr hq) (by omega) (by omega) rfl (by omega)
theorem spg_eq {M : St} {s : Nat} {h : Int} : 31 * dsA (fun k => aKeep M s 5 0 4 2 k) 3 (31 * dsA (fun k => aWaits M s 4 0 2 k) 2 (dsA (fun k => dee M s k) 3 (dsA (fun k => aCost M s 5 0 3 k) 3 (dsA (fun k => if (k : Int) = 0 then ((wb M s 5 : Nat) : Int) else ((isl M s 5 : Nat) : Int)) 2 (31 * h + pos M s)))) + aGoes M s 4 0 2) + aClosed M s 0 = spg M s h := by
  have e1 : dsA (fun k => if (k : Int) = 0 then ((wb M s 5 : Nat) : Int) else ((isl M s 5 : Nat) : Int)) 2 (31 * h + pos M s) = sp1 M s h := rfl
  rw [e1]
  rfl
theorem e_X9_digest_330 {σ0 : St} (hI0 : MS σ0) {H : Int} : ∀ (n k : Nat) (σ : St) (v h : Int), QM σ σ0 → v = k → k ≤ 2 → h = dsA (fun k => gai (mv σ0) k) k H → 2 - k < n → ∃ σ', L_X9_digest_330 n σ h v = some (31 * (31 * dsA (fun k => gai (mv σ0) k) 2 H + ((wcA (mv σ0) 30 : Nat) : Int)) + ((fitB (mv σ0) : Nat) : Int), σ') ∧ QM σ' σ0
  | 0, k, σ, v, h, hq, hv, hk, hh, hn => by omega
  | n + 1, k, σ, v, h, hq, hv, hk, hh, hn => by
    subst hv
    subst hh
    have hI := hI0.qm hq
    have hm := hq.2.1
    rw [L_X9_digest_330, S_X9_digest_330, chk_pos (by omega)]
    by_cases q : 2 ≤ (k : Int)
    · rw [if_pos q, show k = 2 by omega, m_watchNow hI.1, hm, cll_pos, chk_pos r_watch, m_fitNow hI.1, hm, cll_pos, chk_pos r_fit]
      exact ⟨σ, rfl, hq⟩
    · obtain ⟨σ1, a1, a2⟩ := m_gainOf hI.1 (w := k) (by omega)
      rw [hm] at a1
      rw [if_neg q, a1, cll_pos]
      exact e_X9_digest_330 hI0 n (k + 1) σ1 _ _ (a2.tr hq) (by omega) (by omega) rfl (by omega)
theorem e_X9_digest_304 {σ0 : St} (hI0 : MS σ0) {H : Int} : ∀ (n k : Nat) (σ : St) (v h : Int), QM σ σ0 → v = k → k ≤ 2 → h = dsA (fun k => nev (mv σ0) k) k H → 2 - k < n → ∃ σ', L_X9_digest_304 n σ h v = some (31 * (31 * dsA (fun k => gai (mv σ0) k) 2 (dsA (fun k => nev (mv σ0) k) 2 H) + ((wcA (mv σ0) 30 : Nat) : Int)) + ((fitB (mv σ0) : Nat) : Int), σ') ∧ QM σ' σ0
  | 0, k, σ, v, h, hq, hv, hk, hh, hn => by omega
  | n + 1, k, σ, v, h, hq, hv, hk, hh, hn => by
    subst hv
    subst hh
    have hI := hI0.qm hq
    have hm := hq.2.1
    rw [L_X9_digest_304, S_X9_digest_304, chk_pos (by omega)]
    by_cases q : 2 ≤ (k : Int)
    · rw [if_pos q, show k = 2 by omega]
      exact e_X9_digest_330 hI0 FU 0 σ 0 _ hq rfl (by omega) rfl (by rw [FU_eq]; omega)
    · obtain ⟨σ1, a1, a2⟩ := m_neverOf hI.1 (w := k) (by omega)
      rw [hm] at a1
      rw [if_neg q, a1, cll_pos, chk_pos (r_nev hI0.1)]
      exact e_X9_digest_304 hI0 n (k + 1) σ1 _ _ (a2.tr hq) (by omega) (by omega) rfl (by omega)
theorem e_X9_digest_88 {σ0 : St} (hI0 : MS σ0) : ∀ (n k : Nat) (σ : St) (v h : Int), QM σ σ0 → v = k → k ≤ 3 → h = spA (mv σ0) k (dg3 (mv σ0)) → 3 - k < n → ∃ σ', L_X9_digest_88 n σ h v = some (dig (mv σ0), σ') ∧ QM σ' σ0
  | 0, k, σ, v, h, hq, hv, hk, hh, hn => by omega
  | n + 1, k, σ, v, h, hq, hv, hk, hh, hn => by
    subst hv
    subst hh
    have hI := hI0.qm hq
    have hm := hq.2.1
    rw [L_X9_digest_88, S_X9_digest_88, chk_pos (by omega)]
    by_cases q : 3 ≤ (k : Int)
    · rw [if_pos q, show k = 3 by omega]
      exact e_X9_digest_304 hI0 (H := dg4 (mv σ0)) FU 0 σ 0 _ hq rfl (by omega) rfl (by rw [FU_eq]; omega)
    · have p := pos_rng hI0.1 (s := k)
      have p2 := hI0.1.set.1
      obtain ⟨σ1, a1, a2⟩ := e_X9_digest_109 hI0 (s := k) (by omega) (rec88 := L_X9_digest_88 n) (H := 31 * spA (mv σ0) k (dg3 (mv σ0)) + pos (mv σ0) k) FU 0 σ 0 _ hq rfl (by omega) rfl (by rw [FU_eq]; omega)
      rw [spg_eq] at a1
      rw [if_neg q, m_possessionOf hI.1 (by omega), hm, cll_pos, chk_pos (by omega)]
      have a1' := a1
      rw [dsA] at a1'
      rw [show L_X9_digest_109 (L_X9_digest_88 n) FU σ (31 * spA (mv σ0) k (dg3 (mv σ0)) + pos (mv σ0) k) (k : Int) 0 = _ from a1]
      exact e_X9_digest_88 hI0 n (k + 1) σ1 _ _ a2 (by omega) (by omega) rfl (by omega)
theorem e_X9_digest_59 {σ0 : St} (hI0 : MS σ0) : ∀ (n k : Nat) (v h : Int), v = k → (k : Int) ≤ yds (mv σ0) → h = dsA (fun y => hgt (mv σ0) y) k (dsA (fun t => flt (mv σ0) t) 4 (dsA (fun k => cou (mv σ0) k) 8 17)) → 14 - k < n → ∃ σ', L_X9_digest_59 n σ0 h v = some (dig (mv σ0), σ') ∧ QM σ' σ0
  | 0, k, v, h, hv, hk, hh, hn => by
    have := yds_rng hI0.1
    omega
  | n + 1, k, v, h, hv, hk, hh, hn => by
    subst hv
    subst hh
    have hy := yds_rng hI0.1
    rw [L_X9_digest_59, S_X9_digest_59, m_yards hI0.1, cll_pos, chk_pos (by omega), chk_pos (by omega)]
    by_cases q : yds (mv σ0) ≤ (k : Int)
    · rw [if_pos q, show k = (yds (mv σ0)).toNat by omega]
      exact e_X9_digest_88 hI0 FU 0 σ0 0 _ (QM.rf σ0) rfl (by omega) rfl (by rw [FU_eq]; omega)
    · have hh := hgt_rng (M := mv σ0) (y := k) (by omega)
      rw [if_neg q, m_heightOf (by omega), cll_pos, chk_pos (by omega)]
      exact e_X9_digest_59 hI0 n (k + 1) _ _ (by omega) (by omega) rfl (by omega)
theorem e_X9_digest_33 {σ0 : St} (hI0 : MS σ0) : ∀ (n k : Nat) (v h : Int), v = k → k ≤ 4 → h = dsA (fun t => flt (mv σ0) t) k (dsA (fun k => cou (mv σ0) k) 8 17) → 4 - k < n → ∃ σ', L_X9_digest_33 n σ0 h v = some (dig (mv σ0), σ') ∧ QM σ' σ0
  | 0, k, v, h, hv, hk, hh, hn => by omega
  | n + 1, k, v, h, hv, hk, hh, hn => by
    subst hv
    subst hh
    have hy := yds_rng hI0.1
    rw [L_X9_digest_33, S_X9_digest_33, chk_pos (by omega)]
    by_cases q : 4 ≤ (k : Int)
    · rw [if_pos q, show k = 4 by omega]
      exact e_X9_digest_59 hI0 FU 0 0 _ rfl (by omega) rfl (by rw [FU_eq]; omega)
    · have hr := flt_rng hI0.1 (t := k) (by omega)
      rw [if_neg q, m_faultOf hI0.1 (by omega), cll_pos, chk_pos (by omega)]
      exact e_X9_digest_33 hI0 n (k + 1) _ _ (by omega) (by omega) rfl (by omega)
theorem e_X9_digest_6 {σ0 : St} (hI0 : MS σ0) : ∀ (n k : Nat) (v h : Int), v = k → k ≤ 8 → h = dsA (fun k => cou (mv σ0) k) k 17 → 8 - k < n → ∃ σ', L_X9_digest_6 n σ0 h v = some (dig (mv σ0), σ') ∧ QM σ' σ0
  | 0, k, v, h, hv, hk, hh, hn => by omega
  | n + 1, k, v, h, hv, hk, hh, hn => by
    subst hv
    subst hh
    rw [L_X9_digest_6, S_X9_digest_6, chk_pos (by omega)]
    by_cases q : 8 ≤ (k : Int)
    · rw [if_pos q, show k = 8 by omega]
      exact e_X9_digest_33 hI0 FU 0 0 _ rfl (by omega) rfl (by rw [FU_eq]; omega)
    · rw [if_neg q, m_count hI0.1 (by omega), cll_pos, chk_pos (r_cou hI0.1)]
      exact e_X9_digest_6 hI0 n (k + 1) _ _ (by omega) (by omega) rfl (by omega)
theorem N_digest {σ : St} (hI : MS σ) : ∃ σ1, f_X9_digest σ = some (dig (mv σ), σ1) ∧ QM σ1 σ := by
  unfold f_X9_digest
  exact e_X9_digest_6 hI FU 0 0 _ rfl (by omega) rfl (by rw [FU_eq]; omega)
