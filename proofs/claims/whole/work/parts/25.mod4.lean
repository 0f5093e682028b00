/-! THE REFERENCE: worths, fractions, waits, goes -/
theorem mv_congr {σ' σ : St} (h59 : σ' 59 = σ 59) (h60 : σ' 60 = σ 60) (h61 : σ' 61 = σ 61) (h63 : σ' 63 = σ 63) (h64 : σ' 64 = σ 64) (h65 : σ' 65 = σ 65) (h66 : σ' 66 = σ 66) (h69 : σ' 69 = σ 69) (h70 : σ' 70 = σ 70) (h4 : σ' 58 4 = σ 58 4) (h9 : σ' 58 9 = σ 58 9) (hf : σ' 58 17 = σ 58 17) (h67 : ∀ j : Nat, (j : Int) < 3 * σ 58 9 → σ' 67 j = σ 67 j) : mv σ' = mv σ := by
  have e67 : (fun j : Nat => if (j : Int) < 3 * σ' 58 9 then σ' 67 j else 0) = (fun j : Nat => if (j : Int) < 3 * σ 58 9 then σ 67 j else 0) := by
    funext j
    rw [h9]
    by_cases q : (j : Int) < 3 * σ 58 9
    · rw [if_pos q, if_pos q, h67 j q]
    · rw [if_neg q, if_neg q]
  funext k j
  match k with
  | 0 =>
    match j with
    | 4 => exact h4
    | 9 => exact h9
    | 17 => exact hf
    | 0 | 1 | 2 | 3 | 5 | 6 | 7 | 8 | 10 | 11 | 12 | 13 | 14 | 15 | 16 => rfl
    | n + 18 => rfl
  | 1 => exact congrFun h59 j
  | 2 => exact congrFun h60 j
  | 3 => exact congrFun h61 j
  | 4 => rfl
  | 5 => exact congrFun h63 j
  | 6 => exact congrFun h64 j
  | 7 => exact congrFun h65 j
  | 8 => exact congrFun h66 j
  | 9 => exact congrFun e67 j
  | 10 => rfl
  | 11 => exact congrFun h69 j
  | 12 => exact congrFun h70 j
  | n + 13 => rfl
/-- only the worths and 'goes now' have changed -/
def FW (σ' σ : St) : Prop := (∀ k, k ≠ 68 → k ≠ 58 → σ' k = σ k) ∧ (∀ j, j ≠ 12 → σ' 58 j = σ 58 j)
theorem FW.rf (σ : St) : FW σ σ := ⟨fun _ _ _ => rfl, fun _ _ => rfl⟩
theorem FW.tr {a b c : St} (h1 : FW a b) (h2 : FW b c) : FW a c := ⟨fun k q1 q2 => (h1.1 k q1 q2).trans (h2.1 k q1 q2), fun j q => (h1.2 j q).trans (h2.2 j q)⟩
theorem FW.mv {σ' σ : St} (h : FW σ' σ) : mv σ' = mv σ :=
  mv_congr (h.1 59 (by decide) (by decide)) (h.1 60 (by decide) (by decide)) (h.1 61 (by decide) (by decide)) (h.1 63 (by decide) (by decide)) (h.1 64 (by decide) (by decide)) (h.1 65 (by decide) (by decide)) (h.1 66 (by decide) (by decide)) (h.1 69 (by decide) (by decide)) (h.1 70 (by decide) (by decide)) (h.2 4 (by decide)) (h.2 9 (by decide)) (h.2 17 (by decide)) (fun j _ => by rw [h.1 67 (by decide) (by decide)])
def GN (σ : St) : Prop := σ 58 12 = 0 ∨ σ 58 12 = 1
theorem wor_step (M : St) (a b s : Nat) {d : Nat} (hd : d < 29) : worA M a b (29 - d) s = min (nowW M a b s d) (latW M a b s d) := by
  obtain ⟨r, hr⟩ : ∃ r, 29 - d = r + 1 := ⟨28 - d, by omega⟩
  rw [hr, worA, show 28 - r = d by omega]
  unfold latW
  rw [show 28 - d = r by omega]
theorem fw_su {σ : St} {i : Nat} {x g : Int} : FW (su (su σ 68 i x) 58 12 g) σ := by
  refine ⟨fun k h1 h2 => ?_, fun j h => ?_⟩
  · rw [su_ne k h2, su_ne k h1]
  · rw [su_eq, if_neg h, su_ne 58 (by decide)]
theorem m_fw99 {σ : St} (hg : GN σ) {s fr d t p3 p4 : Nat} {now lat x : Int} (hs : s < 3) (hf : fr < 30) (hd : d < 30) (ht : t < 3) (hn : 0 ≤ now ∧ now ≤ 1000000) (hl : 0 ≤ lat ∧ lat ≤ 1000000) {rec4 : St → Int → Int → Int → Int → Int → Option Rt} {rec13 : St → Int → Int → Int → Int → Int → Int → Option Rt} :
    ∃ g : Int, (g = 0 ∨ g = 1) ∧ B_X9_findWorths_99 rec4 rec13 σ s fr p3 p4 d t now lat x (3 * (d : Int) + t) = rec13 (su (su σ 68 (3 * d + t) x) 58 12 g) s fr p3 p4 d (t + 1) ∧ (d = fr → t = s → g = if now ≤ lat then 1 else 0) ∧ (¬ (d = fr ∧ t = s) → g = σ 58 12) := by
  have e : (3 * (d : Int) + t).toNat = 3 * d + t := by omega
  have e2 : su σ 68 (3 * d + t) x 58 12 = σ 58 12 := by rw [su_ne 58 (by decide)]
  unfold B_X9_findWorths_99
  rw [chk_pos (by omega), chk_pos (by omega), chk_pos (by omega), e]
  by_cases q : d = fr
  · rw [if_pos (by omega), chk_pos (by omega), chk_pos (by omega)]
    by_cases z : t = s
    · rw [if_pos (by omega), chk_pos (by omega), chk_pos (by omega)]
      by_cases y : lat < now
      · exact ⟨0, Or.inl rfl, by rw [if_pos y], fun _ _ => by rw [if_neg (by omega)], fun h => absurd ⟨q, z⟩ h⟩
      · exact ⟨1, Or.inr rfl, by rw [if_neg y], fun _ _ => by rw [if_pos (by omega)], fun h => absurd ⟨q, z⟩ h⟩
    · rw [if_neg (by omega), e2, chk_pos (show σ 58 12 = 0 ∨ σ 58 12 = 1 from hg)]
      exact ⟨σ 58 12, hg, rfl, fun _ h => absurd h z, fun _ => rfl⟩
  · rw [if_neg (by omega), e2, chk_pos (show σ 58 12 = 0 ∨ σ 58 12 = 1 from hg)]
    exact ⟨σ 58 12, hg, rfl, fun h => absurd h q, fun _ => rfl⟩
theorem m_fw71 {σ : St} (hg : GN σ) {s fr d t p3 p4 : Nat} {now lat : Int} (hs : s < 3) (hf : fr < 30) (hd : d < 30) (ht : t < 3) (hn : 0 ≤ now ∧ now ≤ 1000000) (hl : 0 ≤ lat ∧ lat ≤ 1000000) {rec4 : St → Int → Int → Int → Int → Int → Option Rt} {rec13 : St → Int → Int → Int → Int → Int → Int → Option Rt} :
    ∃ g : Int, (g = 0 ∨ g = 1) ∧ B_X9_findWorths_71 rec4 rec13 σ s fr p3 p4 d t now lat = rec13 (su (su σ 68 (3 * d + t) (min now lat)) 58 12 g) s fr p3 p4 d (t + 1) ∧ (d = fr → t = s → g = if now ≤ lat then 1 else 0) ∧ (¬ (d = fr ∧ t = s) → g = σ 58 12) := by
  unfold B_X9_findWorths_71
  rw [chk_pos (by omega), chk_pos (by omega)]
  by_cases q : lat ≤ now
  · rw [if_pos q, show min now lat = lat by omega]
    exact m_fw99 hg hs hf hd ht hn hl
  · rw [if_neg q, show min now lat = now by omega]
    exact m_fw99 hg hs hf hd ht hn hl
theorem m_fwL2 {M : St} (hM : MI M) {s fr d p3 p4 : Nat} (hs : s < 3) (hf : fr < 30) (hd : d < 30) (h3 : p3 < 12) (h4 : p4 < 12) {rec4 : St → Int → Int → Int → Int → Int → Option Rt} :
    ∀ (n t : Nat) (σ : St) (v : Int), mv σ = M → GN σ → (d < 29 → ∀ t, t < 3 → σ 68 (3 * (d + 1) + t) = worA M (min p3 p4) (max p3 p4) (28 - d) t) → (∀ t', t' < t → σ 68 (3 * d + t') = worA M (min p3 p4) (max p3 p4) (29 - d) t') → (d = fr → s < t → σ 58 12 = if goe M (min p3 p4) (max p3 p4) s d then 1 else 0) → v = t → t ≤ 3 → 3 - t < n →
    ∃ σ', L_X9_findWorths_13 rec4 n σ s fr p3 p4 d v = rec4 σ' s fr p3 p4 (d + (-1)) ∧ FW σ' σ ∧ GN σ' ∧ (∀ t, t < 3 → σ' 68 (3 * d + t) = worA M (min p3 p4) (max p3 p4) (29 - d) t) ∧ (d = fr → σ' 58 12 = if goe M (min p3 p4) (max p3 p4) s d then 1 else 0)
  | 0, t, σ, v, hm, hg, hN, hP, hG, hv, ht, hn => by omega
  | n + 1, t, σ, v, hm, hg, hN, hP, hG, hv, ht, hn => by
    subst hv
    rw [L_X9_findWorths_13, S_X9_findWorths_13, chk_pos (by omega)]
    by_cases q : 3 ≤ (t : Int)
    · rw [if_pos q]
      exact ⟨σ, rfl, FW.rf σ, hg, fun t' h => hP t' (by omega), fun h => hG h (by omega)⟩
    · have hM' : MI (mv σ) := by rw [hm]; exact hM
      have hc := cst_rng hM (s := t) (d := d) (a := min p3 p4) (b := max p3 p4) (by omega) (by omega)
      have hnw := now_rng hM (s := t) (d := d) (a := min p3 p4) (b := max p3 p4) (by omega) (by omega)
      have hlt := lat_rng hM (s := t) (d := d) (a := min p3 p4) (b := max p3 p4) (by omega) (by omega)
      have hcs : csw (mv σ) t d (min p3 p4) (max p3 p4) 0 = cst M t d (min p3 p4) (max p3 p4) := by rw [hm]; rfl
      rw [if_neg q, m_alike hM' (by omega) (by omega), cll_pos, m_weiOf hM', cll_pos, m_costOf hM' (by omega) hd h3 h4 (by decide), cll_pos, hcs, chk_pos (by omega), chk_pos (by omega)]
      have hno : wei (mv σ) t d * cst M t d (min p3 p4) (max p3 p4) = nowW M (min p3 p4) (max p3 p4) t d := by rw [hm]; rfl
      rw [hno]
      -- one step, whatever the later worth is
      have go : ∀ lat : Int, 0 ≤ lat ∧ lat ≤ 1000000 → min (nowW M (min p3 p4) (max p3 p4) t d) lat = worA M (min p3 p4) (max p3 p4) (29 - d) t → (nowW M (min p3 p4) (max p3 p4) t d ≤ lat ↔ goe M (min p3 p4) (max p3 p4) t d = true) →
          ∃ σ', B_X9_findWorths_71 rec4 (L_X9_findWorths_13 rec4 n) σ s fr p3 p4 d t (nowW M (min p3 p4) (max p3 p4) t d) lat = rec4 σ' s fr p3 p4 (d + (-1)) ∧ FW σ' σ ∧ GN σ' ∧ (∀ t, t < 3 → σ' 68 (3 * d + t) = worA M (min p3 p4) (max p3 p4) (29 - d) t) ∧ (d = fr → σ' 58 12 = if goe M (min p3 p4) (max p3 p4) s d then 1 else 0) := by
        intro lat hl hmin hgo
        obtain ⟨g, g1, g2, g3, g4⟩ := m_fw71 hg (s := s) (fr := fr) (d := d) (t := t) (p3 := p3) (p4 := p4) (now := nowW M (min p3 p4) (max p3 p4) t d) (lat := lat) hs hf hd (by omega) (by omega) hl (rec4 := rec4) (rec13 := L_X9_findWorths_13 rec4 n)
        rw [g2]
        have F := fw_su (σ := σ) (i := 3 * d + t) (x := min (nowW M (min p3 p4) (max p3 p4) t d) lat) (g := g)
        have rd : ∀ j, su (su σ 68 (3 * d + t) (min (nowW M (min p3 p4) (max p3 p4) t d) lat)) 58 12 g 68 j = if j = 3 * d + t then min (nowW M (min p3 p4) (max p3 p4) t d) lat else σ 68 j := fun j => by
          rw [su_ne 68 (by decide), su_eq]
        have rg : su (su σ 68 (3 * d + t) (min (nowW M (min p3 p4) (max p3 p4) t d) lat)) 58 12 g 58 12 = g := by rw [su_eq, if_pos rfl]
        obtain ⟨σ', k1, k2, k3, k4, k5⟩ := m_fwL2 hM hs hf hd h3 h4 (rec4 := rec4) n (t + 1) (su (su σ 68 (3 * d + t) (min (nowW M (min p3 p4) (max p3 p4) t d) lat)) 58 12 g) (t + 1) (F.mv.trans hm) (by unfold GN; rw [rg]; exact g1)
          (fun h t' ht' => by rw [rd, if_neg (by omega)]; exact hN h t' ht')
          (fun t' ht' => by
            rw [rd]
            by_cases y : t' = t
            · rw [if_pos (by omega), hmin, y]
            · rw [if_neg (by omega)]
              exact hP t' (by omega))
          (fun h1 h2 => by
            rw [rg]
            by_cases y : t = s
            · rw [g3 h1 y, ← y]
              by_cases z : nowW M (min p3 p4) (max p3 p4) t d ≤ lat
              · rw [if_pos z, if_pos (hgo.mp z)]
              · rw [if_neg z, if_neg (fun w => z (hgo.mpr w))]
            · rw [g4 (fun w => y w.2)]
              exact hG h1 (by omega))
          (by omega) (by omega) (by omega)
        exact ⟨σ', k1, k2.tr F, k3, k4, k5⟩
      by_cases y : d = 29
      · rw [if_pos (by omega)]
        refine go _ ⟨by omega, by omega⟩ ?_ ?_
        · rw [y]
          simp [worA]
        · unfold goe
          simp [y]
      · have hw := hN (by omega)
        rw [if_neg (by omega), m_waitingFor hM' (w := worA M (min p3 p4) (max p3 p4) (28 - d)) (by omega) (by omega) hw, cll_pos]
        have hl2 : σ 65 6 * wei (mv σ) t d + nxtA (mv σ) d (worA M (min p3 p4) (max p3 p4) (28 - d)) t 3 = latW M (min p3 p4) (max p3 p4) t d := by
          rw [show σ 65 6 = mv σ 7 6 from rfl, hm]
          rfl
        rw [hl2]
        refine go _ ⟨by omega, by omega⟩ (wor_step M _ _ t (by omega)).symm ?_
        unfold goe
        simp [y]
theorem m_fwL1 {M : St} (hM : MI M) {s fr p3 p4 : Nat} (hs : s < 3) (hf : fr < 30) (h3 : p3 < 12) (h4 : p4 < 12) :
    ∀ (n e : Nat) (σ : St) (v : Int), mv σ = M → GN σ → (e < 30 → ∀ t, t < 3 → σ 68 (3 * e + t) = worA M (min p3 p4) (max p3 p4) (29 - e) t) → (e = fr → σ 58 12 = if goe M (min p3 p4) (max p3 p4) s e then 1 else 0) → v = (e : Int) - 1 → fr ≤ e → e ≤ 30 → e < n + fr →
    ∃ σ', L_X9_findWorths_4 n σ s fr p3 p4 v = some (0, σ') ∧ FW σ' σ ∧ GN σ' ∧ (∀ t, t < 3 → σ' 68 (3 * fr + t) = worA M (min p3 p4) (max p3 p4) (29 - fr) t) ∧ σ' 58 12 = if goe M (min p3 p4) (max p3 p4) s fr then 1 else 0
  | 0, e, σ, v, hm, hg, hN, hG, hv, h1, h2, hn => by omega
  | n + 1, e, σ, v, hm, hg, hN, hG, hv, h1, h2, hn => by
    subst hv
    rw [L_X9_findWorths_4, S_X9_findWorths_4, chk_pos (by omega), chk_pos (by omega)]
    by_cases q : (e : Int) - 1 < fr
    · rw [if_pos q]
      have y : e = fr := by omega
      subst y
      exact ⟨σ, rfl, FW.rf σ, hg, hN (by omega), hG rfl⟩
    · obtain ⟨d, hd⟩ : ∃ d, e = d + 1 := ⟨e - 1, by omega⟩
      subst hd
      rw [if_neg q, show ((d + 1 : Nat) : Int) - 1 = (d : Int) by omega]
      obtain ⟨σ1, k1, k2, k3, k4, k5⟩ := m_fwL2 hM hs hf (d := d) (by omega) h3 h4 (rec4 := L_X9_findWorths_4 n) FU 0 σ 0 hm hg (fun h t ht => by rw [show 28 - d = 29 - (d + 1) by omega]; exact hN (by omega) t ht) (fun t' h => by omega) (fun _ h => by omega) rfl (by omega) (by rw [FU_eq]; omega)
      obtain ⟨σ2, j1, j2, j3, j4, j5⟩ := m_fwL1 hM hs hf h3 h4 n d σ1 (d + (-1)) (k2.mv.trans hm) k3 (fun _ => k4) k5 (by omega) (by omega) (by omega) (by omega)
      exact ⟨σ2, by rw [k1, j1], j2.tr k2, j3, j4, j5⟩
theorem m_findWorths {σ : St} (hM : MI (mv σ)) (hg : GN σ) {s fr p3 p4 : Nat} (hs : s < 3) (hf : fr < 30) (h3 : p3 < 12) (h4 : p4 < 12) :
    ∃ σ', f_X9_findWorths σ s fr p3 p4 = some (0, σ') ∧ FW σ' σ ∧ GN σ' ∧ σ' 68 (3 * fr + s) = worA (mv σ) (min p3 p4) (max p3 p4) (29 - fr) s ∧ σ' 58 12 = if goe (mv σ) (min p3 p4) (max p3 p4) s fr then 1 else 0 := by
  obtain ⟨σ', k1, k2, k3, k4, k5⟩ := m_fwL1 hM hs hf h3 h4 FU 30 σ 29 rfl hg (fun h => by omega) (fun h => by omega) (by omega) (by omega) (by omega) (by rw [FU_eq]; omega)
  exact ⟨σ', k1, k2, k3, k4 s hs, k5⟩
def prt (x y : Nat) (w : Int) : Int := if w = 0 then ((x / Nat.gcd x y : Nat) : Int) else ((y / Nat.gcd x y : Nat) : Int)
theorem m_partL {σ : St} {x y : Nat} {w : Int} (hx : x ≤ 1000000) (hy : y ≤ 1000) (hw : in32 w) : ∀ (n a b : Nat), a ≤ 1000000 → b ≤ 1000 → 0 < Nat.gcd a b → Nat.gcd a b = Nat.gcd x y → b < n → L_X9_part_17 n σ x y w a b = some (prt x y w, σ)
  | 0, a, b, ha, hb, hp, hg, hn => by omega
  | n + 1, a, b, ha, hb, hp, hg, hn => by
    rw [L_X9_part_17, S_X9_part_17, chk_pos (by omega)]
    by_cases q : b = 0
    · subst q
      rw [Nat.gcd_zero_right] at hg hp
      rw [if_pos (by rfl), chk_pos hw]
      unfold prt
      rw [← hg]
      by_cases z : w = 0
      · rw [if_pos z, if_pos z, chk_pos (by omega)]
        rw [Int.natCast_ediv]
      · rw [if_neg z, if_neg z, chk_pos (by omega)]
        rw [Int.natCast_ediv]
    · have hr : a % b < b := Nat.mod_lt _ (by omega)
      have e : Nat.gcd b (a % b) = Nat.gcd a b := by rw [Nat.gcd_comm, ← Nat.gcd_rec, Nat.gcd_comm]
      have ih := m_partL (σ := σ) hx hy hw n b (a % b) (by omega) (by omega) (by rw [e]; exact hp) (e.trans hg) (by omega)
      rw [if_neg (by omega), chk_pos (by omega), ← Int.natCast_emod]
      exact ih
theorem m_part {σ : St} {x y : Nat} {w : Int} (hx : x ≤ 1000000) (hy : y ≤ 900) (hy0 : 0 < y) (hw : in32 w) : f_X9_part σ x y w = some (prt x y w, σ) := by
  unfold f_X9_part
  rw [chk_pos (by omega), if_pos (by omega)]
  exact m_partL hx (by omega) hw FU x y hx (by omega) (Nat.gcd_pos_of_pos_right _ hy0) rfl (by rw [FU_eq]; omega)
theorem m_no {σ : St} {a : Int} (h : in32 a) : f_X9_no σ a = some (-9223372036854775808 - a, σ) := by
  unfold f_X9_no
  rw [chk_pos h]
/-- waits within: above, below, or NOT -/
def wai (M : St) (s d a b : Nat) (w : Int) : Int := if wei M s d = 0 then -9223372036854775805 else prt (worA M a b (29 - d) s).toNat (wei M s d).toNat w
theorem m_waitsOf {σ : St} (hM : MI (mv σ)) (hg : GN σ) {s d p3 p4 : Nat} (hs : s < 3) (hd : d < 30) (h3 : p3 < 12) (h4 : p4 < 12) {w : Int} (hw : in32 w) :
    ∃ σ', f_X9_waitsOf σ s d p3 p4 w = some (wai (mv σ) s d (min p3 p4) (max p3 p4) w, σ') ∧ FW σ' σ ∧ GN σ' := by
  have hwe := wei_rng hM (s := s) (d := d)
  have hwo := wor_rng hM (a := min p3 p4) (b := max p3 p4) (by omega) (by omega) (29 - d) s
  unfold f_X9_waitsOf wai
  rw [m_alike hM hs (by omega), cll_pos, m_weiOf hM, cll_pos, chk_pos (by omega)]
  by_cases q : wei (mv σ) s d = 0
  · rw [if_pos q, if_pos q, m_no (by decide), cll_pos]
    exact ⟨σ, rfl, FW.rf σ, hg⟩
  · obtain ⟨σ', k1, k2, k3, k4, k5⟩ := m_findWorths hM hg hs hd h3 h4
    rw [if_neg q, if_neg q, k1, cll_pos, chk_pos (by omega), show (3 * (d : Int) + (s : Int)).toNat = 3 * d + s by omega, k4]
    have e1 : worA (mv σ) (min p3 p4) (max p3 p4) (29 - d) s = (((worA (mv σ) (min p3 p4) (max p3 p4) (29 - d) s).toNat : Nat) : Int) := by omega
    have e2 : wei (mv σ) s d = (((wei (mv σ) s d).toNat : Nat) : Int) := by omega
    have h := m_part (σ := σ') (x := (worA (mv σ) (min p3 p4) (max p3 p4) (29 - d) s).toNat) (y := (wei (mv σ) s d).toNat) (w := w) (by omega) (by omega) (by omega) hw
    rw [← e1, ← e2] at h
    rw [h, cll_pos]
    exact ⟨σ', rfl, k2, k3⟩
def gos (M : St) (s d a b : Nat) : Int := if wei M s d = 0 then -3 else if goe M a b s d then 1 else 0
theorem m_goesOf {σ : St} (hM : MI (mv σ)) (hg : GN σ) {s d p3 p4 : Nat} (hs : s < 3) (hd : d < 30) (h3 : p3 < 12) (h4 : p4 < 12) :
    ∃ σ', f_X9_goesOf σ s d p3 p4 = some (gos (mv σ) s d (min p3 p4) (max p3 p4), σ') ∧ FW σ' σ ∧ GN σ' := by
  have hwe := wei_rng hM (s := s) (d := d)
  unfold f_X9_goesOf gos
  rw [m_alike hM hs (by omega), cll_pos, m_weiOf hM, cll_pos, chk_pos (by omega)]
  by_cases q : wei (mv σ) s d = 0
  · rw [if_pos q, if_pos q]
    exact ⟨σ, rfl, FW.rf σ, hg⟩
  · obtain ⟨σ', k1, k2, k3, k4, k5⟩ := m_findWorths hM hg hs hd h3 h4
    rw [if_neg q, if_neg q, k1, cll_pos, k5, chk_b01, ite_b0]
    refine ⟨σ', ?_, k2, k3⟩
    split <;> rfl
