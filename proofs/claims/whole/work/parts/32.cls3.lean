/-! THE CLASS: waiting -/
theorem v_levelOn {σ : St} (hF : FR σ) {s d : Nat} (hs : s < 3) (hd : d < 30) : f_X6_levelOn σ s d = some (lev (mv σ) s d, σ) := by
  unfold f_X6_levelOn
  rw [v_isSpringDay (by omega) (by omega), cll_pos, chk_b01, ite_b0, if_pos (by omega), chk_pos (by omega), chk_pos (by omega), show (s : Int).toNat = s by omega, show (d : Int).toNat = d by omega, ((hF s hs).2 d hd).1]
theorem v_wetYards {σ : St} (hF : FR σ) {s d : Nat} (hs : s < 3) (hd : d < 30) : f_X6_wetYards σ s d = some (((wb (mv σ) s d : Nat) : Int), σ) := by
  unfold f_X6_wetYards
  rw [v_isSpringDay (by omega) (by omega), cll_pos, chk_b01, ite_b0, if_pos (by omega), chk_pos (by omega), chk_pos (by omega), show (s : Int).toNat = s by omega, show (d : Int).toNat = d by omega, ((hF s hs).2 d hd).2]
theorem v_lentFrom {σ : St} (hF : FR σ) {s : Nat} (hs : s < 3) : f_X6_lentFrom σ s = some (pos (mv σ) s, σ) := by
  unfold f_X6_lentFrom
  rw [v_inside (by omega) (by omega), cll_pos, chk_b01, ite_b0, if_pos (by omega), chk_pos (by omega), show (s : Int).toNat = s by omega, (hF s hs).1]
def CW (σ' σ : St) : Prop := ∀ k, k < 30 ∨ 35 < k → σ' k = σ k
theorem CW.rf (σ : St) : CW σ σ := fun _ _ => rfl
theorem CW.tr {a b c : St} (h1 : CW a b) (h2 : CW b c) : CW a c := fun k q => (h1 k q).trans (h2 k q)
theorem CW.su {σ : St} {k i : Nat} {x : Int} (h : 30 ≤ k ∧ k ≤ 35) : CW (su σ k i x) σ := fun j q => su_ne j (by omega)
theorem CW.mv {σ' σ : St} (h : CW σ' σ) : mv σ' = mv σ := mv_of fun k hk => h k (by omega)
theorem CW.eq {σ' σ : St} (h : CW σ' σ) : EQ σ' σ := ⟨fun k q => h k (by omega), by rw [h 37 (by omega)]⟩
theorem CW.fr {σ' σ : St} (h : CW σ' σ) (hF : FR σ) : FR σ' := hF.of h.mv (fun k h1 h2 => h k (by omega))
theorem CW.fre {σ' σ : St} (h : CW σ' σ) (hF : FRE σ) : FRE σ' := ⟨by rw [h 16 (by omega)]; exact hF.1, h.fr hF.2⟩
theorem v_partL {σ : St} (hF : FR σ) {s t : Nat} (hs : s < 3) (ht : t < 3) : ∀ (n d : Nat) (v : Int), v = d → d ≤ 30 → (∀ e, e < d → lev (mv σ) s e = lev (mv σ) t e) → 30 - d < n → ∃ x : Int, L_X6_parting_21 n σ s t v = some (x, σ) ∧ (0 ≤ x ∧ x ≤ 30) ∧ ∀ e : Nat, e < 30 → ((e : Int) < x ↔ alk (mv σ) s t e = true)
  | 0, d, v, hv, h1, hl, hn => by omega
  | n + 1, d, v, hv, h1, hl, hn => by
    subst hv
    rw [L_X6_parting_21, S_X6_parting_21, chk_pos (by omega)]
    by_cases q : 30 ≤ (d : Int)
    · rw [if_pos q]
      refine ⟨30, rfl, by omega, fun e he => ?_⟩
      rw [alk_iff]
      exact ⟨fun _ z hz => hl z (by omega), fun _ => by omega⟩
    · have r1 := lev_rng (M := mv σ) (s := s) (d := d)
      have r2 := lev_rng (M := mv σ) (s := t) (d := d)
      rw [if_neg q, chk_pos (by omega), chk_pos (by omega), chk_pos (by omega), show (s : Int).toNat = s by omega, show (d : Int).toNat = d by omega, show (t : Int).toNat = t by omega, ((hF s hs).2 d (by omega)).1, ((hF t ht).2 d (by omega)).1, chk_pos (by omega), chk_pos (by omega)]
      by_cases z : lev (mv σ) s d = lev (mv σ) t d
      · rw [if_pos z]
        refine v_partL hF hs ht n (d + 1) (d + 1) (by omega) (by omega) (fun e he => ?_) (by omega)
        by_cases y : e = d
        · rw [y]; exact z
        · exact hl e (by omega)
      · rw [if_neg z]
        refine ⟨d, rfl, by omega, fun e he => ?_⟩
        rw [alk_iff]
        refine ⟨fun h y hy => hl y (by omega), fun h => ?_⟩
        rcases Nat.lt_or_ge e d with g | g
        · omega
        · exact absurd (h d g) z
theorem v_parting {σ : St} (hF : FR σ) {s t : Nat} (hs : s < 3) (ht : t < 3) : ∃ x : Int, f_X6_parting σ s t = some (x, σ) ∧ (0 ≤ x ∧ x ≤ 30) ∧ ∀ e : Nat, e < 30 → ((e : Int) < x ↔ alk (mv σ) s t e = true) := by
  unfold f_X6_parting
  rw [v_inside (by omega) (by omega), cll_pos, chk_b01, ite_b0, if_pos (by omega), v_inside (by omega) (by omega), cll_pos, chk_b01, ite_b0, if_pos (by omega)]
  exact v_partL hF hs ht FU 0 0 rfl (by omega) (fun e h => by omega) (by rw [FU_eq]; omega)
def PTo (M : St) (x : Int) (s t : Nat) : Prop := (0 ≤ x ∧ x ≤ 30) ∧ ∀ e : Nat, e < 30 → ((e : Int) < x ↔ alk M s t e = true)
theorem PTo.sy {M : St} {x : Int} {s t : Nat} (h : PTo M x s t) : PTo M x t s := ⟨h.1, fun e he => by rw [alk_symm]; exact h.2 e he⟩
theorem PTo.self (M : St) (s : Nat) : PTo M 30 s s := ⟨by omega, fun e he => ⟨fun _ => alk_self M s e, fun _ => by omega⟩⟩
def PT (σ : St) : Prop := ∀ s, s < 3 → ∀ t, t < 3 → PTo (mv σ) (σ (30 + s) t) s t
theorem v_fpL2 {M : St} {σ0 : St} (hF : FR σ0) (hm : mv σ0 = M) {s : Nat} (hs : s < 3) {rec2 : St → Int → Option Rt} : ∀ (n t : Nat) (σ : St) (v : Int), CW σ σ0 → v = t → t ≤ s → (∀ a, a < s → ∀ b, b < s → PTo M (σ (30 + a) b) a b) → PTo M (σ (30 + s) s) s s → (∀ b, b < t → PTo M (σ (30 + s) b) s b ∧ PTo M (σ (30 + b) s) b s) → 3 - t < n →
    ∃ σ', L_X7_fillPartings_19 rec2 n σ s v = rec2 σ' (s + 1) ∧ CW σ' σ0 ∧ (∀ a, a < s + 1 → ∀ b, b < s + 1 → PTo M (σ' (30 + a) b) a b)
  | 0, t, σ, v, hW, hv, h1, ha, hss, hb, hn => by omega
  | n + 1, t, σ, v, hW, hv, h1, ha, hss, hb, hn => by
    subst hv
    rw [L_X7_fillPartings_19, S_X7_fillPartings_19, chk_pos (by omega), chk_pos (by omega)]
    by_cases q : (s : Int) ≤ t
    · rw [if_pos q]
      refine ⟨σ, rfl, hW, fun a h2 b h3 => ?_⟩
      by_cases y1 : a = s
      · by_cases y2 : b = s
        · rw [y1, y2]; exact hss
        · rw [y1]; exact (hb b (by omega)).1
      · by_cases y2 : b = s
        · rw [y2]; exact (hb a (by omega)).2
        · exact ha a (by omega) b (by omega)
    · obtain ⟨x, x1, x2, x3⟩ := v_parting (hW.fr hF) (s := s) (t := t) hs (by omega)
      have hmσ : mv σ = M := hW.mv.trans hm
      rw [hmσ] at x3
      have hx : PTo M x s t := ⟨x2, x3⟩
      rw [if_neg q, x1, cll_pos, chk_pos (by omega), chk_pos (by omega), show (s : Int).toNat = s by omega, show (t : Int).toNat = t by omega]
      have rd : ∀ a b, su (su σ (30 + s) t x) (30 + t) s x (30 + a) b = if a = t ∧ b = s then x else if a = s ∧ b = t then x else σ (30 + a) b := fun a b => by
        unfold su
        by_cases y1 : a = t ∧ b = s
        · rw [if_pos ⟨by omega, y1.2⟩, if_pos y1]
        · rw [if_neg (fun w => y1 ⟨by omega, w.2⟩), if_neg y1]
          by_cases y2 : a = s ∧ b = t
          · rw [if_pos ⟨by omega, y2.2⟩, if_pos y2]
          · rw [if_neg (fun w => y2 ⟨by omega, w.2⟩), if_neg y2]
      refine v_fpL2 hF hm hs n (t + 1) _ (t + 1) ((CW.su (by omega)).tr ((CW.su (by omega)).tr hW)) (by omega) (by omega) (fun a h2 b h3 => ?_) ?_ (fun b h2 => ?_) (by omega)
      · rw [rd, if_neg (by omega), if_neg (by omega)]
        exact ha a h2 b h3
      · rw [rd, if_neg (by omega), if_neg (by omega)]
        exact hss
      · rw [rd, rd]
        by_cases y : b = t
        · subst y
          rw [if_neg (by omega), if_pos ⟨rfl, rfl⟩, if_pos ⟨rfl, rfl⟩]
          exact ⟨hx, hx.sy⟩
        · rw [if_neg (by omega), if_neg (by omega), if_neg (by omega), if_neg (by omega)]
          exact hb b (by omega)
theorem v_fpL1 {M : St} {σ0 : St} (hF : FR σ0) (hm : mv σ0 = M) : ∀ (n s : Nat) (σ : St) (v : Int), CW σ σ0 → v = s → s ≤ 3 → (∀ a, a < s → ∀ b, b < s → PTo M (σ (30 + a) b) a b) → 3 - s < n → ∃ σ', L_X7_fillPartings_2 n σ v = some (0, σ') ∧ CW σ' σ0 ∧ PT σ'
  | 0, s, σ, v, hW, hv, h1, ha, hn => by omega
  | n + 1, s, σ, v, hW, hv, h1, ha, hn => by
    subst hv
    rw [L_X7_fillPartings_2, S_X7_fillPartings_2, chk_pos (by omega)]
    by_cases q : 3 ≤ (s : Int)
    · rw [if_pos q]
      refine ⟨σ, rfl, hW, fun a h2 b h3 => ?_⟩
      rw [hW.mv, hm]
      exact ha a (by omega) b (by omega)
    · rw [if_neg q, chk_pos (by omega), show (s : Int).toNat = s by omega]
      have rd : ∀ a b, su σ (30 + s) s 30 (30 + a) b = if a = s ∧ b = s then 30 else σ (30 + a) b := fun a b => by
        unfold su
        by_cases y1 : a = s ∧ b = s
        · rw [if_pos ⟨by omega, y1.2⟩, if_pos y1]
        · rw [if_neg (fun w => y1 ⟨by omega, w.2⟩), if_neg y1]
      obtain ⟨σ1, k1, k2, k3⟩ := v_fpL2 hF hm (s := s) (by omega) (rec2 := L_X7_fillPartings_2 n) FU 0 (su σ (30 + s) s 30) 0 ((CW.su (by omega)).tr hW) rfl (by omega) (fun a h2 b h3 => by rw [rd, if_neg (by omega)]; exact ha a h2 b h3) (by rw [rd, if_pos ⟨rfl, rfl⟩]; exact PTo.self M s) (fun b h => by omega) (by rw [FU_eq]; omega)
      rw [k1]
      exact v_fpL1 hF hm n (s + 1) σ1 (s + 1) k2 (by omega) (by omega) k3 (by omega)
theorem v_fillPartings {σ : St} (hF : FR σ) : ∃ σ', f_X7_fillPartings σ = some (0, σ') ∧ CW σ' σ ∧ PT σ' := by
  unfold f_X7_fillPartings
  exact v_fpL1 hF rfl FU 0 σ 0 (CW.rf σ) rfl (by omega) (fun a h => by omega) (by rw [FU_eq]; omega)
def smA (P : Nat → Bool) (g : Nat → Int) : Nat → Int
  | 0 => 0
  | n + 1 => smA P g n + (if P n then g n else 0)
theorem v_sumL {σ : St} (hP : PT σ) {q s d : Nat} (hs : s < 3) (hd : d < 30) : ∀ (n t : Nat) (v acc : Int), v = t → t ≤ 3 → acc = smA (fun t => alk (mv σ) s t d) (σ q) t → 3 - t < n → L_X7_sumOfAlike_6 q n σ s d acc v = some (smA (fun t => alk (mv σ) s t d) (σ q) 3, σ)
  | 0, t, v, acc, hv, h1, ha, hn => by omega
  | n + 1, t, v, acc, hv, h1, ha, hn => by
    subst hv
    subst ha
    rw [L_X7_sumOfAlike_6, S_X7_sumOfAlike_6, chk_pos (by omega)]
    by_cases z : 3 ≤ (t : Int)
    · rw [if_pos z, show t = 3 by omega]
    · have ih := fun acc ha => v_sumL hP (q := q) hs hd n (t + 1) (t + 1) acc (by omega) (by omega) ha (by omega)
      have p := hP s hs t (by omega)
      have pr := p.1
      have pi := p.2 d hd
      rw [if_neg z, chk_pos (by omega), chk_pos (by omega), chk_pos (by omega), show (s : Int).toNat = s by omega, show (t : Int).toNat = t by omega, chk_pos (by omega)]
      by_cases y : σ (30 + s) t ≤ d
      · rw [if_pos y]
        exact ih _ (by rw [smA, if_neg (fun w => by have := pi.mpr w; omega)])
      · rw [if_neg y]
        exact ih _ (by rw [smA, if_pos (pi.mp (by omega))])
theorem v_sumOfAlike {σ : St} (hP : PT σ) {q s d : Nat} (hs : s < 3) (hd : d < 30) : f_X7_sumOfAlike q σ s d = some (smA (fun t => alk (mv σ) s t d) (σ q) 3, σ) := by
  unfold f_X7_sumOfAlike
  exact v_sumL hP hs hd FU 0 0 0 rfl (by omega) rfl (by rw [FU_eq]; omega)
theorem v_wei {σ : St} (hC : CI σ) {s d : Nat} : smA (fun t => alk (mv σ) s t d) (σ 11) 3 = wei (mv σ) s d := by
  unfold wei
  simp only [smA, wgA, hC.2.2.1 0 (by omega), hC.2.2.1 1 (by omega), hC.2.2.1 2 (by omega), mv_8]
/-- the first of its kind on a day: on DAY 30 each is -/
def firX (M : St) (t d : Nat) : Bool := if d < 30 then fir M t d else true
theorem v_ncL2 {σ : St} (hP : PT σ) {t d : Nat} (ht : t < 3) (hd : d ≤ 30) {rec2 : St → Int → Int → Option Rt} : ∀ (n u : Nat) (v w : Int), v = u → u ≤ t → w = (if (if d < 30 then frA (mv σ) t d u else true) then 1 else 0) → 3 - u < n → L_X7_fillNextCases_12 rec2 n σ d t w v = rec2 (su σ 34 t (if firX (mv σ) t d then σ 33 t else 0)) d (t + 1)
  | 0, u, v, w, hv, h1, hw, hn => by omega
  | n + 1, u, v, w, hv, h1, hw, hn => by
    subst hv
    subst hw
    rw [L_X7_fillNextCases_12, S_X7_fillNextCases_12, chk_pos (by omega), chk_pos (by omega)]
    by_cases q : (t : Int) ≤ u
    · have e : u = t := by omega
      subst e
      rw [if_pos q, chk_b01, ite_b0, chk_pos (by omega), chk_pos (by omega), show (u : Int).toNat = u by omega]
      unfold firX fir
      cases (if d < 30 then frA (mv σ) u d u else true) <;> rfl
    · have ih := fun w hw => v_ncL2 hP ht hd (rec2 := rec2) n (u + 1) (u + 1) w (by omega) (by omega) hw (by omega)
      have p := hP t ht u (by omega)
      have pr := p.1
      rw [if_neg q, chk_b01, ite_b0, chk_pos (by omega), chk_pos (by omega), chk_pos (by omega), show (t : Int).toNat = t by omega, show (u : Int).toNat = u by omega, chk_pos (by omega)]
      by_cases z : d < 30
      · have pi := p.2 d z
        simp only [z, if_true] at ih ⊢
        by_cases g : frA (mv σ) t d u
        · rw [if_pos g]
          by_cases y : (d : Int) < σ (30 + t) u
          · rw [if_pos y]
            exact ih 0 (by simp [frA, pi.mp y])
          · rw [if_neg y]
            have y2 : alk (mv σ) t u d = false := by
              cases h : alk (mv σ) t u d
              · rfl
              · exact absurd (pi.mpr h) y
            exact ih 1 (by simp [frA, g, y2])
        · rw [if_neg g]
          exact ih 0 (by simp [frA, g])
      · simp only [z] at ih ⊢
        rw [if_pos (by rfl), if_neg (by omega)]
        exact ih 1 (by rfl)
theorem v_ncL1 {σ0 : St} (hP : PT σ0) {d : Nat} (hd : d ≤ 30) : ∀ (n t : Nat) (σ : St) (v : Int), (∀ k, k ≠ 34 → σ k = σ0 k) → v = t → t ≤ 3 → (∀ u, u < t → σ 34 u = if firX (mv σ0) u d then σ0 33 u else 0) → 3 - t < n → ∃ σ', L_X7_fillNextCases_2 n σ d v = some (0, σ') ∧ (∀ k, k ≠ 34 → σ' k = σ0 k) ∧ (∀ u, u < 3 → σ' 34 u = if firX (mv σ0) u d then σ0 33 u else 0)
  | 0, t, σ, v, hk, hv, h1, hu, hn => by omega
  | n + 1, t, σ, v, hk, hv, h1, hu, hn => by
    subst hv
    rw [L_X7_fillNextCases_2, S_X7_fillNextCases_2, chk_pos (by omega)]
    by_cases q : 3 ≤ (t : Int)
    · rw [if_pos q]
      exact ⟨σ, rfl, hk, fun u h => hu u (by omega)⟩
    · have hm : mv σ = mv σ0 := mv_of fun k h => hk k (by omega)
      have hPσ : PT σ := fun a h2 b h3 => by
        rw [hm, hk (30 + a) (by omega)]
        exact hP a h2 b h3
      rw [if_neg q, v_ncL2 hPσ (t := t) (by omega) hd FU 0 0 1 rfl (by omega) (by simp [frA]) (by rw [FU_eq]; omega)]
      refine v_ncL1 hP hd n (t + 1) _ (t + 1) (fun k h => by rw [su_ne k h]; exact hk k h) (by omega) (by omega) (fun u h => ?_) (by omega)
      rw [su_eq]
      by_cases y : u = t
      · rw [if_pos y, y, hm, hk 33 (by omega)]
      · rw [if_neg y]
        exact hu u (by omega)
theorem v_fillNext {σ : St} (hP : PT σ) {d : Nat} (hd : d ≤ 30) : ∃ σ', f_X7_fillNextCases σ d = some (0, σ') ∧ (∀ k, k ≠ 34 → σ' k = σ k) ∧ (∀ u, u < 3 → σ' 34 u = if firX (mv σ) u d then σ 33 u else 0) := by
  unfold f_X7_fillNextCases
  exact v_ncL1 hP hd FU 0 σ 0 (fun _ _ => rfl) rfl (by omega) (fun u h => by omega) (by rw [FU_eq]; omega)
theorem v_roadL {σ : St} {W a b : Nat} {fe : Int} (hW : W < 4096) (hab : a ≤ b) (hb : b < 12) : ∀ (n y : Nat) (v acc : Int) (on : Bool), v = y → a ≤ y → y ≤ b + 1 → 14 - y < n → L_X8_roadCost_9 n σ W b fe acc (if on then 1 else 0) v = some (acc + rdc (fun y => W.testBit y) fe (b + 1 - y) y on, σ)
  | 0, y, v, acc, on, hv, h1, h2, hn => by omega
  | n + 1, y, v, acc, on, hv, h1, h2, hn => by
    subst hv
    rw [L_X8_roadCost_9, S_X8_roadCost_9, chk_pos (by omega), chk_pos (by omega)]
    by_cases q : (b : Int) < y
    · rw [if_pos q, show b + 1 - y = 0 by omega, rdc, Int.add_zero]
    · obtain ⟨k, hk⟩ : ∃ k, b + 1 - y = k + 1 := ⟨b - y, by omega⟩
      have ih := fun acc on => v_roadL (σ := σ) (fe := fe) hW hab hb n (y + 1) (y + 1) acc on (by omega) (by omega) (by omega) (by omega)
      have i1 := fun acc => ih acc true
      have i0 := fun acc => ih acc false
      rw [show b + 1 - (y + 1) = k by omega] at i1 i0
      simp only [if_true] at i1
      rw [if_neg q, bit1 (by omega) (by omega), chk_b01, ite_b1, hk, rdc]
      unfold B_X8_roadCost_30
      by_cases g : W.testBit y
      · rw [if_pos g, chk_pos (by decide), if_neg (by decide), chk_b01, ite_b0, g]
        cases on
        · rw [if_neg (by decide), i1, if_pos rfl, if_neg (by decide), Int.add_assoc]
        · rw [if_pos rfl, i1, if_pos rfl, if_pos rfl, Int.zero_add]
      · have g2 : W.testBit y = false := by simpa using g
        rw [if_neg g, chk_pos (by decide), if_pos rfl, g2]
        have := i0 (acc + 1)
        rw [if_neg (by decide)] at this
        rw [this, if_neg (by decide), Int.add_assoc]
theorem v_roadCost {σ : St} {W a b : Nat} {fe : Int} (hW : W < 4096) (hab : a ≤ b) (hb : b < 12) : f_X8_roadCost σ W a b fe = some (rdc (fun y => W.testBit y) fe (b + 1 - a) a false, σ) := by
  unfold f_X8_roadCost
  have := v_roadL (σ := σ) (fe := fe) hW hab hb FU a a 0 false rfl (by omega) (by omega) (by rw [FU_eq]; omega)
  rw [if_neg (by decide), Int.zero_add] at this
  exact this
/-- what the springs' worths are on a day, and who goes -/
theorem nxt_sm {M : St} {d s : Nat} {w g : Nat → Int} (h : ∀ t, t < 3 → g t = if fir M t (d + 1) then w t else 0) : smA (fun t => alk M s t d) g 3 = nxtA M d w s 3 := by
  simp only [smA, nxtA, h 0 (by omega), h 1 (by omega), h 2 (by omega)]
theorem v_choose {σ : St} (hC : CI σ) (hM : MI (mv σ)) (hF : FR σ) (hP : PT σ) {s d a b : Nat} (hs : s < 3) (hd : d < 30) (hab : a ≤ b) (hb : b < 12) (hN : d < 29 → ∀ t, t < 3 → σ 34 t = if fir (mv σ) t (d + 1) then worA (mv σ) a b (28 - d) t else 0) :
    f_X7_choose σ s d a b = some (0, su (su σ 35 s (if goe (mv σ) a b s d then 1 else 0)) 33 s (worA (mv σ) a b (29 - d) s)) := by
  have hwb := wb_lt hM (s := s) (d := d)
  have t2 := hC.2.1 2 (by omega)
  have t3 := hC.2.1 3 (by omega)
  have t6 := hC.2.1 6 (by omega)
  have hro := rod_rng hM (s := s) (d := d) (a := a) hb
  have hrg := rdg_rng hM hab hb
  have hno := now_rng hM (s := s) (d := d) hab hb
  have hla := lat_rng hM (s := s) (d := d) hab hb
  have e1 : rdc (fun y => (wb (mv σ) s d).testBit y) (σ 65 2) (b + 1 - a) a false = rod (mv σ) s d a b := rfl
  have e2 : σ 65 3 * (((b : Int) - a) + 1) = rdg (mv σ) a b := rfl
  have e3 : wei (mv σ) s d * min (rod (mv σ) s d a b) (rdg (mv σ) a b) = nowW (mv σ) a b s d := rfl
  have e0 : (s : Int).toNat = s := by omega
  have rd : ∀ x : Int, su σ 35 s x 35 s = x := fun x => by rw [su_eq, if_pos rfl]
  unfold f_X7_choose f_X8_ridgeCost
  rw [v_sumOfAlike hP hs hd, cll_pos, v_wei hC, v_wetYards hF hs hd, cll_pos, t2, v_roadCost hwb hab hb, cll_pos, t3, cll_pos, e1, e2, chk_pos (by omega), chk_pos (by omega), v_sumOfAlike hP hs hd, cll_pos, e3, t6, chk_pos (by omega)]
  unfold B_X7_choose_103
  by_cases q : d = 29
  · rw [if_pos (by omega), chk_pos (by decide), chk_pos (by omega), chk_pos (by omega), e0, rd, chk_pos (by decide), if_neg (by decide)]
    have g : goe (mv σ) a b s d = true := by unfold goe; simp [q]
    rw [g, if_pos rfl, q]
    rfl
  · have el : wei (mv σ) s d * σ 65 6 + smA (fun t => alk (mv σ) s t d) (σ 34) 3 = latW (mv σ) a b s d := by
      rw [nxt_sm (hN (by omega))]
      unfold latW
      rw [mv_7, Int.mul_comm]
    rw [if_neg (by omega), el, chk_pos (by omega), chk_pos (by omega), wor_step _ _ _ _ (show d < 29 by omega)]
    by_cases z : latW (mv σ) a b s d < nowW (mv σ) a b s d
    · have g : goe (mv σ) a b s d = false := by unfold goe; rw [decide_eq_false]; omega
      rw [if_pos z, chk_pos (by decide), chk_pos (by omega), chk_pos (by omega), e0, rd, chk_pos (by decide), if_pos rfl, g, show min (nowW (mv σ) a b s d) (latW (mv σ) a b s d) = latW (mv σ) a b s d by omega]
      rfl
    · have g : goe (mv σ) a b s d = true := by unfold goe; rw [decide_eq_true]; omega
      rw [if_neg z, chk_pos (by decide), chk_pos (by omega), chk_pos (by omega), e0, rd, chk_pos (by decide), if_neg (by decide), g, show min (nowW (mv σ) a b s d) (latW (mv σ) a b s d) = nowW (mv σ) a b s d by omega]
      rfl
theorem PT.of {σ' σ : St} (h : PT σ) (hm : mv σ' = mv σ) (hk : ∀ k, 30 ≤ k → k ≤ 32 → σ' k = σ k) : PT σ' := fun a h2 b h3 => by
  rw [hm, hk (30 + a) (by omega) (by omega)]
  exact h a h2 b h3
theorem v_reL2 {M : St} (hM : MI M) {σ0 : St} (hC : CI σ0) (hF : FR σ0) (hP : PT σ0) (hm : mv σ0 = M) {d a b : Nat} {fr : Int} (hd : d < 30) (hab : a ≤ b) (hb : b < 12) (hN : d < 29 → ∀ t, t < 3 → σ0 34 t = if fir M t (d + 1) then worA M a b (28 - d) t else 0) {rec8 : St → Int → Int → Int → Int → Option Rt} :
    ∀ (n s : Nat) (σ : St) (v : Int), (∀ k, k ≠ 33 → k ≠ 35 → σ k = σ0 k) → v = s → s ≤ 3 → (∀ t, t < s → σ 33 t = worA M a b (29 - d) t ∧ σ 35 t = if goe M a b t d then 1 else 0) → 3 - s < n →
    ∃ σ', L_X7_reckon_30 rec8 n σ fr a b d v = rec8 σ' fr a b (d + (-1)) ∧ (∀ k, k ≠ 33 → k ≠ 35 → σ' k = σ0 k) ∧ (∀ t, t < 3 → σ' 33 t = worA M a b (29 - d) t ∧ σ' 35 t = if goe M a b t d then 1 else 0)
  | 0, s, σ, v, hk, hv, h1, ht, hn => by omega
  | n + 1, s, σ, v, hk, hv, h1, ht, hn => by
    subst hv
    rw [L_X7_reckon_30, S_X7_reckon_30, chk_pos (by omega)]
    by_cases q : 3 ≤ (s : Int)
    · rw [if_pos q]
      exact ⟨σ, rfl, hk, fun t h => ht t (by omega)⟩
    · have cw : CW σ σ0 := fun k h => hk k (by omega) (by omega)
      have hmσ : mv σ = M := cw.mv.trans hm
      have ch := v_choose (hC.eq cw.eq) (by rw [hmσ]; exact hM) (cw.fr hF) (hP.of cw.mv (fun k h2 h3 => hk k (by omega) (by omega))) (s := s) (d := d) (a := a) (b := b) (by omega) hd hab hb (fun h t h2 => by rw [hmσ, hk 34 (by decide) (by decide)]; exact hN h t h2)
      rw [hmσ] at ch
      rw [if_neg q, ch, cll_pos]
      refine v_reL2 hM hC hF hP hm hd hab hb hN n (s + 1) _ (s + 1) (fun k h2 h3 => by rw [su_ne k h2, su_ne k h3]; exact hk k h2 h3) (by omega) (by omega) (fun t h => ?_) (by omega)
      rw [su_eq, su_ne 33 (by decide), su_ne 35 (by decide), su_eq]
      by_cases y : t = s
      · rw [if_pos y, if_pos y, y]
        exact ⟨rfl, rfl⟩
      · rw [if_neg y, if_neg y]
        exact ht t (by omega)
theorem v_reL1 {M : St} (hM : MI M) {σ0 : St} (hC : CI σ0) (hF : FR σ0) (hP : PT σ0) (hm : mv σ0 = M) {fr a b : Nat} (hf : fr < 30) (hab : a ≤ b) (hb : b < 12) :
    ∀ (n e : Nat) (σ : St) (v : Int), (∀ k, k < 33 ∨ 35 < k → σ k = σ0 k) → v = (e : Int) - 1 → fr ≤ e → e ≤ 30 → (e < 30 → ∀ t, t < 3 → σ 33 t = worA M a b (29 - e) t ∧ σ 35 t = if goe M a b t e then 1 else 0) → e < n + fr →
    ∃ σ', L_X7_reckon_8 n σ fr a b v = some (0, σ') ∧ (∀ k, k < 33 ∨ 35 < k → σ' k = σ0 k) ∧ (∀ t, t < 3 → σ' 33 t = worA M a b (29 - fr) t ∧ σ' 35 t = if goe M a b t fr then 1 else 0)
  | 0, e, σ, v, hk, hv, h1, h2, hN, hn => by omega
  | n + 1, e, σ, v, hk, hv, h1, h2, hN, hn => by
    subst hv
    rw [L_X7_reckon_8, S_X7_reckon_8, chk_pos (by omega), chk_pos (by omega)]
    by_cases q : (e : Int) - 1 < fr
    · have y : e = fr := by omega
      subst y
      rw [if_pos q]
      exact ⟨σ, rfl, hk, hN (by omega)⟩
    · obtain ⟨d, hd⟩ : ∃ d, e = d + 1 := ⟨e - 1, by omega⟩
      subst hd
      have cw : CW σ σ0 := fun k h => hk k (by omega)
      have hmσ : mv σ = M := cw.mv.trans hm
      have hPσ := hP.of cw.mv (fun k h2 h3 => hk k (by omega))
      obtain ⟨σ1, a1, a2, a3⟩ := v_fillNext hPσ (d := d + 1) (by omega)
      have cw1 : CW σ1 σ := fun k h => a2 k (by omega)
      rw [if_neg q, if_neg (by omega), show ((d + 1 : Nat) : Int) - 1 + 1 = ((d + 1 : Nat) : Int) by omega, a1, cll_pos, show ((d + 1 : Nat) : Int) - 1 = (d : Int) by omega]
      obtain ⟨σ2, b1, b2, b3⟩ := v_reL2 hM (hC.eq (cw1.tr cw).eq) ((cw1.tr cw).fr hF) (hPσ.of cw1.mv (fun k h2 h3 => a2 k (by omega))) (cw1.mv.trans hmσ) (d := d) (a := a) (b := b) (fr := fr) (by omega) hab hb (fun h t h2 => by
          rw [a3 t h2, hmσ, (hN (by omega) t h2).1]
          unfold firX
          rw [if_pos (show d + 1 < 30 by omega), show 29 - (d + 1) = 28 - d by omega]) (rec8 := L_X7_reckon_8 n) FU 0 σ1 0 (fun _ _ _ => rfl) rfl (by omega) (fun t h => by omega) (by rw [FU_eq]; omega)
      rw [b1]
      exact v_reL1 hM hC hF hP hm hf hab hb n d σ2 (d + (-1)) (fun k h => by rw [b2 k (by omega) (by omega), a2 k (by omega)]; exact hk k h) (by omega) (by omega) (by omega) (fun _ => b3) (by omega)
/-- RECKON: the worths on a day, and who goes at once -/
theorem v_reckon {σ : St} (hC : CI σ) (hM : MI (mv σ)) (hF : FR σ) {fr a b : Nat} (hf : fr < 30) (hab : a ≤ b) (hb : b < 12) :
    ∃ σ', f_X7_reckon σ fr a b = some (0, σ') ∧ CW σ' σ ∧ PT σ' ∧ (∀ t, t < 3 → σ' 33 t = worA (mv σ) a b (29 - fr) t ∧ σ' 35 t = if goe (mv σ) a b t fr then 1 else 0) := by
  obtain ⟨σ1, a1, a2, a3⟩ := v_fillPartings hF
  unfold f_X7_reckon
  rw [a1, cll_pos]
  obtain ⟨σ2, b1, b2, b3⟩ := v_reL1 (M := mv σ) hM (hC.eq a2.eq) (a2.fr hF) a3 a2.mv hf hab hb FU 30 σ1 29 (fun _ _ => rfl) (by omega) (by omega) (by omega) (fun h => by omega) (by rw [FU_eq]; omega)
  have cw : CW σ2 σ1 := fun k h => b2 k (by omega)
  exact ⟨σ2, b1, cw.tr a2, a3.of cw.mv (fun k h2 h3 => b2 k (by omega)), b3⟩
