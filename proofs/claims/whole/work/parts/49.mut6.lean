/-! BOTH SIDES: items of sheets -/
def cutZ (f v : Int) : Int := if f = 0 then i2bZ v else if f = 1 then i2sZ v else v
theorem in32_of (x : Int32) : in32 x.toInt := by
  have h1 := Int32.le_toInt x
  have h2 := Int32.toInt_lt x
  constructor <;> omega
theorem cutZ_32 {f v : Int} (hv : in32 v) : in32 (cutZ f v) := by
  unfold cutZ
  split
  · exact in32_of _
  · split
    · exact in32_of _
    · exact hv
theorem v_cut {σ : St} {q : Nat} {f v : Int} (hf : σ (50 + q) 1 = f) (h3 : in32 f) : f_X4_cut q σ v = some (cutZ f v, σ) := by
  unfold f_X4_cut cutZ
  rw [hf, chk_pos h3]
  split
  · rfl
  · split <;> rfl
theorem m_cut {σ : St} {f v : Int} (h3 : in32 f) : f_X9_cut σ f v = some (cutZ f v, σ) := by
  unfold f_X9_cut cutZ
  rw [chk_pos h3]
  split
  · rfl
  · split <;> rfl
theorem v_put {σ : St} {q i : Nat} {n f v : Int} (hs : σ (50 + q) 2 = n) (hn : 0 ≤ n ∧ n ≤ 60) (hi : (i : Int) < n) (hf : σ (50 + q) 1 = f) (h3 : in32 f) : f_X4_put q σ i v = some (0, su σ (54 + q) i (cutZ f v)) := by
  unfold f_X4_put
  rw [hs, v_inside (by omega) (by omega), cll_pos, chk_b01, ite_b0, if_pos (by omega), v_inside (by omega) (by decide), cll_pos, chk_b01, ite_b0, if_pos (by omega), v_cut hf h3, cll_pos, chk_pos (by omega), show (i : Int).toNat = i by omega]
def trb (σ : St) (s : Nat) (p2 p3 : Int) : Int := if σ 59 s < 0 then 1 else if σ 59 s = p2 then (if 0 ≤ p3 ∧ p3 < σ 60 s then 0 else 2) else 3
theorem trb_rng {σ : St} {s : Nat} {p2 p3 : Int} : 0 ≤ trb σ s p2 p3 ∧ trb σ s p2 p3 ≤ 3 := by
  unfold trb
  split
  · decide
  · split
    · split <;> decide
    · decide
theorem trb_eq {σ' σ : St} {s : Nat} {p2 p3 : Int} (h1 : σ' 59 = σ 59) (h2 : σ' 60 = σ 60) : trb σ' s p2 p3 = trb σ s p2 p3 := by
  unfold trb
  rw [h1, h2]
theorem v_trouble {σ : St} (hI : Inv σ) {s : Nat} (hs : s < 4) {p2 p3 : Int} (h2 : in32 p2) (h3 : in32 p3) : f_X4_trouble s σ p2 p3 = some (trb σ s p2 p3, σ) := by
  have hr := hI.2.1.she hs
  rw [mv_1, mv_2] at hr
  have c := hI.1.c7 s hs
  unfold f_X4_trouble trb
  rw [v_isLost hI hs, cll_pos, chk_b01, ite_b0]
  by_cases z : σ 59 s < 0
  · rw [if_pos z, if_pos z]
  · rw [if_neg z, if_neg z, c.1, chk_pos (by omega), chk_pos h2]
    by_cases y : σ 59 s = p2
    · rw [if_pos y, if_pos y, (c.2 (by omega)).1, v_inside h3 (by omega), cll_pos, chk_b01, ite_b0]
      split <;> rfl
    · rw [if_neg y, if_neg y]
theorem m_lacks {σ : St} {s : Nat} (hs : s < 4) (hr : (-1 ≤ σ 59 s ∧ σ 59 s ≤ 2) ∧ 0 ≤ σ 60 s ∧ σ 60 s ≤ 60) {p2 p3 : Int} (h2 : in32 p2) (h3 : in32 p3) : f_X9_lacks σ s p2 p3 = if trb σ s p2 p3 = 0 then some (0, σ) else some (-10 - trb σ s p2 p3, su σ 58 4 (trb σ s p2 p3)) := by
  unfold f_X9_lacks trb
  rw [chk_pos (by omega), show (s : Int).toNat = s by omega, chk_pos (by omega), m_in (by omega) (by omega) (by omega), cll_pos, chk_b01, ite_b0, m_met, m_met, m_met, cll_pos, cll_pos, cll_pos]
  by_cases z : σ 59 s < 0
  · rw [if_neg (by omega), if_pos z, if_neg (by decide)]
  · rw [if_pos (by omega), if_neg z, chk_pos h2]
    by_cases y : σ 59 s = p2
    · rw [if_pos y, if_pos y, chk_pos h3, chk_pos (by omega)]
      by_cases w : 0 ≤ p3 ∧ p3 < σ 60 s
      · rw [if_pos w, if_pos (by omega), if_pos rfl]
      · rw [if_neg w, if_neg (by omega), if_neg (by decide)]
    · rw [if_neg y, if_neg y, if_neg (by decide)]
theorem b_lay {σ : St} (hI : Inv σ) {p1 p2 p3 p4 : Int} (h1 : in32 p1) (h2 : in32 p2) (h3 : in32 p3) (h4 : in32 p4) : Both (fun σ => f_X8_lay σ p1 p2 p3 p4) (fun σ => f_X9_lay σ p1 p2 p3 p4) σ := by
  unfold Both
  dsimp only
  have n1 : ∀ σ' : St, f_X9_lay σ' p1 p2 p3 p4 = if 0 ≤ p1 ∧ p1 ≤ 3 then if 0 ≤ p2 ∧ p2 ≤ 2 then cll (f_X9_lacks σ' p1 p2 p3) (fun r8 s9 => chk (in32 r8) ((if r8 = 0 then cll (f_X9_cut s9 p2 p4) (fun r11 s12 => chk (ix ((60 * p1) + p3) 240) (some (1, (su s12 61 ((60 * p1) + p3).toNat r11)))) else some (r8, s9)))) else some (-2, σ') else some (-2, σ') := fun σ' => by
    unfold f_X9_lay
    rw [m_isSheet h1, cll_pos, chk_b01, ite_b0, chk_pos h2, m_in (by omega) (by omega) (by omega), cll_pos, chk_b01, ite_b0]
  unfold f_X8_lay
  rw [v_inside h1 (by decide), cll_pos, chk_b01, ite_b0, v_inside h2 (by decide), cll_pos, chk_b01, ite_b0]
  by_cases q1 : 0 ≤ p1 ∧ p1 < 4
  · by_cases q2 : 0 ≤ p2 ∧ p2 < 3
    · obtain ⟨s, rfl⟩ := ex_nat q1.1
      have hs : s < 4 := by omega
      have hr := hI.2.1.she hs
      rw [mv_1, mv_2] at hr
      have c := hI.1.c7 s hs
      have tr := @trb_rng σ s p2 p3
      have e0 : (s : Int).toNat = s := by omega
      rw [if_pos q1, if_pos q2, chk_pos (by omega), e0, v_trouble hI hs h2 h3, cll_pos, chk_pos (by omega)]
      by_cases z : trb σ s p2 p3 = 0
      · have y := z
        unfold trb at y
        by_cases g1 : σ 59 s < 0
        · rw [if_pos g1] at y; omega
        · rw [if_neg g1] at y
          by_cases g2 : σ 59 s = p2
          · rw [if_pos g2] at y
            by_cases g3 : 0 ≤ p3 ∧ p3 < σ 60 s
            · obtain ⟨i, rfl⟩ := ex_nat g3.1
              have c2 := c.2 (by omega)
              rw [if_pos z, v_put c2.1 hr.2 g3.2 (c.1.trans g2) h2, cll_pos]
              have e59 : su σ (54 + s) i (cutZ p2 p4) 59 = σ 59 := su_ne 59 (by omega)
              have e60 : su σ (54 + s) i (cutZ p2 p4) 60 = σ 60 := su_ne 60 (by omega)
              have e61 : su σ (54 + s) i (cutZ p2 p4) 61 = σ 61 := su_ne 61 (by omega)
              refine ⟨1, su σ (54 + s) i (cutZ p2 p4), su (su σ (54 + s) i (cutZ p2 p4)) 61 (60 * s + i) (cutZ p2 p4), rfl, ?_, ?_⟩
              · have z2 : trb (su σ (54 + s) i (cutZ p2 p4)) s p2 i = 0 := by
                  unfold trb at z ⊢
                  rw [e59, e60]
                  exact z
                rw [n1, if_pos (by omega), if_pos (by omega), m_lacks hs (by rw [e59, e60]; exact hr) h2 h3, if_pos z2, cll_pos, chk_pos (by decide), if_pos rfl, m_cut h2, cll_pos, chk_pos (by omega), show (60 * (s : Int) + (i : Int)).toNat = 60 * s + i by omega]
              · refine inv_one hI hs (fun k a1 a2 a3 a4 a5 a6 => by rw [su_ne k a5, su_ne k a2]) (fun u hu => by rw [su_ne 59 (by decide), e59]) (fun u hu => by rw [su_ne 60 (by decide), e60]) (fun j hj => by rw [su_eq, if_neg (by omega), e61]) ⟨?_, fun g => ⟨?_, fun j hj => ?_⟩⟩ ?_ (fun j hj => ?_)
                · rw [su_ne (50 + s) (by omega), su_ne (50 + s) (by omega), su_ne 59 (by decide), e59]
                  exact c.1
                · rw [su_ne (50 + s) (by omega), su_ne (50 + s) (by omega), su_ne 60 (by decide), e60]
                  exact c2.1
                · rw [su_ne 60 (by decide), e60] at hj
                  rw [su_ne (54 + s) (by omega), su_eq, su_eq, e61]
                  by_cases e : j = i
                  · rw [if_pos e, if_pos (by omega)]
                  · rw [if_neg e, if_neg (by omega)]
                    exact c2.2 j hj
                · rw [su_ne 59 (by decide), e59, su_ne 60 (by decide), e60]
                  exact hr
                · rw [su_eq, e61]
                  split
                  · exact cutZ_32 h4
                  · exact hI.2.1.itm (by omega)
            · rw [if_neg g3] at y; omega
          · rw [if_neg g2] at y; omega
      · rw [if_neg z]
        generalize ht : trb σ s p2 p3 = t at z tr
        have e59 : su σ 0 10 t 59 = σ 59 := su_ne 59 (by omega)
        have e60 : su σ 0 10 t 60 = σ 60 := su_ne 60 (by omega)
        have z2 : trb (su σ 0 10 t) s p2 p3 = t := (trb_eq e59 e60).trans ht
        refine ⟨-10 - t, su σ 0 10 t, su (su σ 0 10 t) 58 4 t, rfl, ?_, inv_find hI (by omega)⟩
        rw [n1, if_pos (by omega), if_pos (by omega), m_lacks hs (by rw [e59, e60]; exact hr) h2 h3, z2, if_neg z, cll_pos, chk_pos (by omega), if_neg (by omega)]
    · rw [if_pos q1, if_neg q2]
      refine ⟨-2, σ, σ, rfl, ?_, hI⟩
      rw [n1, if_pos (by omega), if_neg (by omega)]
  · rw [if_neg q1]
    refine ⟨-2, σ, σ, rfl, ?_, hI⟩
    rw [n1, if_neg (by omega)]
theorem b_get {σ : St} (hI : Inv σ) {p1 p2 p3 : Int} (h1 : in32 p1) (h2 : in32 p2) (h3 : in32 p3) : Both (fun σ => f_X8_get σ p1 p2 p3) (fun σ => f_X9_get σ p1 p2 p3) σ := by
  unfold Both
  dsimp only
  have n1 : ∀ σ' : St, f_X9_get σ' p1 p2 p3 = if 0 ≤ p1 ∧ p1 ≤ 3 then if 0 ≤ p2 ∧ p2 ≤ 2 then cll (f_X9_lacks σ' p1 p2 p3) (fun r8 s9 => chk (in32 r8) ((if r8 = 0 then chk (ix ((60 * p1) + p3) 240) (some ((s9 61 ((60 * p1) + p3).toNat), s9)) else some ((-2147483648), s9)))) else some (-2147483648, σ') else some (-2147483648, σ') := fun σ' => by
    unfold f_X9_get
    rw [m_isSheet h1, cll_pos, chk_b01, ite_b0, chk_pos h2, m_in (by omega) (by omega) (by omega), cll_pos, chk_b01, ite_b0]
  unfold f_X8_get
  rw [v_inside h1 (by decide), cll_pos, chk_b01, ite_b0, v_inside h2 (by decide), cll_pos, chk_b01, ite_b0]
  by_cases q1 : 0 ≤ p1 ∧ p1 < 4
  · by_cases q2 : 0 ≤ p2 ∧ p2 < 3
    · obtain ⟨s, rfl⟩ := ex_nat q1.1
      have hs : s < 4 := by omega
      have hr := hI.2.1.she hs
      rw [mv_1, mv_2] at hr
      have c := hI.1.c7 s hs
      have tr := @trb_rng σ s p2 p3
      have e0 : (s : Int).toNat = s := by omega
      rw [if_pos q1, if_pos q2, chk_pos (by omega), e0, v_trouble hI hs h2 h3, cll_pos, chk_pos (by omega)]
      by_cases z : trb σ s p2 p3 = 0
      · have y := z
        unfold trb at y
        by_cases g1 : σ 59 s < 0
        · rw [if_pos g1] at y; omega
        · rw [if_neg g1] at y
          by_cases g2 : σ 59 s = p2
          · rw [if_pos g2] at y
            by_cases g3 : 0 ≤ p3 ∧ p3 < σ 60 s
            · obtain ⟨i, rfl⟩ := ex_nat g3.1
              have c2 := c.2 (by omega)
              rw [if_pos z, v_item c2.1 hr.2 g3.2, cll_pos, c2.2 i g3.2]
              refine ⟨_, σ, σ, rfl, ?_, hI⟩
              rw [n1, if_pos (by omega), if_pos (by omega), m_lacks hs hr h2 h3, if_pos z, cll_pos, chk_pos (by decide), if_pos rfl, chk_pos (by omega), show (60 * (s : Int) + (i : Int)).toNat = 60 * s + i by omega]
            · rw [if_neg g3] at y; omega
          · rw [if_neg g2] at y; omega
      · rw [if_neg z]
        generalize ht : trb σ s p2 p3 = t at z tr
        have e59 : su σ 0 10 t 59 = σ 59 := su_ne 59 (by omega)
        have e60 : su σ 0 10 t 60 = σ 60 := su_ne 60 (by omega)
        have z2 : trb (su σ 0 10 t) s p2 p3 = t := (trb_eq e59 e60).trans ht
        refine ⟨-2147483648, su σ 0 10 t, su (su σ 0 10 t) 58 4 t, rfl, ?_, inv_find hI (by omega)⟩
        rw [n1, if_pos (by omega), if_pos (by omega), m_lacks hs (by rw [e59, e60]; exact hr) h2 h3, z2, if_neg z, cll_pos, chk_pos (by omega), if_neg (by omega)]
    · rw [if_pos q1, if_neg q2]
      refine ⟨-2147483648, σ, σ, rfl, ?_, hI⟩
      rw [n1, if_pos (by omega), if_neg (by omega)]
  · rw [if_neg q1]
    refine ⟨-2147483648, σ, σ, rfl, ?_, hI⟩
    rw [n1, if_neg (by omega)]
theorem v_hasRun {σ : St} {q : Nat} {n a b : Int} (hs : σ (50 + q) 2 = n) (hn : 0 ≤ n ∧ n ≤ 60) (ha : in32 a) (hb : in32 b) : f_X4_hasRun q σ a b = some (if (0 ≤ a ∧ 0 ≤ b) ∧ a + b ≤ n then 1 else 0, σ) := by
  unfold f_X4_hasRun
  rw [hs, chk_pos ha]
  by_cases q1 : a < 0
  · rw [if_pos q1, if_neg (by omega)]
  · rw [if_neg q1, chk_pos hb]
    by_cases q2 : b < 0
    · rw [if_pos q2, if_neg (by omega)]
    · rw [if_neg q2, chk_pos (by omega)]
      by_cases q3 : n < a
      · rw [if_pos q3, if_neg (by omega)]
      · rw [if_neg q3, chk_pos (by omega)]
        by_cases q4 : n - a < b
        · rw [if_pos q4, if_neg (by omega)]
        · rw [if_neg q4, if_pos (by omega)]
theorem m_copy2 {σ0 : St} {t b m : Nat} (ht : t < 4) (hm : b + m ≤ 60) : ∀ (n j : Nat) (σ : St) (v : Int), v = j → (∀ k, k ≠ 61 → σ k = σ0 k) → (∀ i, (i < 60 * t + b ∨ 60 * t + b + j ≤ i) → σ 61 i = σ0 61 i) → (∀ i, i < j → σ 61 (60 * t + b + i) = σ0 62 i) → j ≤ m → m - j < n → ∃ σ', L_X9_copy_157 n σ t b m v = some (1, σ') ∧ (∀ k, k ≠ 61 → σ' k = σ0 k) ∧ (∀ i, (i < 60 * t + b ∨ 60 * t + b + m ≤ i) → σ' 61 i = σ0 61 i) ∧ ∀ i, i < m → σ' 61 (60 * t + b + i) = σ0 62 i
  | 0, j, σ, v, hv, h1, h2, h3, hj, hn => by omega
  | n + 1, j, σ, v, hv, h1, h2, h3, hj, hn => by
    subst hv
    rw [L_X9_copy_157, S_X9_copy_157, chk_pos (by omega), chk_pos (by omega)]
    by_cases e : (m : Int) ≤ (j : Int)
    · rw [if_pos e]
      have : j = m := by omega
      subst this
      exact ⟨σ, rfl, h1, h2, h3⟩
    · rw [if_neg e, chk_pos (by omega), chk_pos (by omega), show (60 * (t : Int) + (b : Int) + (j : Int)).toNat = 60 * t + b + j by omega, show (j : Int).toNat = j by omega]
      exact m_copy2 ht hm n (j + 1) _ _ (by omega) (fun k hk => by rw [su_ne k hk]; exact h1 k hk) (fun i hi => by rw [su_eq, if_neg (by omega)]; exact h2 i (by omega)) (fun i hi => by
        rw [su_eq]
        by_cases g : i = j
        · rw [if_pos (by omega), g, h1 62 (by decide)]
        · rw [if_neg (by omega)]; exact h3 i (by omega)) (by omega) (by omega)
theorem m_copy1 {σ0 : St} {s t a b m : Nat} (hs : s < 4) (ht : t < 4) (ha : a + m ≤ 60) (hb : b + m ≤ 60) : ∀ (n j : Nat) (σ : St) (v : Int), v = j → (∀ k, k ≠ 62 → σ k = σ0 k) → (∀ i, i < j → σ 62 i = σ0 61 (60 * s + a + i)) → j ≤ m → m - j < n → ∃ σ', L_X9_copy_120 n σ s a t b m v = some (1, σ') ∧ (∀ k, k ≠ 61 → k ≠ 62 → σ' k = σ0 k) ∧ (∀ i, (i < 60 * t + b ∨ 60 * t + b + m ≤ i) → σ' 61 i = σ0 61 i) ∧ ∀ i, i < m → σ' 61 (60 * t + b + i) = σ0 61 (60 * s + a + i)
  | 0, j, σ, v, hv, h1, h2, hj, hn => by omega
  | n + 1, j, σ, v, hv, h1, h2, hj, hn => by
    subst hv
    rw [L_X9_copy_120, S_X9_copy_120, chk_pos (by omega), chk_pos (by omega)]
    by_cases e : (m : Int) ≤ (j : Int)
    · rw [if_pos e]
      obtain ⟨σ', k1, k2, k3, k4⟩ := m_copy2 (σ0 := σ) ht hb FU 0 σ 0 rfl (fun _ _ => rfl) (fun _ _ => rfl) (fun i hi => by omega) (by omega) (by rw [FU_eq]; omega)
      exact ⟨σ', k1, fun k a1 a2 => by rw [k2 k a1, h1 k a2], fun i hi => by rw [k3 i hi, h1 61 (by decide)], fun i hi => by rw [k4 i hi, h2 i (by omega)]⟩
    · rw [if_neg e, chk_pos (by omega), chk_pos (by omega), show (60 * (s : Int) + (a : Int) + (j : Int)).toNat = 60 * s + a + j by omega, show (j : Int).toNat = j by omega]
      exact m_copy1 hs ht ha hb n (j + 1) _ _ (by omega) (fun k hk => by rw [su_ne k hk]; exact h1 k hk) (fun i hi => by
        rw [su_eq]
        by_cases g : i = j
        · rw [if_pos g, g, h1 61 (by decide)]
        · rw [if_neg g]; exact h2 i (by omega)) (by omega) (by omega)
