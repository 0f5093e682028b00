/-! BOTH SIDES: what a change leaves -/
def Both (A B : St → Option Rt) (σ : St) : Prop := ∃ (r : Int) (σ1 σ2 : St), A σ = some (r, σ1) ∧ B σ1 = some (r, σ2) ∧ Inv σ2
theorem ex_nat {p : Int} (h : 0 ≤ p) : ∃ n : Nat, p = n := ⟨p.toNat, by omega⟩
def C1 (σ : St) : Prop := ∀ t, t < 4 → σ (2 + t) 1 = σ 64 t ∧ ∀ i : Nat, (i : Int) < σ 64 t → σ (6 + t) i = σ 63 (30 * t + i)
def C2 (σ : St) : Prop := ∀ j, j < 7 → σ 10 j = σ 65 j
def C3 (σ : St) : Prop := ∀ s, s < 3 → σ 11 s = σ 66 s
def C4 (σ : St) : Prop := σ 12 3 = σ 58 9 ∧ σ 58 9 ≤ 8 ∧ ∀ k : Nat, (k : Int) < σ 58 9 → σ 13 k = σ 67 (3 * k) ∧ σ 14 k = σ 67 (3 * k + 1) ∧ σ 15 k = σ 67 (3 * k + 2)
def C5 (σ : St) : Prop := (0 ≤ σ 37 6 ∧ σ 37 6 < 256) ∧ ∀ k, k < 8 → (σ 37 6).toNat.testBit k = decide (σ 69 (4 * k) = 1) ∧ σ 38 k = σ 69 (4 * k + 1) ∧ σ 39 k = σ 69 (4 * k + 2) ∧ σ 40 k = σ 69 (4 * k + 3)
def C6 (σ : St) : Prop := σ 45 3 = σ 58 17 ∧ ∀ k : Nat, (k : Int) < σ 58 17 → σ 46 k = σ 70 (3 * k) ∧ σ 47 k = σ 70 (3 * k + 1) ∧ σ 48 k = σ 70 (3 * k + 2)
def C7 (σ : St) : Prop := ∀ s, s < 4 → σ (50 + s) 1 = σ 59 s ∧ (0 ≤ σ 59 s → σ (50 + s) 2 = σ 60 s ∧ ∀ i : Nat, (i : Int) < σ 60 s → σ (54 + s) i = σ 61 (60 * s + i))
def C8 (σ : St) : Prop := σ 0 10 = σ 58 4
theorem CI.c1 {σ : St} (h : CI σ) : C1 σ := h.1
theorem CI.c2 {σ : St} (h : CI σ) : C2 σ := h.2.1
theorem CI.c3 {σ : St} (h : CI σ) : C3 σ := h.2.2.1
theorem CI.c4 {σ : St} (h : CI σ) : C4 σ := h.2.2.2.1
theorem CI.c5 {σ : St} (h : CI σ) : C5 σ := h.2.2.2.2.1
theorem CI.c6 {σ : St} (h : CI σ) : C6 σ := h.2.2.2.2.2.1
theorem CI.c7 {σ : St} (h : CI σ) : C7 σ := h.2.2.2.2.2.2.1
theorem CI.c8 {σ : St} (h : CI σ) : C8 σ := h.2.2.2.2.2.2.2
theorem C1.of {σ' σ : St} (h : C1 σ) (e : ∀ k, (2 ≤ k ∧ k ≤ 9) ∨ k = 63 ∨ k = 64 → σ' k = σ k) : C1 σ' := fun t ht => by
  rw [e (2 + t) (by omega), e 64 (by omega), e (6 + t) (by omega), e 63 (by omega)]
  exact h t ht
theorem C2.of {σ' σ : St} (h : C2 σ) (e : ∀ k, k = 10 ∨ k = 65 → σ' k = σ k) : C2 σ' := fun j hj => by
  rw [e 10 (by omega), e 65 (by omega)]
  exact h j hj
theorem C3.of {σ' σ : St} (h : C3 σ) (e : ∀ k, k = 11 ∨ k = 66 → σ' k = σ k) : C3 σ' := fun j hj => by
  rw [e 11 (by omega), e 66 (by omega)]
  exact h j hj
theorem C4.of {σ' σ : St} (h : C4 σ) (e : ∀ k, (12 ≤ k ∧ k ≤ 15) ∨ k = 67 → σ' k = σ k) (e9 : σ' 58 9 = σ 58 9) : C4 σ' := by
  unfold C4
  rw [e 12 (by omega), e9, e 13 (by omega), e 14 (by omega), e 15 (by omega), e 67 (by omega)]
  exact h
theorem C5.of {σ' σ : St} (h : C5 σ) (e : ∀ k, (38 ≤ k ∧ k ≤ 40) ∨ k = 69 → σ' k = σ k) (e6 : σ' 37 6 = σ 37 6) : C5 σ' := by
  unfold C5
  rw [e6, e 69 (by omega), e 38 (by omega), e 39 (by omega), e 40 (by omega)]
  exact h
theorem C6.of {σ' σ : St} (h : C6 σ) (e : ∀ k, (45 ≤ k ∧ k ≤ 48) ∨ k = 70 → σ' k = σ k) (e17 : σ' 58 17 = σ 58 17) : C6 σ' := by
  unfold C6
  rw [e 45 (by omega), e17, e 46 (by omega), e 47 (by omega), e 48 (by omega), e 70 (by omega)]
  exact h
theorem C7.of {σ' σ : St} (h : C7 σ) (e : ∀ k, (50 ≤ k ∧ k ≤ 57) ∨ k = 59 ∨ k = 60 ∨ k = 61 → σ' k = σ k) : C7 σ' := fun s hs => by
  rw [e (50 + s) (by omega), e 59 (by omega), e 60 (by omega), e (54 + s) (by omega), e 61 (by omega)]
  exact h s hs
theorem C8.of {σ' σ : St} (h : C8 σ) (e0 : σ' 0 10 = σ 0 10) (e4 : σ' 58 4 = σ 58 4) : C8 σ' := by
  unfold C8
  rw [e0, e4]
  exact h
/-- the view of a changed memory -/
theorem mvw {σ : St} {c k i : Nat} {v : Int} (h : (c = 59 ∧ k = 1) ∨ (c = 60 ∧ k = 2) ∨ (c = 61 ∧ k = 3) ∨ (c = 63 ∧ k = 5) ∨ (c = 64 ∧ k = 6) ∨ (c = 65 ∧ k = 7) ∨ (c = 66 ∧ k = 8) ∨ (c = 69 ∧ k = 11) ∨ (c = 70 ∧ k = 12)) : mv (su σ c i v) = su (mv σ) k i v := by
  funext k' j
  rcases h with ⟨rfl, rfl⟩ | ⟨rfl, rfl⟩ | ⟨rfl, rfl⟩ | ⟨rfl, rfl⟩ | ⟨rfl, rfl⟩ | ⟨rfl, rfl⟩ | ⟨rfl, rfl⟩ | ⟨rfl, rfl⟩ | ⟨rfl, rfl⟩ <;>
  · match k' with
    | 0 => match j with
      | 4 | 9 | 17 => simp [mv, su]
      | 0 | 1 | 2 | 3 | 5 | 6 | 7 | 8 | 10 | 11 | 12 | 13 | 14 | 15 | 16 => simp [mv, su]
      | n + 18 => simp [mv, su]
    | 1 | 2 | 3 | 4 | 5 | 6 | 7 | 8 | 9 | 10 | 11 | 12 => simp [mv, su]
    | n + 13 => simp [mv, su]
theorem mvw4 {σ : St} {v : Int} : mv (su σ 58 4 v) = su (mv σ) 0 4 v := by
  funext k' j
  match k' with
  | 0 => match j with
    | 4 | 9 | 17 => simp [mv, su]
    | 0 | 1 | 2 | 3 | 5 | 6 | 7 | 8 | 10 | 11 | 12 | 13 | 14 | 15 | 16 => simp [mv, su]
    | n + 18 => simp [mv, su]
  | 1 | 2 | 3 | 4 | 5 | 6 | 7 | 8 | 9 | 10 | 11 | 12 => simp [mv, su]
  | n + 13 => simp [mv, su]
theorem mvw17 {σ : St} {v : Int} : mv (su σ 58 17 v) = su (mv σ) 0 17 v := by
  funext k' j
  match k' with
  | 0 => match j with
    | 4 | 9 | 17 => simp [mv, su]
    | 0 | 1 | 2 | 3 | 5 | 6 | 7 | 8 | 10 | 11 | 12 | 13 | 14 | 15 | 16 => simp [mv, su]
    | n + 18 => simp [mv, su]
  | 1 | 2 | 3 | 4 | 5 | 6 | 7 | 8 | 9 | 10 | 11 | 12 => simp [mv, su]
  | n + 13 => simp [mv, su]
/-- a number within its range goes in -/
theorem MI.u {M' M : St} (hM : MI M) (k : Nat) (hk : ∀ j, j ≠ k → M' j = M j) (h0 : k ≠ 0 ∧ k ≠ 9)
    (p6 : k = 6 → ∀ t, t < 4 → 0 ≤ M' 6 t ∧ M' 6 t ≤ (rr_tl t : Nat)) (p5 : k = 5 → ∀ i, i < 120 → 0 ≤ M' 5 i ∧ M' 5 i ≤ 255) (p7 : k = 7 → ∀ j, j < 7 → rr_TL j ≤ M' 7 j ∧ M' 7 j ≤ rr_TM j) (p8 : k = 8 → ∀ s, s < 3 → 0 ≤ M' 8 s ∧ M' 8 s ≤ 99)
    (p11 : k = 11 → ∀ k, k < 8 → (M' 11 (4 * k) = 0 ∨ M' 11 (4 * k) = 1) ∧ (0 ≤ M' 11 (4 * k + 1) ∧ M' 11 (4 * k + 1) ≤ 29) ∧ (0 ≤ M' 11 (4 * k + 2) ∧ M' 11 (4 * k + 2) ≤ 99) ∧ 0 ≤ M' 11 (4 * k + 3) ∧ M' 11 (4 * k + 3) ≤ 99)
    (p12 : k = 12 → ∀ k, k < 8 → (0 ≤ M' 12 (3 * k) ∧ M' 12 (3 * k) ≤ 29) ∧ (0 ≤ M' 12 (3 * k + 1) ∧ M' 12 (3 * k + 1) ≤ 11) ∧ (M' 12 (3 * k + 2) = 0 ∨ M' 12 (3 * k + 2) = 1))
    (p1 : k = 1 → ∀ s, s < 4 → -1 ≤ M' 1 s ∧ M' 1 s ≤ 2) (p2 : k = 2 → ∀ s, s < 4 → 0 ≤ M' 2 s ∧ M' 2 s ≤ 60) (p3 : k = 3 → ∀ i, i < 240 → in32 (M' 3 i)) : MI M' := by
  have e : ∀ j, (j = k ∧ True) ∨ M' j = M j := fun j => by
    by_cases q : j = k
    · exact Or.inl ⟨q, trivial⟩
    · exact Or.inr (hk j q)
  obtain ⟨a1, a2, a3, a4, a5, a6, a7, a8, a9, a10, a11, a12⟩ := hM
  have z0 : M' 0 = M 0 := hk 0 (fun q => h0.1 q.symm)
  have z9 : M' 9 = M 9 := hk 9 (fun q => h0.2 q.symm)
  refine ⟨?_, ?_, ?_, ?_, ?_, ?_, ?_, ?_, ?_, ?_, ?_, ?_⟩
  · rcases e 6 with ⟨q, -⟩ | q
    · exact p6 q.symm
    · rw [q]; exact a1
  · rcases e 5 with ⟨q, -⟩ | q
    · exact p5 q.symm
    · rw [q]; exact a2
  · rcases e 7 with ⟨q, -⟩ | q
    · exact p7 q.symm
    · rw [q]; exact a3
  · rcases e 8 with ⟨q, -⟩ | q
    · exact p8 q.symm
    · rw [q]; exact a4
  · rw [z0]; exact a5
  · rw [z0, z9]; exact a6
  · rcases e 11 with ⟨q, -⟩ | q
    · exact p11 q.symm
    · rw [q]; exact a7
  · rw [z0]; exact a8
  · rcases e 12 with ⟨q, -⟩ | q
    · exact p12 q.symm
    · rw [q]; exact a9
  · intro s hs
    refine ⟨?_, ?_⟩
    · rcases e 1 with ⟨q, -⟩ | q
      · exact p1 q.symm s hs
      · rw [q]; exact (a10 s hs).1
    · rcases e 2 with ⟨q, -⟩ | q
      · exact p2 q.symm s hs
      · rw [q]; exact (a10 s hs).2
  · rcases e 3 with ⟨q, -⟩ | q
    · exact p3 q.symm
    · rw [q]; exact a11
  · rw [z0]; exact a12
theorem MI.u5 {M : St} (hM : MI M) {i : Nat} {v : Int} (hv : 0 ≤ v ∧ v ≤ 255) : MI (su M 5 i v) :=
  hM.u 5 (fun j h => su_ne j h) (by decide) (fun h => by omega) (fun _ j hj => by rw [su_eq]; split; exact hv; exact hM.byt hj) (fun h => by omega) (fun h => by omega) (fun h => by omega) (fun h => by omega) (fun h => by omega) (fun h => by omega) (fun h => by omega)
theorem MI.u6 {M : St} (hM : MI M) {t : Nat} {v : Int} (hv : 0 ≤ v ∧ v ≤ (rr_tl t : Nat)) : MI (su M 6 t v) :=
  hM.u 6 (fun j h => su_ne j h) (by decide) (fun _ j hj => by rw [su_eq]; split; (rename_i q; subst q; exact hv); exact hM.1 j hj) (fun h => by omega) (fun h => by omega) (fun h => by omega) (fun h => by omega) (fun h => by omega) (fun h => by omega) (fun h => by omega) (fun h => by omega)
theorem MI.u7 {M : St} (hM : MI M) {t : Nat} {v : Int} (hv : rr_TL t ≤ v ∧ v ≤ rr_TM t) : MI (su M 7 t v) :=
  hM.u 7 (fun j h => su_ne j h) (by decide) (fun h => by omega) (fun h => by omega) (fun _ j hj => by rw [su_eq]; split; (rename_i q; subst q; exact hv); exact hM.2.2.1 j hj) (fun h => by omega) (fun h => by omega) (fun h => by omega) (fun h => by omega) (fun h => by omega) (fun h => by omega)
theorem MI.u8 {M : St} (hM : MI M) {t : Nat} {v : Int} (hv : 0 ≤ v ∧ v ≤ 99) : MI (su M 8 t v) :=
  hM.u 8 (fun j h => su_ne j h) (by decide) (fun h => by omega) (fun h => by omega) (fun h => by omega) (fun _ j hj => by rw [su_eq]; split; exact hv; exact hM.chc hj) (fun h => by omega) (fun h => by omega) (fun h => by omega) (fun h => by omega) (fun h => by omega)
theorem MI.u1 {M : St} (hM : MI M) {t : Nat} {v : Int} (hv : -1 ≤ v ∧ v ≤ 2) : MI (su M 1 t v) :=
  hM.u 1 (fun j h => su_ne j h) (by decide) (fun h => by omega) (fun h => by omega) (fun h => by omega) (fun h => by omega) (fun h => by omega) (fun h => by omega) (fun _ j hj => by rw [su_eq]; split; exact hv; exact (hM.she hj).1) (fun h => by omega) (fun h => by omega)
theorem MI.u2 {M : St} (hM : MI M) {t : Nat} {v : Int} (hv : 0 ≤ v ∧ v ≤ 60) : MI (su M 2 t v) :=
  hM.u 2 (fun j h => su_ne j h) (by decide) (fun h => by omega) (fun h => by omega) (fun h => by omega) (fun h => by omega) (fun h => by omega) (fun h => by omega) (fun h => by omega) (fun _ j hj => by rw [su_eq]; split; exact hv; exact (hM.she hj).2) (fun h => by omega)
theorem MI.u3 {M : St} (hM : MI M) {t : Nat} {v : Int} (hv : in32 v) : MI (su M 3 t v) :=
  hM.u 3 (fun j h => su_ne j h) (by decide) (fun h => by omega) (fun h => by omega) (fun h => by omega) (fun h => by omega) (fun h => by omega) (fun h => by omega) (fun h => by omega) (fun h => by omega) (fun _ j hj => by rw [su_eq]; split; exact hv; exact hM.itm hj)
theorem MI.u11 {M : St} (hM : MI M) {i : Nat} {v : Int} (h0 : i % 4 = 0 → v = 0 ∨ v = 1) (h1 : i % 4 = 1 → 0 ≤ v ∧ v ≤ 29) (h2 : i % 4 = 2 → 0 ≤ v ∧ v ≤ 99) (h3 : i % 4 = 3 → 0 ≤ v ∧ v ≤ 99) : MI (su M 11 i v) :=
  hM.u 11 (fun j h => su_ne j h) (by decide) (fun h => by omega) (fun h => by omega) (fun h => by omega) (fun h => by omega) (fun _ j hj => by
    have c := hM.con hj
    simp only [su_eq]
    refine ⟨?_, ?_, ?_, ?_⟩
    · split
      · exact h0 (by omega)
      · exact c.1
    · split
      · exact h1 (by omega)
      · exact c.2.1
    · split
      · exact h2 (by omega)
      · exact c.2.2.1
    · split
      · exact h3 (by omega)
      · exact c.2.2.2) (fun h => by omega) (fun h => by omega) (fun h => by omega) (fun h => by omega)
theorem MI.u12 {M : St} (hM : MI M) {i : Nat} {v : Int} (h0 : i % 3 = 0 → 0 ≤ v ∧ v ≤ 29) (h1 : i % 3 = 1 → 0 ≤ v ∧ v ≤ 11) (h2 : i % 3 = 2 → v = 0 ∨ v = 1) : MI (su M 12 i v) :=
  hM.u 12 (fun j h => su_ne j h) (by decide) (fun h => by omega) (fun h => by omega) (fun h => by omega) (fun h => by omega) (fun h => by omega) (fun _ j hj => by
    have c := hM.fac hj
    simp only [su_eq]
    refine ⟨?_, ?_, ?_⟩
    · split
      · exact h0 (by omega)
      · exact c.1
    · split
      · exact h1 (by omega)
      · exact c.2.1
    · split
      · exact h2 (by omega)
      · exact c.2.2) (fun h => by omega) (fun h => by omega) (fun h => by omega)
theorem MI.u04 {M : St} (hM : MI M) {v : Int} (hv : 0 ≤ v ∧ v ≤ 5) : MI (su M 0 4 v) := by
  obtain ⟨a1, a2, a3, a4, a5, a6, a7, a8, a9, a10, a11, a12⟩ := hM
  exact ⟨a1, a2, a3, a4, a5, a6, a7, a8, a9, a10, a11, by rw [su_eq, if_pos rfl]; exact hv⟩
theorem MI.u017 {M : St} (hM : MI M) {v : Int} (hv : 0 ≤ v ∧ v ≤ 8) : MI (su M 0 17 v) := by
  obtain ⟨a1, a2, a3, a4, a5, a6, a7, a8, a9, a10, a11, a12⟩ := hM
  exact ⟨a1, a2, a3, a4, a5, a6, a7, by rw [su_eq, if_pos rfl]; exact hv, a9, a10, a11, a12⟩
/-- the valley stands on texts, deed and dikes alone -/
theorem wb_congr {M' M : St} (h5 : M' 5 = M 5) (h6 : M' 6 = M 6) (h7 : M' 7 = M 7) (h9 : M' 9 = M 9) (h09 : M' 0 9 = M 0 9) (s d : Nat) : wb M' s d = wb M s d := by
  have hk : ∀ y, kep M' d y = kep M d y := fun y => by
    unfold kep
    rw [h09]
    exact kepA_congr d y _ (fun j _ => by rw [h9])
  have hy : yds M' = yds M := fig_congr h5 h6 3
  unfold wb
  rw [hy]
  refine bts_congr fun y _ => ?_
  unfold wet hgt
  rw [hk, pos_congr h5 h6 h7, lev_congr h5 h6, h5, h7]
theorem FRS.of2 {σ' σ : St} (h : FRS σ) (h5 : mv σ' 5 = mv σ 5) (h6 : mv σ' 6 = mv σ 6) (h7 : mv σ' 7 = mv σ 7) (h9 : mv σ' 9 = mv σ 9) (h09 : mv σ' 0 9 = mv σ 0 9) (hk : ∀ k, 16 ≤ k → k ≤ 27 → σ' k = σ k) : FRS σ' := by
  unfold FRS FRE
  rw [hk 16 (by omega) (by omega)]
  rcases h with h | h
  · exact Or.inl h
  · refine Or.inr ⟨h.1, fun s hs => ?_⟩
    have o := h.2 s hs
    rw [hk 25 (by omega) (by omega), hk (18 + s) (by omega) (by omega), hk (22 + s) (by omega) (by omega), pos_congr h5 h6 h7]
    refine ⟨o.1, fun d hd => ?_⟩
    rw [lev_congr h5 h6, wb_congr h5 h6 h7 h9 h09]
    exact o.2 d hd
