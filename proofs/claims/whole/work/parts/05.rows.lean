theorem i64_le {x y : Int} (hx : in64 x) (hy : in64 y) : Int64.ofInt x ≤ Int64.ofInt y ↔ x ≤ y := by rw [Int64.le_iff_toInt_le, i64_rt hx, i64_rt hy]
theorem z32_0 : in32 0 := by decide
theorem zr32_ne {y : Int} (h2 : 0 < y) (h3 : in32 y) : ¬ Int32.ofInt y = 0 := by
  intro q
  have := (i32_eq h3 z32_0).mp q
  omega
theorem zr64_ne {y : Int} (h2 : 0 < y) (h3 : in64 y) : ¬ Int64.ofInt y = 0 := by
  intro q
  have := (i64_eq h3 (y := 0) (by decide)).mp q
  omega
theorem zr32_div {x y : Int} (h0 : 0 ≤ x) (h1 : in32 x) (h2 : 0 < y) (h3 : in32 y) : Int32.ofInt x / Int32.ofInt y = Int32.ofInt (x / y) := by
  rw [← Int.tdiv_eq_ediv_of_nonneg h0]
  exact (Int32.ofInt_tdiv h1.1 h1.2 h3.1 h3.2).symm
theorem zr64_div {x y : Int} (h0 : 0 ≤ x) (h1 : in64 x) (h2 : 0 < y) (h3 : in64 y) : Int64.ofInt x / Int64.ofInt y = Int64.ofInt (x / y) := by
  rw [← Int.tdiv_eq_ediv_of_nonneg h0]
  exact (Int64.ofInt_tdiv h1.1 h1.2 h3.1 h3.2).symm
theorem zr32_rem {x y : Int} (h0 : 0 ≤ x) (h1 : in32 x) (h2 : 0 < y) (h3 : in32 y) : Int32.ofInt x - Int32.ofInt x / Int32.ofInt y * Int32.ofInt y = Int32.ofInt (x % y) := by
  rw [zr32_div h0 h1 h2 h3, ← Int32.ofInt_mul, ← Int32.ofInt_sub, Int.emod_def, Int.mul_comm]
theorem zr64_rem {x y : Int} (h0 : 0 ≤ x) (h1 : in64 x) (h2 : 0 < y) (h3 : in64 y) : Int64.ofInt x - Int64.ofInt x / Int64.ofInt y * Int64.ofInt y = Int64.ofInt (x % y) := by
  rw [zr64_div h0 h1 h2 h3, ← Int64.ofInt_mul, ← Int64.ofInt_sub, Int.emod_def, Int.mul_comm]
theorem rr_nz {x : Int} (h : x = 0 ∨ x = 1) : narrow .boolean (vi x) = vi x := by rcases h with rfl | rfl <;> decide
theorem rr_fz {x : Int} (h : x = 0 ∨ x = 1) : fits .boolean (vi x) = true := by rcases h with rfl | rfl <;> decide
theorem rr_vnz {x : Int} (h : x = 0 ∨ x = 1) : vp_nar .boolean (Int32.ofInt x) = Int32.ofInt x := by rcases h with rfl | rfl <;> decide
theorem rr_kE_i {G : Ge} {σ : St} {k i n : Nat} {x : Int} : rr_kE G (su σ k i x k) (.inl (0, n)) = .inl (G.2.2.1 0, n, .inl (upd (fun j => Int32.ofInt (σ k j)) i (Int32.ofInt x))) := by
  show (Sum.inl (G.2.2.1 0, n, Sum.inl (fun j => Int32.ofInt (su σ k i x k j))) : va_E) = _
  refine congrArg (fun f => (Sum.inl (G.2.2.1 0, n, Sum.inl f) : va_E)) (funext fun j => ?_)
  rw [su_eq]
  unfold upd
  split <;> rfl
theorem rr_kE_z {G : Ge} {σ : St} {k i n : Nat} {x : Int} (h : x = 0 ∨ x = 1) : rr_kE G (su σ k i x k) (.inl (2, n)) = .inl (G.2.2.1 2, n, .inl (upd (fun j => Int32.ofInt (σ k j)) i (vp_nar .boolean (Int32.ofInt x)))) := by
  rw [rr_vnz h]
  show (Sum.inl (G.2.2.1 2, n, Sum.inl (fun j => Int32.ofInt (su σ k i x k j))) : va_E) = _
  refine congrArg (fun f => (Sum.inl (G.2.2.1 2, n, Sum.inl f) : va_E)) (funext fun j => ?_)
  rw [su_eq]
  unfold upd
  split <;> rfl
theorem rr_kE_l {G : Ge} {σ : St} {k i n : Nat} {x : Int} : rr_kE G (su σ k i x k) (.inl (1, n)) = .inl (G.2.2.1 1, n, .inr (.inl (vp_updL (fun j => Int64.ofInt (σ k j)) i (Int64.ofInt x)))) := by
  show (Sum.inl (G.2.2.1 1, n, Sum.inr (Sum.inl (fun j => Int64.ofInt (su σ k i x k j)))) : va_E) = _
  refine congrArg (fun f => (Sum.inl (G.2.2.1 1, n, Sum.inr (Sum.inl f)) : va_E)) (funext fun j => ?_)
  rw [su_eq]
  unfold vp_updL
  split <;> rfl
theorem rr_kE_o {G : Ge} {f : Nat → Int} {ci : Nat} {fs : List (Nat × Nat)} : rr_kE G f (.inr (.inr (ci, fs))) = .inr (ci, rr_fvs G.2.1 f 0 fs) := rfl
theorem rr_fvs_getA {ad : Nat → Nat} {f : Nat → Int} : ∀ (fs : List (Nat × Nat)) (i j : Nat) {q : Nat × Nat}, fs[j]? = some q → (rr_fvs ad f i fs)[j]? = some (rr_fv ad f (i + j) q)
  | [], _, _, _, h => by simp at h
  | q0 :: qs, i, 0, q, h => by
    simp at h
    subst h
    simp [rr_fvs]
  | q0 :: qs, i, j + 1, q, h => by
    have h1 : qs[j]? = some q := by simpa using h
    have := rr_fvs_getA (ad := ad) (f := f) qs (i + 1) j h1
    rw [show i + 1 + j = i + (j + 1) by omega] at this
    simpa [rr_fvs] using this
theorem rr_fvs_get {ad : Nat → Nat} {f : Nat → Int} {fs : List (Nat × Nat)} {j : Nat} {q : Nat × Nat} (h : fs[j]? = some q) : (rr_fvs ad f 0 fs)[j]? = some (rr_fv ad f (0 + j) q) := rr_fvs_getA fs 0 j h
theorem rr_fvs_len {ad : Nat → Nat} {f : Nat → Int} {fs : List (Nat × Nat)} : ∀ {i : Nat}, (rr_fvs ad f i fs).length = fs.length := by
  induction fs with
  | nil => intro i; rfl
  | cons q qs ih => intro i; simp [rr_fvs, ih]
theorem rr_fvs_none {ad : Nat → Nat} {f g : Nat → Int} : ∀ (fs : List (Nat × Nat)) (i : Nat), (∀ a, i ≤ a → f a = g a) → rr_fvs ad f i fs = rr_fvs ad g i fs
  | [], _, _ => rfl
  | q :: qs, i, h => by
    have h1 := rr_fvs_none (ad := ad) qs (i + 1) (fun a ha => h a (by omega))
    have h2 := h i (Nat.le_refl i)
    simp only [rr_fvs, h1, rr_fv, h2]
theorem rr_fvs_setA {ad : Nat → Nat} {σ : St} {k : Nat} {x : Int} : ∀ (fs : List (Nat × Nat)) (i j : Nat) {q : Nat × Nat}, fs[j]? = some q → rr_fvs ad (su σ k (i + j) x k) i fs = (rr_fvs ad (σ k) i fs).set j (rr_fv ad (fun _ => x) (i + j) q)
  | [], _, _, _, h => by simp at h
  | q0 :: qs, i, 0, q, h => by
    simp at h
    subst h
    have h1 := rr_fvs_none (ad := ad) (f := su σ k (i + 0) x k) (g := σ k) qs (i + 1) (fun a ha => by rw [su_eq, if_neg (by omega)])
    rw [Nat.add_zero] at h1
    simp only [rr_fvs, List.set_cons_zero, rr_fv, su_eq, Nat.add_zero, if_true, h1]
  | q0 :: qs, i, j + 1, q, h => by
    have h1 : qs[j]? = some q := by simpa using h
    have := rr_fvs_setA (ad := ad) (σ := σ) (k := k) (x := x) qs (i + 1) j h1
    rw [show i + 1 + j = i + (j + 1) by omega] at this
    simp only [rr_fvs, List.set_cons_succ, this, rr_fv, su_eq]
    rw [if_neg (show ¬ i = i + (j + 1) by omega)]
theorem rr_fvs_set {ad : Nat → Nat} {σ : St} {k j : Nat} {x : Int} {fs : List (Nat × Nat)} {q : Nat × Nat} (h : fs[j]? = some q) : rr_fvs ad (su σ k j x k) 0 fs = (rr_fvs ad (σ k) 0 fs).set j (rr_fv ad (fun _ => x) j q) := by
  have := rr_fvs_setA (ad := ad) (σ := σ) (k := k) (x := x) fs 0 j h
  rwa [Nat.zero_add] at this
def rr_FL (own : String) (ixx ci j : Nat) : Prop := ∃ (C : String) (T : u_T) (N : Nat), vwCl[ci]? = some (C, T, N) ∧ (∀ w ∈ u_ws C T N, w ∈ rr_tbl) ∧ j < N ∧ Cond.fieldLink own ixx (T j).1 (T j).2.1 (T j).2.2.1 ∈ rr_tbl
def rr_FLN (own : String) (ixx ci j : Nat) : Prop := ∃ (C : String) (T : u_T) (N : Nat) (host : String), vwCl[ci]? = some (C, T, N) ∧ (∀ w ∈ u_ws C T N, w ∈ rr_tbl) ∧ j < N ∧ Cond.fieldLinkNest own ixx (T j).1 (T j).2.1 (T j).2.2.1 host ∈ lw_tbl
def rr_FP (own : String) (ixx ci j : Nat) (ty : FieldType) : Prop := ∃ (C : String) (T : u_T) (N : Nat) (ty0 : Nat → FieldType), vwCl[ci]? = some (C, T, N) ∧ (∀ w ∈ u_ws C T N, w ∈ rr_tbl) ∧ (∀ k, k < N → parseFieldDescriptor (T k).2.2.1 = some (ty0 k)) ∧ (∀ a, a < N → ∀ b, b < N → a ≠ b → (T a).2.1 ≠ (T b).2.1) ∧ j < N ∧ Cond.fieldLink own ixx (T j).1 (T j).2.1 (T j).2.2.1 ∈ rr_tbl ∧ (T j).2.2.2 = false ∧ parseFieldDescriptor (T j).2.2.1 = some ty
section ALDA
variable {p : Program} {l : Launch} {e : Env} {R : Room} {s : State} {m : MethodId} {args : Array Value} {below : List Frame} {meth : Method} {c : Code} {H : Heap} {locs : List Loc} {cells slots : Nat} {Q : State → Prop} {D : va_G} {cl : List vw_C} {tys : List (ClassId × FieldType)} {ws : va_W} {cc : ByteArray} {pc a : Nat} {ls : Array Slot} {rest : List Value}
theorem rr_aldA (hexec : p.tables.exec = Jvm.exec) (hb : c.code = cc) (hK : va_K D cl tys s) (hP : va_P D cl ws H) (q0 t0 : Nat) {cA : ClassId} {n : Nat} {f : Nat → Option Nat} (ha : ws[q0]? = some (a, .inl (cA, n, .inr (.inr (.inr (.inr f)))))) (ht : tys[t0]? = some (cA, .array .int)) {i : Int32} (hin : vp_in i n) (hdg : decode cc pc = .ok (.aaload, 1))
    (kk : W p l e R s m args below meth c H locs cells slots Q (F0 m (pc + 1) ls (va_rf (f i.toNatClampNeg) :: rest))) : W p l e R s m args below meth c H locs cells slots Q (F0 m pc ls (.int i :: .ref a :: rest)) := by
  have hlt : i.toNatClampNeg < n := Nat.not_le.mp fun q => hin (Or.inr q)
  exact W.aald (v := va_rf (f i.toNatClampNeg)) (ty := .array .int) hexec hb (hP q0 _ ha) ((hK.2 t0 _ ht).1 n (fun j => va_rf (f j))) rfl (fun q => by cases q) (by show ¬ (i < 0 ∨ (arrV _ _ _).slots.size ≤ _); rw [arrV_size]; exact hin) (by show (arrV _ _ _).slots[_]? = _; rw [arrV_read _ _ hlt]) rfl rfl hdg kk
end ALDA
section ROWS
variable {X : CX} {G : Ge} {cc : ByteArray} {nL rk a b pc : Nat} {own : String} {ret : Option FieldType} {Z : Rt} {lv lv' : List (Nat × Value)} {st : List Value} {σ : St}
theorem at_iconst (hO : rr_OK X G cc nL own ret a b) {n : Int} (hd : decode cc pc = .ok (.iconst n, 1)) (pc' : Nat) (hp : pc + 1 = pc') (k : rr_AT X G nL rk Z pc' lv (vi n :: st) σ) : rr_AT X G nL rk Z pc lv st σ := by
  obtain ⟨p, l, e, R, s, m, args, below, meth, c⟩ := X
  obtain ⟨hx, hb, hml, hown, hts, hK, hG, hr, hlk, hst, hnw, hR⟩ := hO
  subst hp
  intro H locs ls hP hS hl
  refine lv_iconst hx hb hd rfl ?_
  exact k H locs ls hP hS hl
theorem at_bipush (hO : rr_OK X G cc nL own ret a b) {n : Int} (hv : (Int8.ofInt n).toInt32 = Int32.ofInt n) (hd : decode cc pc = .ok (.bipush n, 2)) (pc' : Nat) (hp : pc + 2 = pc') (k : rr_AT X G nL rk Z pc' lv (vi n :: st) σ) : rr_AT X G nL rk Z pc lv st σ := by
  obtain ⟨p, l, e, R, s, m, args, below, meth, c⟩ := X
  obtain ⟨hx, hb, hml, hown, hts, hK, hG, hr, hlk, hst, hnw, hR⟩ := hO
  subst hp
  intro H locs ls hP hS hl
  refine lv_bipush hx hb hd hv ?_
  exact k H locs ls hP hS hl
theorem at_sipush (hO : rr_OK X G cc nL own ret a b) {n : Int} (hv : (Int16.ofInt n).toInt32 = Int32.ofInt n) (hd : decode cc pc = .ok (.sipush n, 3)) (pc' : Nat) (hp : pc + 3 = pc') (k : rr_AT X G nL rk Z pc' lv (vi n :: st) σ) : rr_AT X G nL rk Z pc lv st σ := by
  obtain ⟨p, l, e, R, s, m, args, below, meth, c⟩ := X
  obtain ⟨hx, hb, hml, hown, hts, hK, hG, hr, hlk, hst, hnw, hR⟩ := hO
  subst hp
  intro H locs ls hP hS hl
  refine lv_sipush hx hb hd hv ?_
  exact k H locs ls hP hS hl
theorem at_ldc (hO : rr_OK X G cc nL own ret a b) {n : Int} {ixx : Nat} {v : Int32} (hw : Cond.constant own ixx v ∈ rr_tbl) (hv : v = Int32.ofInt n) (hd : decode cc pc = .ok (.ldc ixx, 2)) (pc' : Nat) (hp : pc + 2 = pc') (k : rr_AT X G nL rk Z pc' lv (vi n :: st) σ) : rr_AT X G nL rk Z pc lv st σ := by
  obtain ⟨p, l, e, R, s, m, args, below, meth, c⟩ := X
  obtain ⟨hx, hb, hml, hown, hts, hK, hG, hr, hlk, hst, hnw, hR⟩ := hO
  subst hp
  intro H locs ls hP hS hl
  subst hv
  refine lv_ldc hx hb hown (hts _ hw) hd ?_
  exact k H locs ls hP hS hl
theorem at_ldc_w (hO : rr_OK X G cc nL own ret a b) {n : Int} {ixx : Nat} {v : Int32} (hw : Cond.constant own ixx v ∈ rr_tbl) (hv : v = Int32.ofInt n) (hd : decode cc pc = .ok (.ldc_w ixx, 3)) (pc' : Nat) (hp : pc + 3 = pc') (k : rr_AT X G nL rk Z pc' lv (vi n :: st) σ) : rr_AT X G nL rk Z pc lv st σ := by
  obtain ⟨p, l, e, R, s, m, args, below, meth, c⟩ := X
  obtain ⟨hx, hb, hml, hown, hts, hK, hG, hr, hlk, hst, hnw, hR⟩ := hO
  subst hp
  intro H locs ls hP hS hl
  subst hv
  refine lv_ldcw hx hb hown (hts _ hw) hd ?_
  exact k H locs ls hP hS hl
theorem at_ldc2_w (hO : rr_OK X G cc nL own ret a b) {n : Int} {ixx : Nat} {v : Int64} (hw : Cond.constantLong own ixx v ∈ rr_tbl) (hv : v = Int64.ofInt n) (hd : decode cc pc = .ok (.ldc2_w ixx, 3)) (pc' : Nat) (hp : pc + 3 = pc') (k : rr_AT X G nL rk Z pc' lv (vl n :: st) σ) : rr_AT X G nL rk Z pc lv st σ := by
  obtain ⟨p, l, e, R, s, m, args, below, meth, c⟩ := X
  obtain ⟨hx, hb, hml, hown, hts, hK, hG, hr, hlk, hst, hnw, hR⟩ := hO
  subst hp
  intro H locs ls hP hS hl
  subst hv
  refine lv_ldc2 hx hb hown (hts _ hw) hd ?_
  exact k H locs ls hP hS hl
theorem at_lconst (hO : rr_OK X G cc nL own ret a b) {n : Int} {q : Fin 2} (hv : Int64.ofNat (q : Nat) = Int64.ofInt n) (hd : decode cc pc = .ok (.lconst q, 1)) (pc' : Nat) (hp : pc + 1 = pc') (k : rr_AT X G nL rk Z pc' lv (vl n :: st) σ) : rr_AT X G nL rk Z pc lv st σ := by
  obtain ⟨p, l, e, R, s, m, args, below, meth, c⟩ := X
  obtain ⟨hx, hb, hml, hown, hts, hK, hG, hr, hlk, hst, hnw, hR⟩ := hO
  subst hp
  intro H locs ls hP hS hl
  refine lv_lconst hx hb hd hv ?_
  exact k H locs ls hP hS hl
theorem at_iload_n (hO : rr_OK X G cc nL own ret a b) {q : Fin 4} (j : Nat) {i : Nat} {x : Int} (hi : (q : Nat) = i) (hj : lv[j]? = some (i, vi x)) (hd : decode cc pc = .ok (.iload_n q, 1)) (pc' : Nat) (hp : pc + 1 = pc') (k : rr_AT X G nL rk Z pc' lv (vi x :: st) σ) : rr_AT X G nL rk Z pc lv st σ := by
  obtain ⟨p, l, e, R, s, m, args, below, meth, c⟩ := X
  obtain ⟨hx, hb, hml, hown, hts, hK, hG, hr, hlk, hst, hnw, hR⟩ := hO
  subst hp
  intro H locs ls hP hS hl
  refine lv_iload_n hx hb hd hi (lv_at hl j hj) ?_
  exact k H locs ls hP hS hl
theorem at_iload (hO : rr_OK X G cc nL own ret a b) (j : Nat) {i : Nat} {x : Int} (hj : lv[j]? = some (i, vi x)) (hd : decode cc pc = .ok (.iload i, 2)) (pc' : Nat) (hp : pc + 2 = pc') (k : rr_AT X G nL rk Z pc' lv (vi x :: st) σ) : rr_AT X G nL rk Z pc lv st σ := by
  obtain ⟨p, l, e, R, s, m, args, below, meth, c⟩ := X
  obtain ⟨hx, hb, hml, hown, hts, hK, hG, hr, hlk, hst, hnw, hR⟩ := hO
  subst hp
  intro H locs ls hP hS hl
  refine lv_iload hx hb hd (lv_at hl j hj) ?_
  exact k H locs ls hP hS hl
theorem at_lload_n (hO : rr_OK X G cc nL own ret a b) {q : Fin 4} (j : Nat) {i : Nat} {x : Int} (hi : (q : Nat) = i) (hj : lv[j]? = some (i, vl x)) (hd : decode cc pc = .ok (.lload_n q, 1)) (pc' : Nat) (hp : pc + 1 = pc') (k : rr_AT X G nL rk Z pc' lv (vl x :: st) σ) : rr_AT X G nL rk Z pc lv st σ := by
  obtain ⟨p, l, e, R, s, m, args, below, meth, c⟩ := X
  obtain ⟨hx, hb, hml, hown, hts, hK, hG, hr, hlk, hst, hnw, hR⟩ := hO
  subst hp
  intro H locs ls hP hS hl
  refine lv_lload_n hx hb hd hi (lv_at hl j hj) ?_
  exact k H locs ls hP hS hl
theorem at_lload (hO : rr_OK X G cc nL own ret a b) (j : Nat) {i : Nat} {x : Int} (hj : lv[j]? = some (i, vl x)) (hd : decode cc pc = .ok (.lload i, 2)) (pc' : Nat) (hp : pc + 2 = pc') (k : rr_AT X G nL rk Z pc' lv (vl x :: st) σ) : rr_AT X G nL rk Z pc lv st σ := by
  obtain ⟨p, l, e, R, s, m, args, below, meth, c⟩ := X
  obtain ⟨hx, hb, hml, hown, hts, hK, hG, hr, hlk, hst, hnw, hR⟩ := hO
  subst hp
  intro H locs ls hP hS hl
  refine lv_lload hx hb hd (lv_at hl j hj) ?_
  exact k H locs ls hP hS hl
theorem at_aload_n (hO : rr_OK X G cc nL own ret a b) {q : Fin 4} (j : Nat) {i : Nat} {x : Nat} (hi : (q : Nat) = i) (hj : lv[j]? = some (i, vr G x)) (hd : decode cc pc = .ok (.aload_n q, 1)) (pc' : Nat) (hp : pc + 1 = pc') (k : rr_AT X G nL rk Z pc' lv (vr G x :: st) σ) : rr_AT X G nL rk Z pc lv st σ := by
  obtain ⟨p, l, e, R, s, m, args, below, meth, c⟩ := X
  obtain ⟨hx, hb, hml, hown, hts, hK, hG, hr, hlk, hst, hnw, hR⟩ := hO
  subst hp
  intro H locs ls hP hS hl
  refine lv_aload_n hx hb hd hi (lv_at hl j hj) ?_
  exact k H locs ls hP hS hl
theorem at_aload (hO : rr_OK X G cc nL own ret a b) (j : Nat) {i : Nat} {x : Nat} (hj : lv[j]? = some (i, vr G x)) (hd : decode cc pc = .ok (.aload i, 2)) (pc' : Nat) (hp : pc + 2 = pc') (k : rr_AT X G nL rk Z pc' lv (vr G x :: st) σ) : rr_AT X G nL rk Z pc lv st σ := by
  obtain ⟨p, l, e, R, s, m, args, below, meth, c⟩ := X
  obtain ⟨hx, hb, hml, hown, hts, hK, hG, hr, hlk, hst, hnw, hR⟩ := hO
  subst hp
  intro H locs ls hP hS hl
  refine lv_aload hx hb hd (lv_at hl j hj) ?_
  exact k H locs ls hP hS hl
theorem at_istore_n (hO : rr_OK X G cc nL own ret a b) {q : Fin 4} {i : Nat} {x : Int} (hi : (q : Nat) = i) (hn : i < nL) (hl1 : (i, vi x) :: lv.filter (fun q => !(q.1 == i) && !(q.1 + 1 == i && q.2.category == 2)) = lv') (hd : decode cc pc = .ok (.istore_n q, 1)) (pc' : Nat) (hp : pc + 1 = pc') (k : rr_AT X G nL rk Z pc' lv' st σ) : rr_AT X G nL rk Z pc lv (vi x :: st) σ := by
  obtain ⟨p, l, e, R, s, m, args, below, meth, c⟩ := X
  obtain ⟨hx, hb, hml, hown, hts, hK, hG, hr, hlk, hst, hnw, hR⟩ := hO
  subst hp
  intro H locs ls hP hS hl
  refine lv_istore_n hx hb hd hi hl hn hl1 (fun ls' hl' => ?_)
  exact k H locs ls' hP hS hl'
theorem at_istore (hO : rr_OK X G cc nL own ret a b) {i : Nat} {x : Int} (hn : i < nL) (hl1 : (i, vi x) :: lv.filter (fun q => !(q.1 == i) && !(q.1 + 1 == i && q.2.category == 2)) = lv') (hd : decode cc pc = .ok (.istore i, 2)) (pc' : Nat) (hp : pc + 2 = pc') (k : rr_AT X G nL rk Z pc' lv' st σ) : rr_AT X G nL rk Z pc lv (vi x :: st) σ := by
  obtain ⟨p, l, e, R, s, m, args, below, meth, c⟩ := X
  obtain ⟨hx, hb, hml, hown, hts, hK, hG, hr, hlk, hst, hnw, hR⟩ := hO
  subst hp
  intro H locs ls hP hS hl
  refine lv_istore hx hb hd hl hn hl1 (fun ls' hl' => ?_)
  exact k H locs ls' hP hS hl'
theorem at_lstore_n (hO : rr_OK X G cc nL own ret a b) {q : Fin 4} {i : Nat} {x : Int} (hi : (q : Nat) = i) (hn : i + 1 < nL) (hl1 : (i, vl x) :: lv.filter (fun q => !(q.1 == i) && (!(q.1 == i + 1) && !(q.1 + 1 == i && q.2.category == 2))) = lv') (hd : decode cc pc = .ok (.lstore_n q, 1)) (pc' : Nat) (hp : pc + 1 = pc') (k : rr_AT X G nL rk Z pc' lv' st σ) : rr_AT X G nL rk Z pc lv (vl x :: st) σ := by
  obtain ⟨p, l, e, R, s, m, args, below, meth, c⟩ := X
  obtain ⟨hx, hb, hml, hown, hts, hK, hG, hr, hlk, hst, hnw, hR⟩ := hO
  subst hp
  intro H locs ls hP hS hl
  refine lv_lstore_n hx hb hd hi hl hn hl1 (fun ls' hl' => ?_)
  exact k H locs ls' hP hS hl'
theorem at_lstore (hO : rr_OK X G cc nL own ret a b) {i : Nat} {x : Int} (hn : i + 1 < nL) (hl1 : (i, vl x) :: lv.filter (fun q => !(q.1 == i) && (!(q.1 == i + 1) && !(q.1 + 1 == i && q.2.category == 2))) = lv') (hd : decode cc pc = .ok (.lstore i, 2)) (pc' : Nat) (hp : pc + 2 = pc') (k : rr_AT X G nL rk Z pc' lv' st σ) : rr_AT X G nL rk Z pc lv (vl x :: st) σ := by
  obtain ⟨p, l, e, R, s, m, args, below, meth, c⟩ := X
  obtain ⟨hx, hb, hml, hown, hts, hK, hG, hr, hlk, hst, hnw, hR⟩ := hO
  subst hp
  intro H locs ls hP hS hl
  refine lv_lstore hx hb hd hl hn hl1 (fun ls' hl' => ?_)
  exact k H locs ls' hP hS hl'
theorem at_iinc (hO : rr_OK X G cc nL own ret a b) (j : Nat) {i : Nat} {n x : Int} (hj : lv[j]? = some (i, vi x)) (hn : i < nL) (hl1 : (i, vi (x + n)) :: lv.filter (fun q => !(q.1 == i) && !(q.1 + 1 == i && q.2.category == 2)) = lv') (hd : decode cc pc = .ok (.iinc i n, 3)) (pc' : Nat) (hp : pc + 3 = pc') (k : rr_AT X G nL rk Z pc' lv' st σ) : rr_AT X G nL rk Z pc lv st σ := by
  obtain ⟨p, l, e, R, s, m, args, below, meth, c⟩ := X
  obtain ⟨hx, hb, hml, hown, hts, hK, hG, hr, hlk, hst, hnw, hR⟩ := hO
  subst hp
  intro H locs ls hP hS hl
  refine lv_iinc hx hb hd hl hj (by rw [← Int32.ofInt_add]) hn hl1 (fun ls' hl' => ?_)
  exact k H locs ls' hP hS hl'
theorem at_iadd (hO : rr_OK X G cc nL own ret a b) {x y : Int} (hd : decode cc pc = .ok (.iadd, 1)) (pc' : Nat) (hp : pc + 1 = pc') (k : rr_AT X G nL rk Z pc' lv (vi (x + y) :: st) σ) : rr_AT X G nL rk Z pc lv (vi y :: vi x :: st) σ := by
  obtain ⟨p, l, e, R, s, m, args, below, meth, c⟩ := X
  obtain ⟨hx, hb, hml, hown, hts, hK, hG, hr, hlk, hst, hnw, hR⟩ := hO
  subst hp
  intro H locs ls hP hS hl
  refine lv_iadd hx hb hd ?_
  rw [← Int32.ofInt_add]
  exact k H locs ls hP hS hl
theorem at_ladd (hO : rr_OK X G cc nL own ret a b) {x y : Int} (hd : decode cc pc = .ok (.ladd, 1)) (pc' : Nat) (hp : pc + 1 = pc') (k : rr_AT X G nL rk Z pc' lv (vl (x + y) :: st) σ) : rr_AT X G nL rk Z pc lv (vl y :: vl x :: st) σ := by
  obtain ⟨p, l, e, R, s, m, args, below, meth, c⟩ := X
  obtain ⟨hx, hb, hml, hown, hts, hK, hG, hr, hlk, hst, hnw, hR⟩ := hO
  subst hp
  intro H locs ls hP hS hl
  refine lv_ladd hx hb hd ?_
  rw [← Int64.ofInt_add]
  exact k H locs ls hP hS hl
theorem at_isub (hO : rr_OK X G cc nL own ret a b) {x y : Int} (hd : decode cc pc = .ok (.isub, 1)) (pc' : Nat) (hp : pc + 1 = pc') (k : rr_AT X G nL rk Z pc' lv (vi (x - y) :: st) σ) : rr_AT X G nL rk Z pc lv (vi y :: vi x :: st) σ := by
  obtain ⟨p, l, e, R, s, m, args, below, meth, c⟩ := X
  obtain ⟨hx, hb, hml, hown, hts, hK, hG, hr, hlk, hst, hnw, hR⟩ := hO
  subst hp
  intro H locs ls hP hS hl
  refine lv_isub hx hb hd ?_
  rw [← Int32.ofInt_sub]
  exact k H locs ls hP hS hl
theorem at_lsub (hO : rr_OK X G cc nL own ret a b) {x y : Int} (hd : decode cc pc = .ok (.lsub, 1)) (pc' : Nat) (hp : pc + 1 = pc') (k : rr_AT X G nL rk Z pc' lv (vl (x - y) :: st) σ) : rr_AT X G nL rk Z pc lv (vl y :: vl x :: st) σ := by
  obtain ⟨p, l, e, R, s, m, args, below, meth, c⟩ := X
  obtain ⟨hx, hb, hml, hown, hts, hK, hG, hr, hlk, hst, hnw, hR⟩ := hO
  subst hp
  intro H locs ls hP hS hl
  refine lv_lsub hx hb hd ?_
  rw [← Int64.ofInt_sub]
  exact k H locs ls hP hS hl
theorem at_imul (hO : rr_OK X G cc nL own ret a b) {x y : Int} (hd : decode cc pc = .ok (.imul, 1)) (pc' : Nat) (hp : pc + 1 = pc') (k : rr_AT X G nL rk Z pc' lv (vi (x * y) :: st) σ) : rr_AT X G nL rk Z pc lv (vi y :: vi x :: st) σ := by
  obtain ⟨p, l, e, R, s, m, args, below, meth, c⟩ := X
  obtain ⟨hx, hb, hml, hown, hts, hK, hG, hr, hlk, hst, hnw, hR⟩ := hO
  subst hp
  intro H locs ls hP hS hl
  refine lv_imul hx hb hd ?_
  rw [← Int32.ofInt_mul]
  exact k H locs ls hP hS hl
theorem at_lmul (hO : rr_OK X G cc nL own ret a b) {x y : Int} (hd : decode cc pc = .ok (.lmul, 1)) (pc' : Nat) (hp : pc + 1 = pc') (k : rr_AT X G nL rk Z pc' lv (vl (x * y) :: st) σ) : rr_AT X G nL rk Z pc lv (vl y :: vl x :: st) σ := by
  obtain ⟨p, l, e, R, s, m, args, below, meth, c⟩ := X
  obtain ⟨hx, hb, hml, hown, hts, hK, hG, hr, hlk, hst, hnw, hR⟩ := hO
  subst hp
  intro H locs ls hP hS hl
  refine lv_lmul hx hb hd ?_
  rw [← Int64.ofInt_mul]
  exact k H locs ls hP hS hl
theorem at_lneg (hO : rr_OK X G cc nL own ret a b) {x : Int} (hd : decode cc pc = .ok (.lneg, 1)) (pc' : Nat) (hp : pc + 1 = pc') (k : rr_AT X G nL rk Z pc' lv (vl (-x) :: st) σ) : rr_AT X G nL rk Z pc lv (vl x :: st) σ := by
  obtain ⟨p, l, e, R, s, m, args, below, meth, c⟩ := X
  obtain ⟨hx, hb, hml, hown, hts, hK, hG, hr, hlk, hst, hnw, hR⟩ := hO
  subst hp
  intro H locs ls hP hS hl
  refine lv_lneg hx hb hd ?_
  rw [← Int64.ofInt_neg]
  exact k H locs ls hP hS hl
theorem at_iand (hO : rr_OK X G cc nL own ret a b) {x y : Int} (hd : decode cc pc = .ok (.iand, 1)) (pc' : Nat) (hp : pc + 1 = pc') (k : rr_AT X G nL rk Z pc' lv (vi (andZ x y) :: st) σ) : rr_AT X G nL rk Z pc lv (vi y :: vi x :: st) σ := by
  obtain ⟨p, l, e, R, s, m, args, below, meth, c⟩ := X
  obtain ⟨hx, hb, hml, hown, hts, hK, hG, hr, hlk, hst, hnw, hR⟩ := hO
  subst hp
  intro H locs ls hP hS hl
  have k2 := k H locs ls hP hS hl
  unfold vi andZ at k2
  rw [Int32.ofInt_toInt] at k2
  exact lv_iand hx hb hd k2
theorem at_ior (hO : rr_OK X G cc nL own ret a b) {x y : Int} (hd : decode cc pc = .ok (.ior, 1)) (pc' : Nat) (hp : pc + 1 = pc') (k : rr_AT X G nL rk Z pc' lv (vi (orZ x y) :: st) σ) : rr_AT X G nL rk Z pc lv (vi y :: vi x :: st) σ := by
  obtain ⟨p, l, e, R, s, m, args, below, meth, c⟩ := X
  obtain ⟨hx, hb, hml, hown, hts, hK, hG, hr, hlk, hst, hnw, hR⟩ := hO
  subst hp
  intro H locs ls hP hS hl
  have k2 := k H locs ls hP hS hl
  unfold vi orZ at k2
  rw [Int32.ofInt_toInt] at k2
  exact lv_ior hx hb hd k2
theorem at_ixor (hO : rr_OK X G cc nL own ret a b) {x y : Int} (hd : decode cc pc = .ok (.ixor, 1)) (pc' : Nat) (hp : pc + 1 = pc') (k : rr_AT X G nL rk Z pc' lv (vi (xorZ x y) :: st) σ) : rr_AT X G nL rk Z pc lv (vi y :: vi x :: st) σ := by
  obtain ⟨p, l, e, R, s, m, args, below, meth, c⟩ := X
  obtain ⟨hx, hb, hml, hown, hts, hK, hG, hr, hlk, hst, hnw, hR⟩ := hO
  subst hp
  intro H locs ls hP hS hl
  have k2 := k H locs ls hP hS hl
  unfold vi xorZ at k2
  rw [Int32.ofInt_toInt] at k2
  exact lv_ixor hx hb hd k2
theorem at_ishl (hO : rr_OK X G cc nL own ret a b) {x y : Int} (hd : decode cc pc = .ok (.ishl, 1)) (pc' : Nat) (hp : pc + 1 = pc') (k : rr_AT X G nL rk Z pc' lv (vi (shlZ x y) :: st) σ) : rr_AT X G nL rk Z pc lv (vi y :: vi x :: st) σ := by
  obtain ⟨p, l, e, R, s, m, args, below, meth, c⟩ := X
  obtain ⟨hx, hb, hml, hown, hts, hK, hG, hr, hlk, hst, hnw, hR⟩ := hO
  subst hp
  intro H locs ls hP hS hl
  have k2 := k H locs ls hP hS hl
  unfold vi shlZ at k2
  rw [Int32.ofInt_toInt] at k2
  exact lv_ishl hx hb hd k2
theorem at_ishr (hO : rr_OK X G cc nL own ret a b) {x y : Int} (hd : decode cc pc = .ok (.ishr, 1)) (pc' : Nat) (hp : pc + 1 = pc') (k : rr_AT X G nL rk Z pc' lv (vi (shrZ x y) :: st) σ) : rr_AT X G nL rk Z pc lv (vi y :: vi x :: st) σ := by
  obtain ⟨p, l, e, R, s, m, args, below, meth, c⟩ := X
  obtain ⟨hx, hb, hml, hown, hts, hK, hG, hr, hlk, hst, hnw, hR⟩ := hO
  subst hp
  intro H locs ls hP hS hl
  have k2 := k H locs ls hP hS hl
  unfold vi shrZ at k2
  rw [Int32.ofInt_toInt] at k2
  exact lv_ishr hx hb hd k2
theorem at_iushr (hO : rr_OK X G cc nL own ret a b) {x y : Int} (hd : decode cc pc = .ok (.iushr, 1)) (pc' : Nat) (hp : pc + 1 = pc') (k : rr_AT X G nL rk Z pc' lv (vi (ushrZ x y) :: st) σ) : rr_AT X G nL rk Z pc lv (vi y :: vi x :: st) σ := by
  obtain ⟨p, l, e, R, s, m, args, below, meth, c⟩ := X
  obtain ⟨hx, hb, hml, hown, hts, hK, hG, hr, hlk, hst, hnw, hR⟩ := hO
  subst hp
  intro H locs ls hP hS hl
  have k2 := k H locs ls hP hS hl
  unfold vi ushrZ at k2
  rw [Int32.ofInt_toInt] at k2
  exact lv_iushr hx hb hd rfl k2
theorem at_i2b (hO : rr_OK X G cc nL own ret a b) {x : Int} (hd : decode cc pc = .ok (.i2b, 1)) (pc' : Nat) (hp : pc + 1 = pc') (k : rr_AT X G nL rk Z pc' lv (vi (i2bZ x) :: st) σ) : rr_AT X G nL rk Z pc lv (vi x :: st) σ := by
  obtain ⟨p, l, e, R, s, m, args, below, meth, c⟩ := X
  obtain ⟨hx, hb, hml, hown, hts, hK, hG, hr, hlk, hst, hnw, hR⟩ := hO
  subst hp
  intro H locs ls hP hS hl
  have k2 := k H locs ls hP hS hl
  unfold vi i2bZ at k2
  rw [Int32.ofInt_toInt] at k2
  exact lv_i2b hx hb hd rfl k2
theorem at_i2s (hO : rr_OK X G cc nL own ret a b) {x : Int} (hd : decode cc pc = .ok (.i2s, 1)) (pc' : Nat) (hp : pc + 1 = pc') (k : rr_AT X G nL rk Z pc' lv (vi (i2sZ x) :: st) σ) : rr_AT X G nL rk Z pc lv (vi x :: st) σ := by
  obtain ⟨p, l, e, R, s, m, args, below, meth, c⟩ := X
  obtain ⟨hx, hb, hml, hown, hts, hK, hG, hr, hlk, hst, hnw, hR⟩ := hO
  subst hp
  intro H locs ls hP hS hl
  have k2 := k H locs ls hP hS hl
  unfold vi i2sZ at k2
  rw [Int32.ofInt_toInt] at k2
  exact lv_i2s hx hb hd rfl k2
theorem at_i2l (hO : rr_OK X G cc nL own ret a b) {x : Int} (hi : in32 x) (hd : decode cc pc = .ok (.i2l, 1)) (pc' : Nat) (hp : pc + 1 = pc') (k : rr_AT X G nL rk Z pc' lv (vl x :: st) σ) : rr_AT X G nL rk Z pc lv (vi x :: st) σ := by
  obtain ⟨p, l, e, R, s, m, args, below, meth, c⟩ := X
  obtain ⟨hx, hb, hml, hown, hts, hK, hG, hr, hlk, hst, hnw, hR⟩ := hO
  subst hp
  intro H locs ls hP hS hl
  refine lv_i2l hx hb hd (by rw [← Int64.ofInt_int32ToInt, i32_rt hi]) ?_
  exact k H locs ls hP hS hl
theorem at_l2i (hO : rr_OK X G cc nL own ret a b) {x : Int} (hd : decode cc pc = .ok (.l2i, 1)) (pc' : Nat) (hp : pc + 1 = pc') (k : rr_AT X G nL rk Z pc' lv (vi x :: st) σ) : rr_AT X G nL rk Z pc lv (vl x :: st) σ := by
  obtain ⟨p, l, e, R, s, m, args, below, meth, c⟩ := X
  obtain ⟨hx, hb, hml, hown, hts, hK, hG, hr, hlk, hst, hnw, hR⟩ := hO
  subst hp
  intro H locs ls hP hS hl
  refine lv_l2i hx hb hd Int64.toInt32_ofInt ?_
  exact k H locs ls hP hS hl
theorem at_idiv (hO : rr_OK X G cc nL own ret a b) {x y : Int} (h0 : 0 ≤ x) (h1 : in32 x) (h2 : 0 < y) (h3 : in32 y) (hd : decode cc pc = .ok (.idiv, 1)) (pc' : Nat) (hp : pc + 1 = pc') (k : rr_AT X G nL rk Z pc' lv (vi (x / y) :: st) σ) : rr_AT X G nL rk Z pc lv (vi y :: vi x :: st) σ := by
  obtain ⟨p, l, e, R, s, m, args, below, meth, c⟩ := X
  obtain ⟨hx, hb, hml, hown, hts, hK, hG, hr, hlk, hst, hnw, hR⟩ := hO
  subst hp
  intro H locs ls hP hS hl
  refine lv_idiv hx hb hd (zr32_ne h2 h3) ?_
  rw [zr32_div h0 h1 h2 h3]
  exact k H locs ls hP hS hl
theorem at_irem (hO : rr_OK X G cc nL own ret a b) {x y : Int} (h0 : 0 ≤ x) (h1 : in32 x) (h2 : 0 < y) (h3 : in32 y) (hd : decode cc pc = .ok (.irem, 1)) (pc' : Nat) (hp : pc + 1 = pc') (k : rr_AT X G nL rk Z pc' lv (vi (x % y) :: st) σ) : rr_AT X G nL rk Z pc lv (vi y :: vi x :: st) σ := by
  obtain ⟨p, l, e, R, s, m, args, below, meth, c⟩ := X
  obtain ⟨hx, hb, hml, hown, hts, hK, hG, hr, hlk, hst, hnw, hR⟩ := hO
  subst hp
  intro H locs ls hP hS hl
  refine lv_irem hx hb hd (zr32_ne h2 h3) ?_
  rw [zr32_rem h0 h1 h2 h3]
  exact k H locs ls hP hS hl
theorem at_ldiv (hO : rr_OK X G cc nL own ret a b) {x y : Int} (h0 : 0 ≤ x) (h1 : in64 x) (h2 : 0 < y) (h3 : in64 y) (hd : decode cc pc = .ok (.ldiv, 1)) (pc' : Nat) (hp : pc + 1 = pc') (k : rr_AT X G nL rk Z pc' lv (vl (x / y) :: st) σ) : rr_AT X G nL rk Z pc lv (vl y :: vl x :: st) σ := by
  obtain ⟨p, l, e, R, s, m, args, below, meth, c⟩ := X
  obtain ⟨hx, hb, hml, hown, hts, hK, hG, hr, hlk, hst, hnw, hR⟩ := hO
  subst hp
  intro H locs ls hP hS hl
  refine lv_ldiv hx hb hd (zr64_ne h2 h3) ?_
  rw [zr64_div h0 h1 h2 h3]
  exact k H locs ls hP hS hl
theorem at_lrem (hO : rr_OK X G cc nL own ret a b) {x y : Int} (h0 : 0 ≤ x) (h1 : in64 x) (h2 : 0 < y) (h3 : in64 y) (hd : decode cc pc = .ok (.lrem, 1)) (pc' : Nat) (hp : pc + 1 = pc') (k : rr_AT X G nL rk Z pc' lv (vl (x % y) :: st) σ) : rr_AT X G nL rk Z pc lv (vl y :: vl x :: st) σ := by
  obtain ⟨p, l, e, R, s, m, args, below, meth, c⟩ := X
  obtain ⟨hx, hb, hml, hown, hts, hK, hG, hr, hlk, hst, hnw, hR⟩ := hO
  subst hp
  intro H locs ls hP hS hl
  refine lv_lrem hx hb hd (zr64_ne h2 h3) ?_
  rw [zr64_rem h0 h1 h2 h3]
  exact k H locs ls hP hS hl
theorem at_dup (hO : rr_OK X G cc nL own ret a b) {v : Value} (hc : v.category = 1) (hd : decode cc pc = .ok (.dup, 1)) (pc' : Nat) (hp : pc + 1 = pc') (k : rr_AT X G nL rk Z pc' lv (v :: v :: st) σ) : rr_AT X G nL rk Z pc lv (v :: st) σ := by
  obtain ⟨p, l, e, R, s, m, args, below, meth, c⟩ := X
  obtain ⟨hx, hb, hml, hown, hts, hK, hG, hr, hlk, hst, hnw, hR⟩ := hO
  subst hp
  intro H locs ls hP hS hl
  refine lv_dup hx hb hd hc ?_
  exact k H locs ls hP hS hl
theorem at_dup2 (hO : rr_OK X G cc nL own ret a b) {v w : Value} (hc : v.category = 1) (hc2 : w.category = 1) (hd : decode cc pc = .ok (.dup2, 1)) (pc' : Nat) (hp : pc + 1 = pc') (k : rr_AT X G nL rk Z pc' lv (v :: w :: v :: w :: st) σ) : rr_AT X G nL rk Z pc lv (v :: w :: st) σ := by
  obtain ⟨p, l, e, R, s, m, args, below, meth, c⟩ := X
  obtain ⟨hx, hb, hml, hown, hts, hK, hG, hr, hlk, hst, hnw, hR⟩ := hO
  subst hp
  intro H locs ls hP hS hl
  refine lv_dup2_11 hx hb hd hc hc2 ?_
  exact k H locs ls hP hS hl
theorem at_pop (hO : rr_OK X G cc nL own ret a b) {v : Value} (hc : v.category = 1) (hd : decode cc pc = .ok (.pop, 1)) (pc' : Nat) (hp : pc + 1 = pc') (k : rr_AT X G nL rk Z pc' lv st σ) : rr_AT X G nL rk Z pc lv (v :: st) σ := by
  obtain ⟨p, l, e, R, s, m, args, below, meth, c⟩ := X
  obtain ⟨hx, hb, hml, hown, hts, hK, hG, hr, hlk, hst, hnw, hR⟩ := hO
  subst hp
  intro H locs ls hP hS hl
  refine lv_pop hx hb hd hc ?_
  exact k H locs ls hP hS hl
theorem at_goto (hO : rr_OK X G cc nL own ret a b) {off : Int} (hd : decode cc pc = .ok (.goto off, 3)) (pc' : Nat) (hp : (pc : Int) + off = (pc' : Int)) (k : rr_AT X G nL rk Z pc' lv st σ) : rr_AT X G nL rk Z pc lv st σ := by
  obtain ⟨p, l, e, R, s, m, args, below, meth, c⟩ := X
  obtain ⟨hx, hb, hml, hown, hts, hK, hG, hr, hlk, hst, hnw, hR⟩ := hO
  intro H locs ls hP hS hl
  exact lv_goto hx hb hd hp (k H locs ls hP hS hl)
theorem at_icmp_eq (hO : rr_OK X G cc nL own ret a b) {x y : Int} (h1 : in32 x) (h2 : in32 y) {off : Int} {E1 E2 : Option Rt} (hd : decode cc pc = .ok (.if_icmp .eq off, 3)) (tgt : Nat) (ht : (pc : Int) + off = (tgt : Int)) (pc' : Nat) (hp : pc + 3 = pc') (hf : (if x = y then E1 else E2) = some Z) (k1 : E1 = some Z → rr_AT X G nL rk Z tgt lv st σ) (k2 : E2 = some Z → rr_AT X G nL rk Z pc' lv st σ) : rr_AT X G nL rk Z pc lv (vi y :: vi x :: st) σ := by
  obtain ⟨p, l, e, R, s, m, args, below, meth, c⟩ := X
  obtain ⟨hx, hb, hml, hown, hts, hK, hG, hr, hlk, hst, hnw, hR⟩ := hO
  subst hp
  intro H locs ls hP hS hl
  refine lv_icmp_eq hx hb hd ht (fun hc => ?_) (fun hc => ?_)
  · rw [if_pos ((i32_eq h1 h2).mp hc)] at hf
    exact k1 hf H locs ls hP hS hl
  · rw [if_neg (fun q => hc ((i32_eq h1 h2).mpr q))] at hf
    exact k2 hf H locs ls hP hS hl
theorem at_if_eq (hO : rr_OK X G cc nL own ret a b) {x : Int} (h1 : in32 x) {off : Int} {E1 E2 : Option Rt} (hd : decode cc pc = .ok (.ifCond .eq off, 3)) (tgt : Nat) (ht : (pc : Int) + off = (tgt : Int)) (pc' : Nat) (hp : pc + 3 = pc') (hf : (if x = 0 then E1 else E2) = some Z) (k1 : E1 = some Z → rr_AT X G nL rk Z tgt lv st σ) (k2 : E2 = some Z → rr_AT X G nL rk Z pc' lv st σ) : rr_AT X G nL rk Z pc lv (vi x :: st) σ := by
  obtain ⟨p, l, e, R, s, m, args, below, meth, c⟩ := X
  obtain ⟨hx, hb, hml, hown, hts, hK, hG, hr, hlk, hst, hnw, hR⟩ := hO
  subst hp
  intro H locs ls hP hS hl
  refine lv_if_eq hx hb hd ht (fun hc => ?_) (fun hc => ?_)
  · rw [if_pos ((i32_eq h1 z32_0).mp hc)] at hf
    exact k1 hf H locs ls hP hS hl
  · rw [if_neg (fun q => hc ((i32_eq h1 z32_0).mpr q))] at hf
    exact k2 hf H locs ls hP hS hl
theorem at_icmp_ne (hO : rr_OK X G cc nL own ret a b) {x y : Int} (h1 : in32 x) (h2 : in32 y) {off : Int} {E1 E2 : Option Rt} (hd : decode cc pc = .ok (.if_icmp .ne off, 3)) (tgt : Nat) (ht : (pc : Int) + off = (tgt : Int)) (pc' : Nat) (hp : pc + 3 = pc') (hf : (if x = y then E2 else E1) = some Z) (k1 : E1 = some Z → rr_AT X G nL rk Z tgt lv st σ) (k2 : E2 = some Z → rr_AT X G nL rk Z pc' lv st σ) : rr_AT X G nL rk Z pc lv (vi y :: vi x :: st) σ := by
  obtain ⟨p, l, e, R, s, m, args, below, meth, c⟩ := X
  obtain ⟨hx, hb, hml, hown, hts, hK, hG, hr, hlk, hst, hnw, hR⟩ := hO
  subst hp
  intro H locs ls hP hS hl
  refine lv_icmp_ne hx hb hd ht (fun hc => ?_) (fun hc => ?_)
  · rw [if_neg (fun q => hc ((i32_eq h1 h2).mpr q))] at hf
    exact k1 hf H locs ls hP hS hl
  · rw [if_pos ((i32_eq h1 h2).mp hc)] at hf
    exact k2 hf H locs ls hP hS hl
theorem at_if_ne (hO : rr_OK X G cc nL own ret a b) {x : Int} (h1 : in32 x) {off : Int} {E1 E2 : Option Rt} (hd : decode cc pc = .ok (.ifCond .ne off, 3)) (tgt : Nat) (ht : (pc : Int) + off = (tgt : Int)) (pc' : Nat) (hp : pc + 3 = pc') (hf : (if x = 0 then E2 else E1) = some Z) (k1 : E1 = some Z → rr_AT X G nL rk Z tgt lv st σ) (k2 : E2 = some Z → rr_AT X G nL rk Z pc' lv st σ) : rr_AT X G nL rk Z pc lv (vi x :: st) σ := by
  obtain ⟨p, l, e, R, s, m, args, below, meth, c⟩ := X
  obtain ⟨hx, hb, hml, hown, hts, hK, hG, hr, hlk, hst, hnw, hR⟩ := hO
  subst hp
  intro H locs ls hP hS hl
  refine lv_if_ne hx hb hd ht (fun hc => ?_) (fun hc => ?_)
  · rw [if_neg (fun q => hc ((i32_eq h1 z32_0).mpr q))] at hf
    exact k1 hf H locs ls hP hS hl
  · rw [if_pos ((i32_eq h1 z32_0).mp hc)] at hf
    exact k2 hf H locs ls hP hS hl
theorem at_icmp_lt (hO : rr_OK X G cc nL own ret a b) {x y : Int} (h1 : in32 x) (h2 : in32 y) {off : Int} {E1 E2 : Option Rt} (hd : decode cc pc = .ok (.if_icmp .lt off, 3)) (tgt : Nat) (ht : (pc : Int) + off = (tgt : Int)) (pc' : Nat) (hp : pc + 3 = pc') (hf : (if x < y then E1 else E2) = some Z) (k1 : E1 = some Z → rr_AT X G nL rk Z tgt lv st σ) (k2 : E2 = some Z → rr_AT X G nL rk Z pc' lv st σ) : rr_AT X G nL rk Z pc lv (vi y :: vi x :: st) σ := by
  obtain ⟨p, l, e, R, s, m, args, below, meth, c⟩ := X
  obtain ⟨hx, hb, hml, hown, hts, hK, hG, hr, hlk, hst, hnw, hR⟩ := hO
  subst hp
  intro H locs ls hP hS hl
  refine lv_icmp_lt hx hb hd ht (fun hc => ?_) (fun hc => ?_)
  · rw [if_pos ((i32_lt h1 h2).mp hc)] at hf
    exact k1 hf H locs ls hP hS hl
  · rw [if_neg (fun q => hc ((i32_lt h1 h2).mpr q))] at hf
    exact k2 hf H locs ls hP hS hl
theorem at_if_lt (hO : rr_OK X G cc nL own ret a b) {x : Int} (h1 : in32 x) {off : Int} {E1 E2 : Option Rt} (hd : decode cc pc = .ok (.ifCond .lt off, 3)) (tgt : Nat) (ht : (pc : Int) + off = (tgt : Int)) (pc' : Nat) (hp : pc + 3 = pc') (hf : (if x < 0 then E1 else E2) = some Z) (k1 : E1 = some Z → rr_AT X G nL rk Z tgt lv st σ) (k2 : E2 = some Z → rr_AT X G nL rk Z pc' lv st σ) : rr_AT X G nL rk Z pc lv (vi x :: st) σ := by
  obtain ⟨p, l, e, R, s, m, args, below, meth, c⟩ := X
  obtain ⟨hx, hb, hml, hown, hts, hK, hG, hr, hlk, hst, hnw, hR⟩ := hO
  subst hp
  intro H locs ls hP hS hl
  refine lv_if_lt hx hb hd ht (fun hc => ?_) (fun hc => ?_)
  · rw [if_pos ((i32_lt h1 z32_0).mp hc)] at hf
    exact k1 hf H locs ls hP hS hl
  · rw [if_neg (fun q => hc ((i32_lt h1 z32_0).mpr q))] at hf
    exact k2 hf H locs ls hP hS hl
theorem at_icmp_ge (hO : rr_OK X G cc nL own ret a b) {x y : Int} (h1 : in32 x) (h2 : in32 y) {off : Int} {E1 E2 : Option Rt} (hd : decode cc pc = .ok (.if_icmp .ge off, 3)) (tgt : Nat) (ht : (pc : Int) + off = (tgt : Int)) (pc' : Nat) (hp : pc + 3 = pc') (hf : (if y ≤ x then E1 else E2) = some Z) (k1 : E1 = some Z → rr_AT X G nL rk Z tgt lv st σ) (k2 : E2 = some Z → rr_AT X G nL rk Z pc' lv st σ) : rr_AT X G nL rk Z pc lv (vi y :: vi x :: st) σ := by
  obtain ⟨p, l, e, R, s, m, args, below, meth, c⟩ := X
  obtain ⟨hx, hb, hml, hown, hts, hK, hG, hr, hlk, hst, hnw, hR⟩ := hO
  subst hp
  intro H locs ls hP hS hl
  refine lv_icmp_ge hx hb hd ht (fun hc => ?_) (fun hc => ?_)
  · rw [if_pos ((i32_le h2 h1).mp hc)] at hf
    exact k1 hf H locs ls hP hS hl
  · rw [if_neg (fun q => hc ((i32_le h2 h1).mpr q))] at hf
    exact k2 hf H locs ls hP hS hl
theorem at_if_ge (hO : rr_OK X G cc nL own ret a b) {x : Int} (h1 : in32 x) {off : Int} {E1 E2 : Option Rt} (hd : decode cc pc = .ok (.ifCond .ge off, 3)) (tgt : Nat) (ht : (pc : Int) + off = (tgt : Int)) (pc' : Nat) (hp : pc + 3 = pc') (hf : (if 0 ≤ x then E1 else E2) = some Z) (k1 : E1 = some Z → rr_AT X G nL rk Z tgt lv st σ) (k2 : E2 = some Z → rr_AT X G nL rk Z pc' lv st σ) : rr_AT X G nL rk Z pc lv (vi x :: st) σ := by
  obtain ⟨p, l, e, R, s, m, args, below, meth, c⟩ := X
  obtain ⟨hx, hb, hml, hown, hts, hK, hG, hr, hlk, hst, hnw, hR⟩ := hO
  subst hp
  intro H locs ls hP hS hl
  refine lv_if_ge hx hb hd ht (fun hc => ?_) (fun hc => ?_)
  · rw [if_pos ((i32_le z32_0 h1).mp hc)] at hf
    exact k1 hf H locs ls hP hS hl
  · rw [if_neg (fun q => hc ((i32_le z32_0 h1).mpr q))] at hf
    exact k2 hf H locs ls hP hS hl
theorem at_icmp_gt (hO : rr_OK X G cc nL own ret a b) {x y : Int} (h1 : in32 x) (h2 : in32 y) {off : Int} {E1 E2 : Option Rt} (hd : decode cc pc = .ok (.if_icmp .gt off, 3)) (tgt : Nat) (ht : (pc : Int) + off = (tgt : Int)) (pc' : Nat) (hp : pc + 3 = pc') (hf : (if y < x then E1 else E2) = some Z) (k1 : E1 = some Z → rr_AT X G nL rk Z tgt lv st σ) (k2 : E2 = some Z → rr_AT X G nL rk Z pc' lv st σ) : rr_AT X G nL rk Z pc lv (vi y :: vi x :: st) σ := by
  obtain ⟨p, l, e, R, s, m, args, below, meth, c⟩ := X
  obtain ⟨hx, hb, hml, hown, hts, hK, hG, hr, hlk, hst, hnw, hR⟩ := hO
  subst hp
  intro H locs ls hP hS hl
  refine lv_icmp_gt hx hb hd ht (fun hc => ?_) (fun hc => ?_)
  · rw [if_pos ((i32_lt h2 h1).mp hc)] at hf
    exact k1 hf H locs ls hP hS hl
  · rw [if_neg (fun q => hc ((i32_lt h2 h1).mpr q))] at hf
    exact k2 hf H locs ls hP hS hl
theorem at_if_gt (hO : rr_OK X G cc nL own ret a b) {x : Int} (h1 : in32 x) {off : Int} {E1 E2 : Option Rt} (hd : decode cc pc = .ok (.ifCond .gt off, 3)) (tgt : Nat) (ht : (pc : Int) + off = (tgt : Int)) (pc' : Nat) (hp : pc + 3 = pc') (hf : (if 0 < x then E1 else E2) = some Z) (k1 : E1 = some Z → rr_AT X G nL rk Z tgt lv st σ) (k2 : E2 = some Z → rr_AT X G nL rk Z pc' lv st σ) : rr_AT X G nL rk Z pc lv (vi x :: st) σ := by
  obtain ⟨p, l, e, R, s, m, args, below, meth, c⟩ := X
  obtain ⟨hx, hb, hml, hown, hts, hK, hG, hr, hlk, hst, hnw, hR⟩ := hO
  subst hp
  intro H locs ls hP hS hl
  refine lv_if_gt hx hb hd ht (fun hc => ?_) (fun hc => ?_)
  · rw [if_pos ((i32_lt z32_0 h1).mp hc)] at hf
    exact k1 hf H locs ls hP hS hl
  · rw [if_neg (fun q => hc ((i32_lt z32_0 h1).mpr q))] at hf
    exact k2 hf H locs ls hP hS hl
theorem at_icmp_le (hO : rr_OK X G cc nL own ret a b) {x y : Int} (h1 : in32 x) (h2 : in32 y) {off : Int} {E1 E2 : Option Rt} (hd : decode cc pc = .ok (.if_icmp .le off, 3)) (tgt : Nat) (ht : (pc : Int) + off = (tgt : Int)) (pc' : Nat) (hp : pc + 3 = pc') (hf : (if x ≤ y then E1 else E2) = some Z) (k1 : E1 = some Z → rr_AT X G nL rk Z tgt lv st σ) (k2 : E2 = some Z → rr_AT X G nL rk Z pc' lv st σ) : rr_AT X G nL rk Z pc lv (vi y :: vi x :: st) σ := by
  obtain ⟨p, l, e, R, s, m, args, below, meth, c⟩ := X
  obtain ⟨hx, hb, hml, hown, hts, hK, hG, hr, hlk, hst, hnw, hR⟩ := hO
  subst hp
  intro H locs ls hP hS hl
  refine lv_icmp_le hx hb hd ht (fun hc => ?_) (fun hc => ?_)
  · rw [if_pos ((i32_le h1 h2).mp hc)] at hf
    exact k1 hf H locs ls hP hS hl
  · rw [if_neg (fun q => hc ((i32_le h1 h2).mpr q))] at hf
    exact k2 hf H locs ls hP hS hl
theorem at_if_le (hO : rr_OK X G cc nL own ret a b) {x : Int} (h1 : in32 x) {off : Int} {E1 E2 : Option Rt} (hd : decode cc pc = .ok (.ifCond .le off, 3)) (tgt : Nat) (ht : (pc : Int) + off = (tgt : Int)) (pc' : Nat) (hp : pc + 3 = pc') (hf : (if x ≤ 0 then E1 else E2) = some Z) (k1 : E1 = some Z → rr_AT X G nL rk Z tgt lv st σ) (k2 : E2 = some Z → rr_AT X G nL rk Z pc' lv st σ) : rr_AT X G nL rk Z pc lv (vi x :: st) σ := by
  obtain ⟨p, l, e, R, s, m, args, below, meth, c⟩ := X
  obtain ⟨hx, hb, hml, hown, hts, hK, hG, hr, hlk, hst, hnw, hR⟩ := hO
  subst hp
  intro H locs ls hP hS hl
  refine lv_if_le hx hb hd ht (fun hc => ?_) (fun hc => ?_)
  · rw [if_pos ((i32_le h1 z32_0).mp hc)] at hf
    exact k1 hf H locs ls hP hS hl
  · rw [if_neg (fun q => hc ((i32_le h1 z32_0).mpr q))] at hf
    exact k2 hf H locs ls hP hS hl
theorem at_lcmp_eq (hO : rr_OK X G cc nL own ret a b) {x y : Int} (h1 : in64 x) (h2 : in64 y) {off : Int} {E1 E2 : Option Rt} (hd0 : decode cc pc = .ok (.lcmp, 1)) (hd : decode cc (pc + 1) = .ok (.ifCond .eq off, 3)) (tgt : Nat) (ht : ((pc + 1 : Nat) : Int) + off = (tgt : Int)) (pc' : Nat) (hp : pc + 1 + 3 = pc') (hf : (if x = y then E1 else E2) = some Z) (k1 : E1 = some Z → rr_AT X G nL rk Z tgt lv st σ) (k2 : E2 = some Z → rr_AT X G nL rk Z pc' lv st σ) : rr_AT X G nL rk Z pc lv (vl y :: vl x :: st) σ := by
  obtain ⟨p, l, e, R, s, m, args, below, meth, c⟩ := X
  obtain ⟨hx, hb, hml, hown, hts, hK, hG, hr, hlk, hst, hnw, hR⟩ := hO
  subst hp
  intro H locs ls hP hS hl
  refine W.lcmp hx hb hd0 ?_
  refine lv_if_eq hx hb hd ht (fun hc => ?_) (fun hc => ?_)
  · rw [if_pos (((lg_cmp_eq _ _).trans (i64_eq h1 h2)).mp hc)] at hf
    exact k1 hf H locs ls hP hS hl
  · rw [if_neg (fun q => hc (((lg_cmp_eq _ _).trans (i64_eq h1 h2)).mpr q))] at hf
    exact k2 hf H locs ls hP hS hl
theorem at_lcmp_ne (hO : rr_OK X G cc nL own ret a b) {x y : Int} (h1 : in64 x) (h2 : in64 y) {off : Int} {E1 E2 : Option Rt} (hd0 : decode cc pc = .ok (.lcmp, 1)) (hd : decode cc (pc + 1) = .ok (.ifCond .ne off, 3)) (tgt : Nat) (ht : ((pc + 1 : Nat) : Int) + off = (tgt : Int)) (pc' : Nat) (hp : pc + 1 + 3 = pc') (hf : (if x = y then E2 else E1) = some Z) (k1 : E1 = some Z → rr_AT X G nL rk Z tgt lv st σ) (k2 : E2 = some Z → rr_AT X G nL rk Z pc' lv st σ) : rr_AT X G nL rk Z pc lv (vl y :: vl x :: st) σ := by
  obtain ⟨p, l, e, R, s, m, args, below, meth, c⟩ := X
  obtain ⟨hx, hb, hml, hown, hts, hK, hG, hr, hlk, hst, hnw, hR⟩ := hO
  subst hp
  intro H locs ls hP hS hl
  refine W.lcmp hx hb hd0 ?_
  refine lv_if_ne hx hb hd ht (fun hc => ?_) (fun hc => ?_)
  · rw [if_neg (fun q => hc (((lg_cmp_eq _ _).trans (i64_eq h1 h2)).mpr q))] at hf
    exact k1 hf H locs ls hP hS hl
  · rw [if_pos (((lg_cmp_eq _ _).trans (i64_eq h1 h2)).mp hc)] at hf
    exact k2 hf H locs ls hP hS hl
theorem at_lcmp_lt (hO : rr_OK X G cc nL own ret a b) {x y : Int} (h1 : in64 x) (h2 : in64 y) {off : Int} {E1 E2 : Option Rt} (hd0 : decode cc pc = .ok (.lcmp, 1)) (hd : decode cc (pc + 1) = .ok (.ifCond .lt off, 3)) (tgt : Nat) (ht : ((pc + 1 : Nat) : Int) + off = (tgt : Int)) (pc' : Nat) (hp : pc + 1 + 3 = pc') (hf : (if x < y then E1 else E2) = some Z) (k1 : E1 = some Z → rr_AT X G nL rk Z tgt lv st σ) (k2 : E2 = some Z → rr_AT X G nL rk Z pc' lv st σ) : rr_AT X G nL rk Z pc lv (vl y :: vl x :: st) σ := by
  obtain ⟨p, l, e, R, s, m, args, below, meth, c⟩ := X
  obtain ⟨hx, hb, hml, hown, hts, hK, hG, hr, hlk, hst, hnw, hR⟩ := hO
  subst hp
  intro H locs ls hP hS hl
  refine W.lcmp hx hb hd0 ?_
  refine lv_if_lt hx hb hd ht (fun hc => ?_) (fun hc => ?_)
  · rw [if_pos (((lg_cmp_lt _ _).trans (i64_lt h1 h2)).mp hc)] at hf
    exact k1 hf H locs ls hP hS hl
  · rw [if_neg (fun q => hc (((lg_cmp_lt _ _).trans (i64_lt h1 h2)).mpr q))] at hf
    exact k2 hf H locs ls hP hS hl
theorem at_lcmp_ge (hO : rr_OK X G cc nL own ret a b) {x y : Int} (h1 : in64 x) (h2 : in64 y) {off : Int} {E1 E2 : Option Rt} (hd0 : decode cc pc = .ok (.lcmp, 1)) (hd : decode cc (pc + 1) = .ok (.ifCond .ge off, 3)) (tgt : Nat) (ht : ((pc + 1 : Nat) : Int) + off = (tgt : Int)) (pc' : Nat) (hp : pc + 1 + 3 = pc') (hf : (if y ≤ x then E1 else E2) = some Z) (k1 : E1 = some Z → rr_AT X G nL rk Z tgt lv st σ) (k2 : E2 = some Z → rr_AT X G nL rk Z pc' lv st σ) : rr_AT X G nL rk Z pc lv (vl y :: vl x :: st) σ := by
  obtain ⟨p, l, e, R, s, m, args, below, meth, c⟩ := X
  obtain ⟨hx, hb, hml, hown, hts, hK, hG, hr, hlk, hst, hnw, hR⟩ := hO
  subst hp
  intro H locs ls hP hS hl
  refine W.lcmp hx hb hd0 ?_
  refine lv_if_ge hx hb hd ht (fun hc => ?_) (fun hc => ?_)
  · rw [if_pos (((lg_cmp_ge _ _).trans (i64_le h2 h1)).mp hc)] at hf
    exact k1 hf H locs ls hP hS hl
  · rw [if_neg (fun q => hc (((lg_cmp_ge _ _).trans (i64_le h2 h1)).mpr q))] at hf
    exact k2 hf H locs ls hP hS hl
theorem at_lcmp_gt (hO : rr_OK X G cc nL own ret a b) {x y : Int} (h1 : in64 x) (h2 : in64 y) {off : Int} {E1 E2 : Option Rt} (hd0 : decode cc pc = .ok (.lcmp, 1)) (hd : decode cc (pc + 1) = .ok (.ifCond .gt off, 3)) (tgt : Nat) (ht : ((pc + 1 : Nat) : Int) + off = (tgt : Int)) (pc' : Nat) (hp : pc + 1 + 3 = pc') (hf : (if y < x then E1 else E2) = some Z) (k1 : E1 = some Z → rr_AT X G nL rk Z tgt lv st σ) (k2 : E2 = some Z → rr_AT X G nL rk Z pc' lv st σ) : rr_AT X G nL rk Z pc lv (vl y :: vl x :: st) σ := by
  obtain ⟨p, l, e, R, s, m, args, below, meth, c⟩ := X
  obtain ⟨hx, hb, hml, hown, hts, hK, hG, hr, hlk, hst, hnw, hR⟩ := hO
  subst hp
  intro H locs ls hP hS hl
  refine W.lcmp hx hb hd0 ?_
  refine lv_if_gt hx hb hd ht (fun hc => ?_) (fun hc => ?_)
  · rw [if_pos (((lg_cmp_gt _ _).trans (i64_lt h2 h1)).mp hc)] at hf
    exact k1 hf H locs ls hP hS hl
  · rw [if_neg (fun q => hc (((lg_cmp_gt _ _).trans (i64_lt h2 h1)).mpr q))] at hf
    exact k2 hf H locs ls hP hS hl
theorem at_lcmp_le (hO : rr_OK X G cc nL own ret a b) {x y : Int} (h1 : in64 x) (h2 : in64 y) {off : Int} {E1 E2 : Option Rt} (hd0 : decode cc pc = .ok (.lcmp, 1)) (hd : decode cc (pc + 1) = .ok (.ifCond .le off, 3)) (tgt : Nat) (ht : ((pc + 1 : Nat) : Int) + off = (tgt : Int)) (pc' : Nat) (hp : pc + 1 + 3 = pc') (hf : (if x ≤ y then E1 else E2) = some Z) (k1 : E1 = some Z → rr_AT X G nL rk Z tgt lv st σ) (k2 : E2 = some Z → rr_AT X G nL rk Z pc' lv st σ) : rr_AT X G nL rk Z pc lv (vl y :: vl x :: st) σ := by
  obtain ⟨p, l, e, R, s, m, args, below, meth, c⟩ := X
  obtain ⟨hx, hb, hml, hown, hts, hK, hG, hr, hlk, hst, hnw, hR⟩ := hO
  subst hp
  intro H locs ls hP hS hl
  refine W.lcmp hx hb hd0 ?_
  refine lv_if_le hx hb hd ht (fun hc => ?_) (fun hc => ?_)
  · rw [if_pos (((lg_cmp_le _ _).trans (i64_le h1 h2)).mp hc)] at hf
    exact k1 hf H locs ls hP hS hl
  · rw [if_neg (fun q => hc (((lg_cmp_le _ _).trans (i64_le h1 h2)).mpr q))] at hf
    exact k2 hf H locs ls hP hS hl
theorem at_iaload (hO : rr_OK X G cc nL own ret a b) {k0 n : Nat} {i : Int} (ht : rr_TB[k0]? = some (.inl (0, n))) (hn : n ≤ 1000) (hi : ix i n) (j0 : Nat) (hj0 : i.toNat = j0) (hd : decode cc pc = .ok (.iaload, 1)) (pc' : Nat) (hp : pc + 1 = pc') (k : rr_AT X G nL rk Z pc' lv (vi (σ k0 j0) :: st) σ) : rr_AT X G nL rk Z pc lv (vi i :: vr G k0 :: st) σ := by
  obtain ⟨p, l, e, R, s, m, args, below, meth, c⟩ := X
  obtain ⟨hx, hb, hml, hown, hts, hK, hG, hr, hlk, hst, hnw, hR⟩ := hO
  subst hp
  intro H locs ls hP hS hl
  subst hj0
  have h1 := rr_wd_get (G := G) (σ := σ) ht
  have k2 := k H locs ls hP hS hl
  refine va_iald (D := G.1) (cl := vwCl) (tys := rr_gT G) hx hb hK hP k0 0 h1 rfl (i32_in hn hi) hd ?_
  rw [i32_cl (by omega) hi.1]
  exact k2
theorem at_laload (hO : rr_OK X G cc nL own ret a b) {k0 n : Nat} {i : Int} (ht : rr_TB[k0]? = some (.inl (1, n))) (hn : n ≤ 1000) (hi : ix i n) (j0 : Nat) (hj0 : i.toNat = j0) (hd : decode cc pc = .ok (.laload, 1)) (pc' : Nat) (hp : pc + 1 = pc') (k : rr_AT X G nL rk Z pc' lv (vl (σ k0 j0) :: st) σ) : rr_AT X G nL rk Z pc lv (vi i :: vr G k0 :: st) σ := by
  obtain ⟨p, l, e, R, s, m, args, below, meth, c⟩ := X
  obtain ⟨hx, hb, hml, hown, hts, hK, hG, hr, hlk, hst, hnw, hR⟩ := hO
  subst hp
  intro H locs ls hP hS hl
  subst hj0
  have h1 := rr_wd_get (G := G) (σ := σ) ht
  have k2 := k H locs ls hP hS hl
  refine va_lald (D := G.1) (cl := vwCl) (tys := rr_gT G) hx hb hK hP k0 1 h1 rfl (i32_in hn hi) hd ?_
  rw [i32_cl (by omega) hi.1]
  exact k2
theorem at_zaload (hO : rr_OK X G cc nL own ret a b) {k0 n : Nat} {i : Int} (ht : rr_TB[k0]? = some (.inl (2, n))) (hn : n ≤ 1000) (hi : ix i n) (j0 : Nat) (hj0 : i.toNat = j0) (hd : decode cc pc = .ok (.baload, 1)) (pc' : Nat) (hp : pc + 1 = pc') (k : rr_AT X G nL rk Z pc' lv (vi (σ k0 j0) :: st) σ) : rr_AT X G nL rk Z pc lv (vi i :: vr G k0 :: st) σ := by
  obtain ⟨p, l, e, R, s, m, args, below, meth, c⟩ := X
  obtain ⟨hx, hb, hml, hown, hts, hK, hG, hr, hlk, hst, hnw, hR⟩ := hO
  subst hp
  intro H locs ls hP hS hl
  subst hj0
  have h1 := rr_wd_get (G := G) (σ := σ) ht
  have k2 := k H locs ls hP hS hl
  refine va_zald (D := G.1) (cl := vwCl) (tys := rr_gT G) hx hb hK hP k0 2 h1 rfl (i32_in hn hi) hd ?_
  rw [i32_cl (by omega) hi.1]
  exact k2
theorem at_iastore (hO : rr_OK X G cc nL own ret a b) {k0 n : Nat} {i x : Int} (ht : rr_TB[k0]? = some (.inl (0, n))) (hn : n ≤ 1000) (hi : ix i n) (j0 : Nat) (hj0 : i.toNat = j0) (hd : decode cc pc = .ok (.iastore, 1)) (pc' : Nat) (hp : pc + 1 = pc') (k : rr_AT X G nL rk Z pc' lv st (su σ k0 j0 x)) : rr_AT X G nL rk Z pc lv (vi x :: vi i :: vr G k0 :: st) σ := by
  obtain ⟨p, l, e, R, s, m, args, below, meth, c⟩ := X
  obtain ⟨hx, hb, hml, hown, hts, hK, hG, hr, hlk, hst, hnw, hR⟩ := hO
  subst hp
  intro H locs ls hP hS hl
  subst hj0
  have h1 := rr_wd_get (G := G) (σ := σ) ht
  have e := rr_wd_set (G := G) (σ := σ) (σ' := su σ k0 i.toNat x) ht (fun j hj => su_ne j hj)
  refine va_iast (D := G.1) (cl := vwCl) (tys := rr_gT G) hx hb hK hP (rr_D hG) hS k0 0 h1 rfl (i32_in hn hi) hd (fun H1 locs1 hP1 hD1 hS1 => ?_)
  refine k H1 locs1 ls ?_ hS1 hl
  rw [← e, rr_kE_i]
  rw [i32_cl (by omega) hi.1] at hP1
  exact hP1
theorem at_lastore (hO : rr_OK X G cc nL own ret a b) {k0 n : Nat} {i x : Int} (ht : rr_TB[k0]? = some (.inl (1, n))) (hn : n ≤ 1000) (hi : ix i n) (j0 : Nat) (hj0 : i.toNat = j0) (hd : decode cc pc = .ok (.lastore, 1)) (pc' : Nat) (hp : pc + 1 = pc') (k : rr_AT X G nL rk Z pc' lv st (su σ k0 j0 x)) : rr_AT X G nL rk Z pc lv (vl x :: vi i :: vr G k0 :: st) σ := by
  obtain ⟨p, l, e, R, s, m, args, below, meth, c⟩ := X
  obtain ⟨hx, hb, hml, hown, hts, hK, hG, hr, hlk, hst, hnw, hR⟩ := hO
  subst hp
  intro H locs ls hP hS hl
  subst hj0
  have h1 := rr_wd_get (G := G) (σ := σ) ht
  have e := rr_wd_set (G := G) (σ := σ) (σ' := su σ k0 i.toNat x) ht (fun j hj => su_ne j hj)
  refine va_last (D := G.1) (cl := vwCl) (tys := rr_gT G) hx hb hK hP (rr_D hG) hS k0 1 h1 rfl (i32_in hn hi) hd (fun H1 locs1 hP1 hD1 hS1 => ?_)
  refine k H1 locs1 ls ?_ hS1 hl
  rw [← e, rr_kE_l]
  rw [i32_cl (by omega) hi.1] at hP1
  exact hP1
theorem at_zastore (hO : rr_OK X G cc nL own ret a b) {k0 n : Nat} {i x : Int} (h01 : x = 0 ∨ x = 1) (ht : rr_TB[k0]? = some (.inl (2, n))) (hn : n ≤ 1000) (hi : ix i n) (j0 : Nat) (hj0 : i.toNat = j0) (hd : decode cc pc = .ok (.bastore, 1)) (pc' : Nat) (hp : pc + 1 = pc') (k : rr_AT X G nL rk Z pc' lv st (su σ k0 j0 x)) : rr_AT X G nL rk Z pc lv (vi x :: vi i :: vr G k0 :: st) σ := by
  obtain ⟨p, l, e, R, s, m, args, below, meth, c⟩ := X
  obtain ⟨hx, hb, hml, hown, hts, hK, hG, hr, hlk, hst, hnw, hR⟩ := hO
  subst hp
  intro H locs ls hP hS hl
  subst hj0
  have h1 := rr_wd_get (G := G) (σ := σ) ht
  have e := rr_wd_set (G := G) (σ := σ) (σ' := su σ k0 i.toNat x) ht (fun j hj => su_ne j hj)
  refine va_zast (D := G.1) (cl := vwCl) (tys := rr_gT G) hx hb hK hP (rr_D hG) hS k0 2 h1 rfl (i32_in hn hi) hd (fun H1 locs1 hP1 hD1 hS1 => ?_)
  refine k H1 locs1 ls ?_ hS1 hl
  rw [← e, rr_kE_z h01]
  rw [i32_cl (by omega) hi.1] at hP1
  exact hP1
theorem at_aaload3 (hO : rr_OK X G cc nL own ret a b) {k0 n b0 : Nat} {i : Int} (ht : rr_TB[k0]? = some (.inr (.inl (3, n, b0)))) (hn : n ≤ 1000) (hi : ix i n) (k1 : Nat) (hk1 : b0 + i.toNat = k1) (hd : decode cc pc = .ok (.aaload, 1)) (pc' : Nat) (hp : pc + 1 = pc') (k : rr_AT X G nL rk Z pc' lv (vr G k1 :: st) σ) : rr_AT X G nL rk Z pc lv (vi i :: vr G k0 :: st) σ := by
  obtain ⟨p, l, e, R, s, m, args, below, meth, c⟩ := X
  obtain ⟨hx, hb, hml, hown, hts, hK, hG, hr, hlk, hst, hnw, hR⟩ := hO
  subst hp
  intro H locs ls hP hS hl
  subst hk1
  have h1 := rr_wd_get (G := G) (σ := σ) ht
  have k2 := k H locs ls hP hS hl
  refine va_aldq (D := G.1) (cl := vwCl) (tys := rr_gT G) (C := "RoadRiver$Text") hx hb hK hP k0 3 h1 rfl (i32_in hn hi) hd ?_
  rw [i32_cl (by omega) hi.1]
  exact k2
theorem at_aaload4 (hO : rr_OK X G cc nL own ret a b) {k0 n b0 : Nat} {i : Int} (ht : rr_TB[k0]? = some (.inr (.inl (4, n, b0)))) (hn : n ≤ 1000) (hi : ix i n) (k1 : Nat) (hk1 : b0 + i.toNat = k1) (hd : decode cc pc = .ok (.aaload, 1)) (pc' : Nat) (hp : pc + 1 = pc') (k : rr_AT X G nL rk Z pc' lv (vr G k1 :: st) σ) : rr_AT X G nL rk Z pc lv (vi i :: vr G k0 :: st) σ := by
  obtain ⟨p, l, e, R, s, m, args, below, meth, c⟩ := X
  obtain ⟨hx, hb, hml, hown, hts, hK, hG, hr, hlk, hst, hnw, hR⟩ := hO
  subst hp
  intro H locs ls hP hS hl
  subst hk1
  have h1 := rr_wd_get (G := G) (σ := σ) ht
  have k2 := k H locs ls hP hS hl
  refine va_aldq (D := G.1) (cl := vwCl) (tys := rr_gT G) (C := "RoadRiver$Sheet") hx hb hK hP k0 4 h1 rfl (i32_in hn hi) hd ?_
  rw [i32_cl (by omega) hi.1]
  exact k2
theorem at_aaload5 (hO : rr_OK X G cc nL own ret a b) {k0 n b0 : Nat} {i : Int} (ht : rr_TB[k0]? = some (.inr (.inl (5, n, b0)))) (hn : n ≤ 1000) (hi : ix i n) (k1 : Nat) (hk1 : b0 + i.toNat = k1) (hd : decode cc pc = .ok (.aaload, 1)) (pc' : Nat) (hp : pc + 1 = pc') (k : rr_AT X G nL rk Z pc' lv (vr G k1 :: st) σ) : rr_AT X G nL rk Z pc lv (vi i :: vr G k0 :: st) σ := by
  obtain ⟨p, l, e, R, s, m, args, below, meth, c⟩ := X
  obtain ⟨hx, hb, hml, hown, hts, hK, hG, hr, hlk, hst, hnw, hR⟩ := hO
  subst hp
  intro H locs ls hP hS hl
  subst hk1
  have h1 := rr_wd_get (G := G) (σ := σ) ht
  have k2 := k H locs ls hP hS hl
  refine rr_aldA (D := G.1) (cl := vwCl) (tys := rr_gT G) hx hb hK hP k0 5 h1 rfl (i32_in hn hi) hd ?_
  rw [i32_cl (by omega) hi.1]
  exact k2
theorem at_alen (hO : rr_OK X G cc nL own ret a b) {k0 n : Nat} (ht : rr_TB[k0]? = some (.inl (0, n))) (hd : decode cc pc = .ok (.arraylength, 1)) (pc' : Nat) (hp : pc + 1 = pc') (k : rr_AT X G nL rk Z pc' lv (vi (n : Int) :: st) σ) : rr_AT X G nL rk Z pc lv (vr G k0 :: st) σ := by
  obtain ⟨p, l, e, R, s, m, args, below, meth, c⟩ := X
  obtain ⟨hx, hb, hml, hown, hts, hK, hG, hr, hlk, hst, hnw, hR⟩ := hO
  subst hp
  intro H locs ls hP hS hl
  have h1 := rr_wd_get (G := G) (σ := σ) ht
  refine va_alen (D := G.1) (cl := vwCl) (tys := rr_gT G) hx hb hK hP k0 0 h1 (ty := .int) rfl (v := Int32.ofInt n) (by rw [Int32.ofInt_eq_ofNat]) hd ?_
  exact k H locs ls hP hS hl
theorem at_getR (hO : rr_OK X G cc nL own ret a b) {ixx ci j k0 k1 : Nat} {fs : List (Nat × Nat)} (hF : rr_FL own ixx ci j) (ht : rr_TB[k0]? = some (.inr (.inr (ci, fs)))) (hj : fs[j]? = some (0, k1)) (hd : decode cc pc = .ok (.getfield ixx, 3)) (pc' : Nat) (hp : pc + 3 = pc') (k : rr_AT X G nL rk Z pc' lv (vr G k1 :: st) σ) : rr_AT X G nL rk Z pc lv (vr G k0 :: st) σ := by
  obtain ⟨p, l, e, R, s, m, args, below, meth, c⟩ := X
  obtain ⟨hx, hb, hml, hown, hts, hK, hG, hr, hlk, hst, hnw, hR⟩ := hO
  subst hp
  intro H locs ls hP hS hl
  have h1 := rr_wd_get (G := G) (σ := σ) ht
  obtain ⟨C, T, N, q1, q2, q3, q4⟩ := hF
  refine va_get (D := G.1) (cl := vwCl) (tys := rr_gT G) hx hb hts q2 hown hK hP k0 h1 q1 j q3 (hts _ q4) (fun _ h9 => h9) (v := vr G k1) (by rw [rr_fvs_get hj]; simp only [Nat.zero_add]; rfl) hd ?_
  exact k H locs ls hP hS hl
theorem at_getRN (hO : rr_OK X G cc nL own ret a b) {ixx ci j k0 k1 : Nat} {fs : List (Nat × Nat)} (hF : rr_FLN own ixx ci j) (ht : rr_TB[k0]? = some (.inr (.inr (ci, fs)))) (hj : fs[j]? = some (0, k1)) (hd : decode cc pc = .ok (.getfield ixx, 3)) (pc' : Nat) (hp : pc + 3 = pc') (k : rr_AT X G nL rk Z pc' lv (vr G k1 :: st) σ) : rr_AT X G nL rk Z pc lv (vr G k0 :: st) σ := by
  obtain ⟨p, l, e, R, s, m, args, below, meth, c⟩ := X
  obtain ⟨hx, hb, hml, hown, hts, hK, hG, hr, hlk, hst, hnw, hR⟩ := hO
  subst hp
  intro H locs ls hP hS hl
  have h1 := rr_wd_get (G := G) (σ := σ) ht
  obtain ⟨C, T, N, host, q1, q2, q3, q4⟩ := hF
  refine va_getN (D := G.1) (cl := vwCl) (tys := rr_gT G) hx hb hts q2 hown hK hP k0 h1 q1 j q3 (va_Nw.use rfl (hnw _ q4 rfl)) (fun _ h9 => h9) (v := vr G k1) (by rw [rr_fvs_get hj]; simp only [Nat.zero_add]; rfl) hd ?_
  exact k H locs ls hP hS hl
theorem at_getI (hO : rr_OK X G cc nL own ret a b) {ixx ci j k0 k1 : Nat} {fs : List (Nat × Nat)} (hF : rr_FL own ixx ci j) (ht : rr_TB[k0]? = some (.inr (.inr (ci, fs)))) (hj : fs[j]? = some (1, k1)) (hd : decode cc pc = .ok (.getfield ixx, 3)) (pc' : Nat) (hp : pc + 3 = pc') (k : rr_AT X G nL rk Z pc' lv (vi (σ k0 j) :: st) σ) : rr_AT X G nL rk Z pc lv (vr G k0 :: st) σ := by
  obtain ⟨p, l, e, R, s, m, args, below, meth, c⟩ := X
  obtain ⟨hx, hb, hml, hown, hts, hK, hG, hr, hlk, hst, hnw, hR⟩ := hO
  subst hp
  intro H locs ls hP hS hl
  have h1 := rr_wd_get (G := G) (σ := σ) ht
  obtain ⟨C, T, N, q1, q2, q3, q4⟩ := hF
  refine va_get (D := G.1) (cl := vwCl) (tys := rr_gT G) hx hb hts q2 hown hK hP k0 h1 q1 j q3 (hts _ q4) (fun _ h9 => h9) (v := vi (σ k0 j)) (by rw [rr_fvs_get hj]; simp only [Nat.zero_add]; rfl) hd ?_
  exact k H locs ls hP hS hl
theorem at_getIN (hO : rr_OK X G cc nL own ret a b) {ixx ci j k0 k1 : Nat} {fs : List (Nat × Nat)} (hF : rr_FLN own ixx ci j) (ht : rr_TB[k0]? = some (.inr (.inr (ci, fs)))) (hj : fs[j]? = some (1, k1)) (hd : decode cc pc = .ok (.getfield ixx, 3)) (pc' : Nat) (hp : pc + 3 = pc') (k : rr_AT X G nL rk Z pc' lv (vi (σ k0 j) :: st) σ) : rr_AT X G nL rk Z pc lv (vr G k0 :: st) σ := by
  obtain ⟨p, l, e, R, s, m, args, below, meth, c⟩ := X
  obtain ⟨hx, hb, hml, hown, hts, hK, hG, hr, hlk, hst, hnw, hR⟩ := hO
  subst hp
  intro H locs ls hP hS hl
  have h1 := rr_wd_get (G := G) (σ := σ) ht
  obtain ⟨C, T, N, host, q1, q2, q3, q4⟩ := hF
  refine va_getN (D := G.1) (cl := vwCl) (tys := rr_gT G) hx hb hts q2 hown hK hP k0 h1 q1 j q3 (va_Nw.use rfl (hnw _ q4 rfl)) (fun _ h9 => h9) (v := vi (σ k0 j)) (by rw [rr_fvs_get hj]; simp only [Nat.zero_add]; rfl) hd ?_
  exact k H locs ls hP hS hl
theorem at_getL (hO : rr_OK X G cc nL own ret a b) {ixx ci j k0 k1 : Nat} {fs : List (Nat × Nat)} (hF : rr_FL own ixx ci j) (ht : rr_TB[k0]? = some (.inr (.inr (ci, fs)))) (hj : fs[j]? = some (2, k1)) (hd : decode cc pc = .ok (.getfield ixx, 3)) (pc' : Nat) (hp : pc + 3 = pc') (k : rr_AT X G nL rk Z pc' lv (vl (σ k0 j) :: st) σ) : rr_AT X G nL rk Z pc lv (vr G k0 :: st) σ := by
  obtain ⟨p, l, e, R, s, m, args, below, meth, c⟩ := X
  obtain ⟨hx, hb, hml, hown, hts, hK, hG, hr, hlk, hst, hnw, hR⟩ := hO
  subst hp
  intro H locs ls hP hS hl
  have h1 := rr_wd_get (G := G) (σ := σ) ht
  obtain ⟨C, T, N, q1, q2, q3, q4⟩ := hF
  refine va_get (D := G.1) (cl := vwCl) (tys := rr_gT G) hx hb hts q2 hown hK hP k0 h1 q1 j q3 (hts _ q4) (fun _ h9 => h9) (v := vl (σ k0 j)) (by rw [rr_fvs_get hj]; simp only [Nat.zero_add]; rfl) hd ?_
  exact k H locs ls hP hS hl
theorem at_getLN (hO : rr_OK X G cc nL own ret a b) {ixx ci j k0 k1 : Nat} {fs : List (Nat × Nat)} (hF : rr_FLN own ixx ci j) (ht : rr_TB[k0]? = some (.inr (.inr (ci, fs)))) (hj : fs[j]? = some (2, k1)) (hd : decode cc pc = .ok (.getfield ixx, 3)) (pc' : Nat) (hp : pc + 3 = pc') (k : rr_AT X G nL rk Z pc' lv (vl (σ k0 j) :: st) σ) : rr_AT X G nL rk Z pc lv (vr G k0 :: st) σ := by
  obtain ⟨p, l, e, R, s, m, args, below, meth, c⟩ := X
  obtain ⟨hx, hb, hml, hown, hts, hK, hG, hr, hlk, hst, hnw, hR⟩ := hO
  subst hp
  intro H locs ls hP hS hl
  have h1 := rr_wd_get (G := G) (σ := σ) ht
  obtain ⟨C, T, N, host, q1, q2, q3, q4⟩ := hF
  refine va_getN (D := G.1) (cl := vwCl) (tys := rr_gT G) hx hb hts q2 hown hK hP k0 h1 q1 j q3 (va_Nw.use rfl (hnw _ q4 rfl)) (fun _ h9 => h9) (v := vl (σ k0 j)) (by rw [rr_fvs_get hj]; simp only [Nat.zero_add]; rfl) hd ?_
  exact k H locs ls hP hS hl
theorem at_getZ (hO : rr_OK X G cc nL own ret a b) {ixx ci j k0 k1 : Nat} {fs : List (Nat × Nat)} (hF : rr_FL own ixx ci j) (ht : rr_TB[k0]? = some (.inr (.inr (ci, fs)))) (hj : fs[j]? = some (3, k1)) (hd : decode cc pc = .ok (.getfield ixx, 3)) (pc' : Nat) (hp : pc + 3 = pc') (k : rr_AT X G nL rk Z pc' lv (vi (σ k0 j) :: st) σ) : rr_AT X G nL rk Z pc lv (vr G k0 :: st) σ := by
  obtain ⟨p, l, e, R, s, m, args, below, meth, c⟩ := X
  obtain ⟨hx, hb, hml, hown, hts, hK, hG, hr, hlk, hst, hnw, hR⟩ := hO
  subst hp
  intro H locs ls hP hS hl
  have h1 := rr_wd_get (G := G) (σ := σ) ht
  obtain ⟨C, T, N, q1, q2, q3, q4⟩ := hF
  refine va_get (D := G.1) (cl := vwCl) (tys := rr_gT G) hx hb hts q2 hown hK hP k0 h1 q1 j q3 (hts _ q4) (fun _ h9 => h9) (v := vi (σ k0 j)) (by rw [rr_fvs_get hj]; simp only [Nat.zero_add]; rfl) hd ?_
  exact k H locs ls hP hS hl
theorem at_getZN (hO : rr_OK X G cc nL own ret a b) {ixx ci j k0 k1 : Nat} {fs : List (Nat × Nat)} (hF : rr_FLN own ixx ci j) (ht : rr_TB[k0]? = some (.inr (.inr (ci, fs)))) (hj : fs[j]? = some (3, k1)) (hd : decode cc pc = .ok (.getfield ixx, 3)) (pc' : Nat) (hp : pc + 3 = pc') (k : rr_AT X G nL rk Z pc' lv (vi (σ k0 j) :: st) σ) : rr_AT X G nL rk Z pc lv (vr G k0 :: st) σ := by
  obtain ⟨p, l, e, R, s, m, args, below, meth, c⟩ := X
  obtain ⟨hx, hb, hml, hown, hts, hK, hG, hr, hlk, hst, hnw, hR⟩ := hO
  subst hp
  intro H locs ls hP hS hl
  have h1 := rr_wd_get (G := G) (σ := σ) ht
  obtain ⟨C, T, N, host, q1, q2, q3, q4⟩ := hF
  refine va_getN (D := G.1) (cl := vwCl) (tys := rr_gT G) hx hb hts q2 hown hK hP k0 h1 q1 j q3 (va_Nw.use rfl (hnw _ q4 rfl)) (fun _ h9 => h9) (v := vi (σ k0 j)) (by rw [rr_fvs_get hj]; simp only [Nat.zero_add]; rfl) hd ?_
  exact k H locs ls hP hS hl
theorem at_putI (hO : rr_OK X G cc nL own ret a b) {ixx ci j k0 k1 : Nat} {x : Int} {fs : List (Nat × Nat)} (hF : rr_FP own ixx ci j .int) (ht : rr_TB[k0]? = some (.inr (.inr (ci, fs)))) (hj : fs[j]? = some (1, k1)) (hd : decode cc pc = .ok (.putfield ixx, 3)) (pc' : Nat) (hp : pc + 3 = pc') (k : rr_AT X G nL rk Z pc' lv st (su σ k0 j x)) : rr_AT X G nL rk Z pc lv (vi x :: vr G k0 :: st) σ := by
  obtain ⟨p, l, e, R, s, m, args, below, meth, c⟩ := X
  obtain ⟨hx, hb, hml, hown, hts, hK, hG, hr, hlk, hst, hnw, hR⟩ := hO
  subst hp
  intro H locs ls hP hS hl
  have h1 := rr_wd_get (G := G) (σ := σ) ht
  have e := rr_wd_set (G := G) (σ := σ) (σ' := su σ k0 j x) ht (fun j hj => su_ne j hj)
  obtain ⟨C, T, N, ty0, q1, q2, q3, q4, q5, q6, q7, q8⟩ := hF
  refine va_put (D := G.1) (cl := vwCl) (tys := rr_gT G) (v := vi x) (ty := .int) hx hb hts q2 ty0 q3 q4 hown hK hP (rr_D hG) hS k0 h1 q1 j q5 (hts _ q6) (fun _ h9 => h9) q7 q8 rfl rfl (by rw [rr_fvs_len]; exact (List.getElem?_eq_some_iff.mp hj).1) hd (fun H1 locs1 hP1 hD1 hS1 => ?_)
  refine k H1 locs1 ls ?_ hS1 hl
  rw [← e, rr_kE_o, rr_fvs_set hj]
  exact hP1
theorem at_putL (hO : rr_OK X G cc nL own ret a b) {ixx ci j k0 k1 : Nat} {x : Int} {fs : List (Nat × Nat)} (hF : rr_FP own ixx ci j .long) (ht : rr_TB[k0]? = some (.inr (.inr (ci, fs)))) (hj : fs[j]? = some (2, k1)) (hd : decode cc pc = .ok (.putfield ixx, 3)) (pc' : Nat) (hp : pc + 3 = pc') (k : rr_AT X G nL rk Z pc' lv st (su σ k0 j x)) : rr_AT X G nL rk Z pc lv (vl x :: vr G k0 :: st) σ := by
  obtain ⟨p, l, e, R, s, m, args, below, meth, c⟩ := X
  obtain ⟨hx, hb, hml, hown, hts, hK, hG, hr, hlk, hst, hnw, hR⟩ := hO
  subst hp
  intro H locs ls hP hS hl
  have h1 := rr_wd_get (G := G) (σ := σ) ht
  have e := rr_wd_set (G := G) (σ := σ) (σ' := su σ k0 j x) ht (fun j hj => su_ne j hj)
  obtain ⟨C, T, N, ty0, q1, q2, q3, q4, q5, q6, q7, q8⟩ := hF
  refine va_put (D := G.1) (cl := vwCl) (tys := rr_gT G) (v := vl x) (ty := .long) hx hb hts q2 ty0 q3 q4 hown hK hP (rr_D hG) hS k0 h1 q1 j q5 (hts _ q6) (fun _ h9 => h9) q7 q8 rfl rfl (by rw [rr_fvs_len]; exact (List.getElem?_eq_some_iff.mp hj).1) hd (fun H1 locs1 hP1 hD1 hS1 => ?_)
  refine k H1 locs1 ls ?_ hS1 hl
  rw [← e, rr_kE_o, rr_fvs_set hj]
  exact hP1
theorem at_putZ (hO : rr_OK X G cc nL own ret a b) {ixx ci j k0 k1 : Nat} {x : Int} {fs : List (Nat × Nat)} (h01 : x = 0 ∨ x = 1) (hF : rr_FP own ixx ci j .boolean) (ht : rr_TB[k0]? = some (.inr (.inr (ci, fs)))) (hj : fs[j]? = some (3, k1)) (hd : decode cc pc = .ok (.putfield ixx, 3)) (pc' : Nat) (hp : pc + 3 = pc') (k : rr_AT X G nL rk Z pc' lv st (su σ k0 j x)) : rr_AT X G nL rk Z pc lv (vi x :: vr G k0 :: st) σ := by
  obtain ⟨p, l, e, R, s, m, args, below, meth, c⟩ := X
  obtain ⟨hx, hb, hml, hown, hts, hK, hG, hr, hlk, hst, hnw, hR⟩ := hO
  subst hp
  intro H locs ls hP hS hl
  have h1 := rr_wd_get (G := G) (σ := σ) ht
  have e := rr_wd_set (G := G) (σ := σ) (σ' := su σ k0 j x) ht (fun j hj => su_ne j hj)
  obtain ⟨C, T, N, ty0, q1, q2, q3, q4, q5, q6, q7, q8⟩ := hF
  refine va_put (D := G.1) (cl := vwCl) (tys := rr_gT G) (v := vi x) (ty := .boolean) hx hb hts q2 ty0 q3 q4 hown hK hP (rr_D hG) hS k0 h1 q1 j q5 (hts _ q6) (fun _ h9 => h9) q7 q8 (rr_nz h01) (rr_fz h01) (by rw [rr_fvs_len]; exact (List.getElem?_eq_some_iff.mp hj).1) hd (fun H1 locs1 hP1 hD1 hS1 => ?_)
  refine k H1 locs1 ls ?_ hS1 hl
  rw [← e, rr_kE_o, rr_fvs_set hj]
  exact hP1
theorem at_getsTL (hO : rr_OK X G cc nL own ret a b) {ixx : Nat} (hw : Cond.fieldLink own ixx "RoadRiver" "TERM_LEAST" "[I" ∈ rr_tbl) (hd : decode cc pc = .ok (.getstatic ixx, 3)) (pc' : Nat) (hp : pc + 3 = pc') (k : rr_AT X G nL rk Z pc' lv (.ref G.2.2.2.1 :: st) σ) : rr_AT X G nL rk Z pc lv st σ := by
  obtain ⟨p, l, e, R, s, m, args, below, meth, c⟩ := X
  obtain ⟨hx, hb, hml, hown, hts, hK, hG, hr, hlk, hst, hnw, hR⟩ := hO
  subst hp
  intro H locs ls hP hS hl
  refine va_gets (C := "RoadRiver") (n := "TERM_LEAST") (d := "[I") hx hb hst.1.1 hS hown (hts _ hw) (fun _ h9 => h9) hd ?_
  exact k H locs ls hP hS hl
theorem at_aldTL (hO : rr_OK X G cc nL own ret a b) {i : Int} (hi : ix i 7) (j0 : Nat) (hj0 : i.toNat = j0) (hd : decode cc pc = .ok (.iaload, 1)) (pc' : Nat) (hp : pc + 1 = pc') (k : rr_AT X G nL rk Z pc' lv (vi (rr_TL j0) :: st) σ) : rr_AT X G nL rk Z pc lv (vi i :: .ref G.2.2.2.1 :: st) σ := by
  obtain ⟨p, l, e, R, s, m, args, below, meth, c⟩ := X
  obtain ⟨hx, hb, hml, hown, hts, hK, hG, hr, hlk, hst, hnw, hR⟩ := hO
  subst hp
  intro H locs ls hP hS hl
  subst hj0
  have k2 := k H locs ls hP hS hl
  refine va_ti hx hb hst.1.2 hS (i32_in (by omega) hi) (v := vi (rr_TL i.toNat)) (by rw [i32_cl (by omega) hi.1]; rfl) hd ?_
  exact k2
theorem at_getsTM (hO : rr_OK X G cc nL own ret a b) {ixx : Nat} (hw : Cond.fieldLink own ixx "RoadRiver" "TERM_MOST" "[I" ∈ rr_tbl) (hd : decode cc pc = .ok (.getstatic ixx, 3)) (pc' : Nat) (hp : pc + 3 = pc') (k : rr_AT X G nL rk Z pc' lv (.ref G.2.2.2.2 :: st) σ) : rr_AT X G nL rk Z pc lv st σ := by
  obtain ⟨p, l, e, R, s, m, args, below, meth, c⟩ := X
  obtain ⟨hx, hb, hml, hown, hts, hK, hG, hr, hlk, hst, hnw, hR⟩ := hO
  subst hp
  intro H locs ls hP hS hl
  refine va_gets (C := "RoadRiver") (n := "TERM_MOST") (d := "[I") hx hb hst.2.1 hS hown (hts _ hw) (fun _ h9 => h9) hd ?_
  exact k H locs ls hP hS hl
theorem at_aldTM (hO : rr_OK X G cc nL own ret a b) {i : Int} (hi : ix i 7) (j0 : Nat) (hj0 : i.toNat = j0) (hd : decode cc pc = .ok (.iaload, 1)) (pc' : Nat) (hp : pc + 1 = pc') (k : rr_AT X G nL rk Z pc' lv (vi (rr_TM j0) :: st) σ) : rr_AT X G nL rk Z pc lv (vi i :: .ref G.2.2.2.2 :: st) σ := by
  obtain ⟨p, l, e, R, s, m, args, below, meth, c⟩ := X
  obtain ⟨hx, hb, hml, hown, hts, hK, hG, hr, hlk, hst, hnw, hR⟩ := hO
  subst hp
  intro H locs ls hP hS hl
  subst hj0
  have k2 := k H locs ls hP hS hl
  refine va_ti hx hb hst.2.2 hS (i32_in (by omega) hi) (v := vi (rr_TM i.toNat)) (by rw [i32_cl (by omega) hi.1]; rfl) hd ?_
  exact k2
theorem at_ireturn (hO : rr_OK X G cc nL own (some .int) a b) {x : Int} (hd : decode cc pc = .ok (.ireturn, 1)) (hf : some (x, σ) = some Z) : rr_AT X G nL 1 Z pc lv [vi x] σ := by
  obtain ⟨p, l, e, R, s, m, args, below, meth, c⟩ := X
  obtain ⟨hx, hb, hml, hown, hts, hK, hG, hr, hlk, hst, hnw, hR⟩ := hO
  cases hf
  intro H locs ls hP hS hl
  exact W.iret (Qc := rr_Q G 1 (x, σ)) hx hb hr (fun t ht hW => ⟨rfl, by rw [ht]; exact hP, hS.F ht⟩) hS.2.2 hd hlk
theorem at_zreturn (hO : rr_OK X G cc nL own (some .boolean) a b) {x : Int} (h01 : x = 0 ∨ x = 1) (hd : decode cc pc = .ok (.ireturn, 1)) (hf : some (x, σ) = some Z) : rr_AT X G nL 1 Z pc lv [vi x] σ := by
  obtain ⟨p, l, e, R, s, m, args, below, meth, c⟩ := X
  obtain ⟨hx, hb, hml, hown, hts, hK, hG, hr, hlk, hst, hnw, hR⟩ := hO
  cases hf
  intro H locs ls hP hS hl
  exact W.zret (Qc := rr_Q G 1 (x, σ)) hx hb hr (rr_nz h01) (fun t ht hW => ⟨rfl, by rw [ht]; exact hP, hS.F ht⟩) hS.2.2 hd hlk
theorem at_lreturn (hO : rr_OK X G cc nL own (some .long) a b) {x : Int} (hd : decode cc pc = .ok (.lreturn, 1)) (hf : some (x, σ) = some Z) : rr_AT X G nL 2 Z pc lv [vl x] σ := by
  obtain ⟨p, l, e, R, s, m, args, below, meth, c⟩ := X
  obtain ⟨hx, hb, hml, hown, hts, hK, hG, hr, hlk, hst, hnw, hR⟩ := hO
  cases hf
  intro H locs ls hP hS hl
  exact W.lret (Qc := rr_Q G 2 (x, σ)) hx hb hr (fun t ht hW => ⟨rfl, by rw [ht]; exact hP, hS.F ht⟩) hS.2.2 hd hlk
theorem at_return (hO : rr_OK X G cc nL own none a b)  (hd : decode cc pc = .ok (.return_, 1)) (hf : some (0, σ) = some Z) : rr_AT X G nL 0 Z pc lv [] σ := by
  obtain ⟨p, l, e, R, s, m, args, below, meth, c⟩ := X
  obtain ⟨hx, hb, hml, hown, hts, hK, hG, hr, hlk, hst, hnw, hR⟩ := hO
  cases hf
  intro H locs ls hP hS hl
  exact W.vret (Qc := rr_Q G 0 (0, σ)) hx hb hr (fun t ht hW => ⟨rfl, by rw [ht]; exact hP, hS.F ht⟩) hS.2.2 hd hlk
end ROWS
