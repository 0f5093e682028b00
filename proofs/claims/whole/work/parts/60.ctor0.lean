/-! CONSTRUCTORS: the walk over a list of cells that grows -/
theorem va_RA_inj {U : State} {c1 c2 : ClassId} {t : FieldType} (h1 : va_RA U c1 t) (h2 : va_RA U c2 t) : c1 = c2 := by
  cases t with
  | object C =>
    obtain ⟨_, _, _, _, _, a⟩ := h1
    obtain ⟨_, _, _, _, _, b⟩ := h2
    exact Option.some.inj (a.symm.trans b)
  | _ => exact Option.some.inj (Eq.trans (Eq.symm h1) h2)
theorem gcls {D : va_G} {cl : List vw_C} {tys : List (ClassId × FieldType)} {s : State} {c1 c2 : ClassId} {t : FieldType} {i : Nat} (h : va_K D cl tys s) (hi : tys[i]? = some (c1, t)) (h2 : va_K D cl (tys ++ [(c2, t)]) s) : c2 = c1 :=
  va_RA_inj (h2.2 tys.length (c2, t) (by simp)).2 (h.2 i (c1, t) hi).2
def rr_AO (U : State) : Prop := va_AO "RoadRiver$Text" U ∧ va_AO "RoadRiver$Sheet" U ∧ va_AOA .int U
def PI (G : Ge) (ws : va_W) (sz : Nat) (U : State) : Prop := U.heap.size = sz ∧ va_P G.1 vwCl ws U.heap ∧ va_K G.1 vwCl (rr_gT G) U ∧ va_D (fun _ => True) ws ∧ rr_NW U ∧ rr_AO U
/-- behind a constructor: its cells, by the addresses r of those that it made -/
def QI (G : Ge) (w1 : (Nat → Nat) → va_W) (ws : va_W) (sz : Nat) : Array Value → State → Outcome → State → Prop := va_Qv (fun _ : Nat → Nat => True) (fun r t => va_P G.1 vwCl (w1 r) t.heap ∧ va_D (va_A ws sz) (w1 r)) (va_A ws sz)
def CA (X : CX) (G : Ge) (A : Nat → Prop) (nL n0 n1 : Nat) (Q : State → Prop) (pc : Nat) (lv : List (Nat × Value)) (st : List Value) (ws : va_W) : Prop := match X with
  | (p, l, e, R, s, m, args, below, meth, c) => ∀ (H : Heap) (locs : List Loc) (ls : Array Slot), va_P G.1 vwCl ws H → va_D A ws → va_S A s.heap H locs → lv_has ls nL lv → W p l e R s m args below meth c H locs n0 n1 Q (F0 m pc ls st)
def CO (X : CX) (G : Ge) (A : Nat → Prop) (cc : ByteArray) (nL : Nat) (own : String) (R0 : Room) : Prop := match X with
  | (p, l, e, R, s, m, args, below, meth, c) => p.tables.exec = Jvm.exec ∧ c.code = cc ∧ c.maxLocals = nL ∧ s.vm.findClass own = some m.cls ∧ (∀ w ∈ rr_tbl, w.before args s = true) ∧ va_K G.1 vwCl (rr_gT G) s ∧ meth.sig.returnType = none ∧ meth.name = "<init>" ∧ (∀ q : Nat, s.heap.size ≤ q → A q) ∧ rr_NW s ∧ rr_AO s ∧ R = R0
section CTOR
variable {X : CX} {G : Ge} {A : Nat → Prop} {cc : ByteArray} {nL n0 n1 : Nat} {own : String} {R0 : Room} {Q : State → Prop} {pc : Nat} {lv lv' : List (Nat × Value)} {st stk : List Value} {ws : va_W}
theorem cr_al (hO : CO X G A cc nL own R0) {q : Fin 4} (j : Nat) {i x : Nat} (hi : (q : Nat) = i) (hj : lv[j]? = some (i, .ref x)) (hd : decode cc pc = .ok (.aload_n q, 1)) (k : CA X G A nL n0 n1 Q (pc + 1) lv (.ref x :: st) ws) : CA X G A nL n0 n1 Q pc lv st ws := by
  obtain ⟨p, l, e, R, s, m, args, below, meth, c⟩ := X
  obtain ⟨hx, hb, hml, hown, hts, hK, hr, hin, hA, hnw, hao, hR⟩ := hO
  intro H locs ls hP hD hS hl
  exact lv_aload_n hx hb hd hi (lv_at hl j hj) (k H locs ls hP hD hS hl)
theorem cr_il (hO : CO X G A cc nL own R0) {q : Fin 4} (j : Nat) {i : Nat} {x : Int} (hi : (q : Nat) = i) (hj : lv[j]? = some (i, vi x)) (hd : decode cc pc = .ok (.iload_n q, 1)) (k : CA X G A nL n0 n1 Q (pc + 1) lv (vi x :: st) ws) : CA X G A nL n0 n1 Q pc lv st ws := by
  obtain ⟨p, l, e, R, s, m, args, below, meth, c⟩ := X
  obtain ⟨hx, hb, hml, hown, hts, hK, hr, hin, hA, hnw, hao, hR⟩ := hO
  intro H locs ls hP hD hS hl
  exact lv_iload_n hx hb hd hi (lv_at hl j hj) (k H locs ls hP hD hS hl)
theorem cr_con (hO : CO X G A cc nL own R0) {n : Int} (hd : decode cc pc = .ok (.iconst n, 1)) (k : CA X G A nL n0 n1 Q (pc + 1) lv (vi n :: st) ws) : CA X G A nL n0 n1 Q pc lv st ws := by
  obtain ⟨p, l, e, R, s, m, args, below, meth, c⟩ := X
  obtain ⟨hx, hb, hml, hown, hts, hK, hr, hin, hA, hnw, hao, hR⟩ := hO
  intro H locs ls hP hD hS hl
  exact lv_iconst hx hb hd rfl (k H locs ls hP hD hS hl)
theorem cr_bip (hO : CO X G A cc nL own R0) {n : Int} (hv : (Int8.ofInt n).toInt32 = Int32.ofInt n) (hd : decode cc pc = .ok (.bipush n, 2)) (k : CA X G A nL n0 n1 Q (pc + 2) lv (vi n :: st) ws) : CA X G A nL n0 n1 Q pc lv st ws := by
  obtain ⟨p, l, e, R, s, m, args, below, meth, c⟩ := X
  obtain ⟨hx, hb, hml, hown, hts, hK, hr, hin, hA, hnw, hao, hR⟩ := hO
  intro H locs ls hP hD hS hl
  exact lv_bipush hx hb hd hv (k H locs ls hP hD hS hl)
theorem cr_sip (hO : CO X G A cc nL own R0) {n : Int} (hv : (Int16.ofInt n).toInt32 = Int32.ofInt n) (hd : decode cc pc = .ok (.sipush n, 3)) (k : CA X G A nL n0 n1 Q (pc + 3) lv (vi n :: st) ws) : CA X G A nL n0 n1 Q pc lv st ws := by
  obtain ⟨p, l, e, R, s, m, args, below, meth, c⟩ := X
  obtain ⟨hx, hb, hml, hown, hts, hK, hr, hin, hA, hnw, hao, hR⟩ := hO
  intro H locs ls hP hD hS hl
  exact lv_sipush hx hb hd hv (k H locs ls hP hD hS hl)
theorem cr_dup (hO : CO X G A cc nL own R0) {v : Value} (hc : v.category = 1) (hd : decode cc pc = .ok (.dup, 1)) (k : CA X G A nL n0 n1 Q (pc + 1) lv (v :: v :: st) ws) : CA X G A nL n0 n1 Q pc lv (v :: st) ws := by
  obtain ⟨p, l, e, R, s, m, args, below, meth, c⟩ := X
  obtain ⟨hx, hb, hml, hown, hts, hK, hr, hin, hA, hnw, hao, hR⟩ := hO
  intro H locs ls hP hD hS hl
  exact lv_dup hx hb hd hc (k H locs ls hP hD hS hl)
theorem cr_ini (hO : CO X G A cc nL own R0) {ixx a : Nat} (hlink : Cond.methodLink own ixx objectInit ∈ rr_tbl) (hi : Cond.instanceMethod objectInit ∈ rr_tbl) (hc : Cond.code objectInit ⟨#[0xb1]⟩ 1 none ∈ rr_tbl) (hroom : 1 ≤ R0.frames ∧ (st.map fun v => v.category).sum + 12 ≤ R0.locals) (hd : decode cc pc = .ok (.invokespecial ixx, 3)) (k : CA X G A nL n0 n1 Q (pc + 3) lv st ws) : CA X G A nL n0 n1 Q pc lv (.ref a :: st) ws := by
  obtain ⟨p, l, e, R, s, m, args, below, meth, c⟩ := X
  obtain ⟨hx, hb, hml, hown, hts, hK, hr, hin, hA, hnw, hao, hR⟩ := hO
  subst hR
  intro H locs ls hP hD hS hl
  refine W.objInit hx hb hown (hts _ hlink) (hts _ hi) (hts _ hc) rfl (by rw [hml]; exact hl.1) rfl hd hroom.1 (by show 2 * 0 + _ + 12 ≤ _; omega) ?_
  exact W.eq (g2 := F0 m (pc + 3) ls st) rfl (k H locs ls hP hD hS hl)
theorem cr_newI (hO : CO X G A cc nL own R0) {z : Int} (N : Nat) (hz : z = (N : Int)) (hN : N ≤ 1000) (hw : Cond.arrayClass .int ∈ rr_tbl) (hroom : n0 + 1 ≤ R0.cells ∧ n1 + N ≤ R0.slots) (hd : decode cc pc = .ok (.newarray .int, 2)) (k : ∀ q : Nat, CA X G A nL (n0 + 1) (n1 + N) Q (pc + 2) lv (.ref q :: st) (ws ++ [(q, .inl (G.2.2.1 0, N, .inl (fun _ => 0)))])) : CA X G A nL n0 n1 Q pc lv (vi z :: st) ws := by
  obtain ⟨p, l, e, R, s, m, args, below, meth, c⟩ := X
  obtain ⟨hx, hb, hml, hown, hts, hK, hr, hin, hA, hnw, hao, hR⟩ := hO
  subst hR
  subst hz
  intro H locs ls hP hD hS hl
  refine va_newa (atype := .int) (ty := .int) (a0 := (N, .inl (fun _ => 0))) hx hb (hts _ hw) rfl hK hP hD hS hA (fun cA => rfl) (fun q => ?_) (by rw [i32_cl (by omega) (by omega), Int.toNat_natCast]) (by show N * 4 ≤ 536870912; omega) hroom.1 hroom.2 hd (fun q cA H1 hK1 hP1 hD1 hS1 => ?_)
  · have := (i32_lt (x := (N : Int)) (y := 0) (by omega) z32_0).mp q
    omega
  · have e1 : cA = G.2.2.1 0 := gcls (i := 0) hK rfl hK1
    subst e1
    exact k q H1 locs ls hP1 hD1 hS1 hl
end CTOR
