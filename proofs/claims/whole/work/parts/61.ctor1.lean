/-! CONSTRUCTORS: fields, other arrays, start and end -/
def rr_FW (own : String) (ixx ci j : Nat) (fin : Bool) (ty : FieldType) : Prop := ∃ (C : String) (T : u_T) (N : Nat) (ty0 : Nat → FieldType), vwCl[ci]? = some (C, T, N) ∧ (∀ w ∈ u_ws C T N, w ∈ rr_tbl) ∧ (∀ k, k < N → parseFieldDescriptor (T k).2.2.1 = some (ty0 k)) ∧ (∀ a, a < N → ∀ b, b < N → a ≠ b → (T a).2.1 ≠ (T b).2.1) ∧ j < N ∧ Cond.fieldLink own ixx (T j).1 (T j).2.1 (T j).2.2.1 ∈ rr_tbl ∧ (T j).2.2.2 = fin ∧ parseFieldDescriptor (T j).2.2.1 = some ty ∧ (T j).1 = own
section CTOR1
variable {X : CX} {G : Ge} {A : Nat → Prop} {cc : ByteArray} {nL n0 n1 : Nat} {own : String} {R0 : Room} {Q : State → Prop} {pc : Nat} {lv lv' : List (Nat × Value)} {st stk : List Value} {ws : va_W}
theorem cr_put (hO : CO X G A cc nL own R0) {ixx ci j a : Nat} {fin : Bool} {ty : FieldType} {v : Value} {fs : List Value} (hF : rr_FW own ixx ci j fin ty) (q0 : Nat) (he : ws[q0]? = some (a, .inr (ci, fs))) (hn : narrow ty v = v) (hfit : fits ty v = true) (hl9 : j < fs.length) (hd : decode cc pc = .ok (.putfield ixx, 3)) (k : CA X G A nL n0 n1 Q (pc + 3) lv st (ws.set q0 (a, .inr (ci, fs.set j v)))) : CA X G A nL n0 n1 Q pc lv (v :: .ref a :: st) ws := by
  obtain ⟨p, l, e, R, s, m, args, below, meth, c⟩ := X
  obtain ⟨hx, hb, hml, hown, hts, hK, hr, hin, hA, hnw, hao, hR⟩ := hO
  intro H locs ls hP hD hS hl
  obtain ⟨C, T, N, ty0, q1, q2, q3, q4, q5, q6, q7, q8, q9⟩ := hF
  cases fin with
  | true => exact va_putF (D := G.1) (cl := vwCl) (tys := rr_gT G) (v := v) (ty := ty) hx hb hts q2 ty0 q3 q4 hown hK hP hD hS q0 he q1 j q5 (hts _ q6) (fun _ h9 => h9) q7 hin q9 q8 hn hfit hl9 hd (fun H1 locs1 hP1 hD1 hS1 => k H1 locs1 ls hP1 hD1 hS1 hl)
  | false => exact va_put (D := G.1) (cl := vwCl) (tys := rr_gT G) (v := v) (ty := ty) hx hb hts q2 ty0 q3 q4 hown hK hP hD hS q0 he q1 j q5 (hts _ q6) (fun _ h9 => h9) q7 q8 hn hfit hl9 hd (fun H1 locs1 hP1 hD1 hS1 => k H1 locs1 ls hP1 hD1 hS1 hl)
theorem cr_newZ (hO : CO X G A cc nL own R0) {z : Int} (N : Nat) (hz : z = (N : Int)) (hN : N ≤ 1000) (hw : Cond.arrayClass .boolean ∈ rr_tbl) (hroom : n0 + 1 ≤ R0.cells ∧ n1 + N ≤ R0.slots) (hd : decode cc pc = .ok (.newarray .boolean, 2)) (k : ∀ q : Nat, CA X G A nL (n0 + 1) (n1 + N) Q (pc + 2) lv (.ref q :: st) (ws ++ [(q, .inl (G.2.2.1 2, N, .inl (fun _ => 0)))])) : CA X G A nL n0 n1 Q pc lv (vi z :: st) ws := by
  obtain ⟨p, l, e, R, s, m, args, below, meth, c⟩ := X
  obtain ⟨hx, hb, hml, hown, hts, hK, hr, hin, hA, hnw, hao, hR⟩ := hO
  subst hR
  subst hz
  intro H locs ls hP hD hS hl
  refine va_newa (atype := .boolean) (ty := .boolean) (a0 := (N, .inl (fun _ => 0))) hx hb (hts _ hw) rfl hK hP hD hS hA (fun cA => rfl) (fun q => ?_) (by rw [i32_cl (by omega) (by omega), Int.toNat_natCast]) (by show N * 1 ≤ 536870912; omega) hroom.1 hroom.2 hd (fun q cA H1 hK1 hP1 hD1 hS1 => ?_)
  · have := (i32_lt (x := (N : Int)) (y := 0) (by omega) z32_0).mp q
    omega
  · have e1 : cA = G.2.2.1 2 := gcls (i := 2) hK rfl hK1
    subst e1
    exact k q H1 locs ls hP1 hD1 hS1 hl
theorem cr_newL (hO : CO X G A cc nL own R0) {z : Int} (N : Nat) (hz : z = (N : Int)) (hN : N ≤ 1000) (hw : Cond.arrayClass .long ∈ rr_tbl) (hroom : n0 + 1 ≤ R0.cells ∧ n1 + N ≤ R0.slots) (hd : decode cc pc = .ok (.newarray .long, 2)) (k : ∀ q : Nat, CA X G A nL (n0 + 1) (n1 + N) Q (pc + 2) lv (.ref q :: st) (ws ++ [(q, .inl (G.2.2.1 1, N, .inr (.inl (fun _ => 0))))])) : CA X G A nL n0 n1 Q pc lv (vi z :: st) ws := by
  obtain ⟨p, l, e, R, s, m, args, below, meth, c⟩ := X
  obtain ⟨hx, hb, hml, hown, hts, hK, hr, hin, hA, hnw, hao, hR⟩ := hO
  subst hR
  subst hz
  intro H locs ls hP hD hS hl
  refine va_newa (atype := .long) (ty := .long) (a0 := (N, .inr (.inl (fun _ => 0)))) hx hb (hts _ hw) rfl hK hP hD hS hA (fun cA => rfl) (fun q => ?_) (by rw [i32_cl (by omega) (by omega), Int.toNat_natCast]) (by show N * 8 ≤ 536870912; omega) hroom.1 hroom.2 hd (fun q cA H1 hK1 hP1 hD1 hS1 => ?_)
  · have := (i32_lt (x := (N : Int)) (y := 0) (by omega) z32_0).mp q
    omega
  · have e1 : cA = G.2.2.1 1 := gcls (i := 1) hK rfl hK1
    subst e1
    exact k q H1 locs ls hP1 hD1 hS1 hl
end CTOR1
/-- a constructor's contract out of its walk -/
theorem cr_mk {l : Launch} {G : Ge} {y : MethodName} {cc : ByteArray} {nL sz mc ms : Nat} {av : List Value} {ws : va_W} {w1 : (Nat → Nat) → va_W} {R0 : Room} {lv : List (Nat × Value)} (own : String) (hy : plainName y.cls = true) (hcls : y.cls = own) (hnm : y.name = "<init>") (hlen : (lg_sl av).length ≤ nL) (hlv : lv_args 0 av = lv)
    (body : ∀ (X : CX) (A : Nat → Prop), X.2.2.2.2.1.heap.size = sz → va_D A ws → (∀ q, A q → va_A ws sz q) → X.2.2.2.2.2.2.2.2.1.locks = false → CO X G A cc nL own R0 → CA X G A nL 0 0 (MQ X.2.2.2.2.2.2.2.1 (QI G w1 ws sz) X.2.2.2.2.2.2.1 X.2.2.2.2.1 mc ms (va_A ws sz)) 0 lv [] ws) : Met l y (.code y cc nL none :: rr_tbl) R0 (va_Pc av (PI G ws sz)) (QI G w1 ws sz) mc ms (va_A ws sz) := by
  refine Met.ofW (cc := cc) (maxL := nL) (ret := none) hy rfl ?_
  intro p e s m args below meth c s₁ B hml hv
  obtain ⟨rfl, hsz, hP, hK, hD0, hNW, hAO⟩ := hv
  have hts0 := atoms_spec (ws := Cond.code y cc nL none :: rr_tbl) B.pre
  have hown : s.vm.findClass own = some m.cls := by
    rw [← hcls]
    exact findClass_of_methodNamed B.named
  have hin : meth.name = "<init>" := (name_of_methodNamed B.named B.method).1.trans hnm
  have hl := lv_entry av (n := nL) hlen
  rw [hlv] at hl
  rw [lg_entry_eq]
  have hD : va_D (va_A ws sz) ws := hD0.self (sz := sz)
  exact body (p, l, e, _, s, m, av.toArray, below, meth, c) (va_A ws sz) hsz hD (fun _ h => h) B.notSynchronized ⟨B.exec, B.bytes, hml, hown, fun w hw => hts0 w (List.mem_cons_of_mem _ hw), hK, B.returns, hin, fun q h => Or.inr (by rw [← hsz]; exact h), hNW, hAO, rfl⟩ s.heap [] _ hP hD va_S.rf hl
