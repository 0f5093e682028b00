/-! CONSTRUCTORS: calls, making of objects, arrays of cells, static rows; the object in front -/
theorem va_nd_of : ∀ {l : List Nat}, l.Nodup → va_nd l = true
  | [], _ => rfl
  | a :: l, h => by
    rw [List.nodup_cons] at h
    simp only [va_nd, Bool.and_eq_true, decide_eq_true_eq]
    exact ⟨h.1, va_nd_of h.2⟩
theorem cr_range (wr wt : va_W) : (List.range wr.length).map (fun i => (wr ++ wt)[i]?) = wr.map some := by
  apply List.ext_getElem?
  intro i
  by_cases h : i < wr.length
  · rw [List.getElem?_map, List.getElem?_range h, Option.map_some, List.getElem?_append_left h, List.getElem?_map, List.getElem?_eq_getElem h, Option.map_some]
  · rw [List.getElem?_eq_none (by rw [List.length_map, List.length_range]; omega), List.getElem?_eq_none (by rw [List.length_map]; omega)]
theorem cr_last (wr : va_W) (x : Nat × va_E) : [wr.length].map (fun i => (wr ++ [x])[i]?) = [x].map some := by
  simp
theorem va_P.pm {D : va_G} {cl : List vw_C} {ws ws' : va_W} {H : Heap} (h : va_P D cl ws H) (hp : ws.Perm ws') : va_P D cl ws' H := by
  intro k q hq
  obtain ⟨i, hi⟩ := List.mem_iff_getElem?.mp (hp.mem_iff.mpr (List.mem_of_getElem? hq))
  exact h i q hi
theorem va_D.pw {A : Nat → Prop} {ws : va_W} (h : va_D A ws) : ws.Pairwise (fun p q => p.1 ≠ q.1) := by
  rw [List.pairwise_iff_getElem]
  intro i j hi hj hij he
  have h9 := h.1 i j _ _ (List.getElem?_eq_getElem hi) (List.getElem?_eq_getElem hj) he
  omega
theorem va_D.of_pw {A : Nat → Prop} {ws : va_W} (h : ws.Pairwise (fun p q => p.1 ≠ q.1)) (hA : ∀ q ∈ ws, A q.1) : va_D A ws := by
  rw [List.pairwise_iff_getElem] at h
  refine ⟨fun i j p q hp hq he => ?_, fun k q hq => hA q (List.mem_of_getElem? hq)⟩
  obtain ⟨hi, rfl⟩ := List.getElem?_eq_some_iff.mp hp
  obtain ⟨hj, rfl⟩ := List.getElem?_eq_some_iff.mp hq
  rcases Nat.lt_trichotomy i j with h1 | h1 | h1
  · exact absurd he (h i j hi hj h1)
  · exact h1
  · exact absurd he.symm (h j i hj hi h1)
theorem va_D.pm {A : Nat → Prop} {ws ws' : va_W} (h : va_D A ws) (hp : ws.Perm ws') : va_D A ws' := by
  refine va_D.of_pw ((List.Perm.pairwise_iff (R := fun p q : Nat × va_E => p.1 ≠ q.1) (fun hxy e => hxy e.symm) hp).mp h.pw) (fun q hq => ?_)
  obtain ⟨i, hi⟩ := List.mem_iff_getElem?.mp (hp.mem_iff.mpr hq)
  exact h.2 i q hi
theorem rr_AO.moved {u U : State} (hvm : u.vm.Alike U.vm) (h : rr_AO u) : rr_AO U := ⟨va_AO.moved hvm h.1, va_AO.moved hvm h.2.1, va_AOA.moved hvm h.2.2⟩
theorem PI.blind {G : Ge} {ws : va_W} {sz : Nat} {av : List Value} : FrameBlind (va_Pc av (PI G ws sz)) := by
  intro a U g mk q
  obtain ⟨q0, q1, qP, qK, qD, qN, qO⟩ := q
  exact ⟨q0, q1, qP, va_K.moved (u := U) (U := U.calling g mk a) (Vm.Alike.refl U.vm) qK, qD, rr_NW.same (s := U) (U := U.calling g mk a) rfl qN, rr_AO.moved (u := U) (U := U.calling g mk a) (Vm.Alike.refl U.vm) qO⟩
def rr_TF (j : Nat) : Int := match j with
  | 0 => 3
  | 1 => 29
  | 2 => 5
  | 3 => 3
  | 5 => 4
  | _ => 1
/-- the row of the first terms, as the class's start left it -/
def ES (tf : Nat) (A : Nat → Prop) (U : State) : Prop := va_Z "RoadRiver" "TERM_FIRST" "[I" (.ref tf) A U U.heap ∧ va_T .int tf 7 (fun j => .int (Int32.ofInt (rr_TF j))) A U U.heap
section CTOR4
variable {X : CX} {G : Ge} {A : Nat → Prop} {cc : ByteArray} {nL n0 n1 : Nat} {own : String} {R0 : Room} {Q : State → Prop} {pc : Nat} {lv lv' : List (Nat × Value)} {st stk : List Value} {ws ws' wr : va_W}
theorem cr_eq (h : ws = ws') (k : CA X G A nL n0 n1 Q pc lv st ws') : CA X G A nL n0 n1 Q pc lv st ws := h ▸ k
theorem cr_eqn {m0 m1 : Nat} (h0 : n0 = m0) (h1 : n1 = m1) (k : CA X G A nL m0 m1 Q pc lv st ws) : CA X G A nL n0 n1 Q pc lv st ws := by
  subst h0 h1
  exact k
theorem cr_permL (hp : ws.Perm ws') (k : CA X G A nL n0 n1 Q pc lv st ws') : CA X G A nL n0 n1 Q pc lv st ws := by
  obtain ⟨p, l, e, R, s, m, args, below, meth, c⟩ := X
  intro H locs ls hP hD hS hl
  exact k H locs ls (hP.pm hp) (hD.pm hp) hS hl
theorem cr_call (hO : CO X G A cc nL own R0) {y : MethodName} {ccY : ByteArray} {nY n ixx mc ms fr lo q : Nat} {As : List Value} {e0 : va_E} {w1 : (Nat → Nat) → va_W}
    (hM : ∀ sz, Met X.2.1 y (.code y ccY nY none :: rr_tbl) { frames := fr, cells := mc, slots := ms, locals := lo } (va_Pc (.ref q :: As) (PI G [(q, e0)] sz)) (QI G w1 [(q, e0)] sz) mc ms (va_A [(q, e0)] sz))
    (mb : rr_MB y ccY nY none n) (hyn : y.name = "<init>") (hin : Cond.instanceMethod y ∈ rr_tbl) (hlink : Cond.methodLink own ixx y ∈ rr_tbl) (hn : As.length = n) (hroom : fr + 1 ≤ R0.frames ∧ 8 + (nY + 11) + lo ≤ R0.locals) (hcs : n0 + mc ≤ R0.cells ∧ n1 + ms ≤ R0.slots) (hcat : (st.map fun v => v.category).sum ≤ 8) (hstk : stk = As.reverse ++ .ref q :: st) (hd : decode cc pc = .ok (.invokespecial ixx, 3))
    (k : ∀ r : Nat → Nat, CA X G A nL (n0 + mc) (n1 + ms) Q (pc + 3) lv st (wr ++ w1 r)) : CA X G A nL n0 n1 Q pc lv stk (wr ++ [(q, e0)]) := by
  obtain ⟨p, l, e, R, s, m, args, below, meth, c⟩ := X
  obtain ⟨hx, hb, hml, hown, hts, hK, hr, hin0, hA, hnw, hao, hR⟩ := hO
  subst hR
  subst hstk
  intro H locs ls hP hD hS hl
  have hC := cr_last wr (q, e0)
  have hPc := hP.sub (ws' := [(q, e0)]) [wr.length] (by simp)
  have hDc := hD.sub (ws' := [(q, e0)]) [wr.length] (va_nd_of (by simp)) hC
  have hFc := va_free (wc := [(q, e0)]) hD hS hA [wr.length] hC
  refine va_callv (va_runI (n := n) (bytes := ccY) (maxL := nY) (nL := nL) (As := As) (rest := st) ⟨hx, hb, hml, hown, hts⟩ (hM H.size) ⟨⟨rfl, rfl, hroom.1, hroom.2, rr_ws hts mb.1, List.mem_cons_self, hts _ mb.1, hts _ mb.2.1, mb.2.2.1, fun sig h => ?_, hts _ hlink⟩, hyn, hts _ hin⟩ ⟨PI.blind, fun U hU hW => ⟨rfl, by rw [hU], by rw [hU]; exact hPc, va_K.moved hW.alike hK, hDc.weaken (fun _ _ _ _ => trivial), hnw.warm hW, hao.moved hW.alike⟩⟩ rfl hn hl.1 rfl (lv_room hcat) hd hcs) hS (fun q _ h => hFc q h) hFc (fun u t H1 locs1 ht hvm hw hB hz1 hk1 hS1 => ?_)
  · have h2 := mb.2.2.2
    rw [h] at h2
    exact (Option.some.inj h2).symm
  · obtain ⟨hP1, hD1⟩ := hB
    rw [ht] at hP1
    obtain ⟨hP2, hD2⟩ := va_join (wr := wr) (wc := [(q, e0)]) (w1 := w1 u) hP hD [wr.length] (List.range wr.length) hC (cr_range wr _) (va_nd_of List.nodup_range) (fun i hi h9 => by
      have h3 := List.mem_range.mp hi
      have h4 := List.mem_singleton.mp h9
      omega) hk1 hFc hP1 hD1
    exact k u H1 locs1 ls hP2 hD2 hS1 hl
theorem cr_callN (hO : CO X G A cc nL own R0) {y : MethodName} {host : String} {ccY : ByteArray} {nY n ixx mc ms fr lo q : Nat} {As : List Value} {e0 : va_E} {w1 : (Nat → Nat) → va_W}
    (hM : ∀ sz, Met X.2.1 y (.code y ccY nY none :: rr_tbl) { frames := fr, cells := mc, slots := ms, locals := lo } (va_Pc (.ref q :: As) (PI G [(q, e0)] sz)) (QI G w1 [(q, e0)] sz) mc ms (va_A [(q, e0)] sz))
    (mb : rr_MB y ccY nY none n) (hyn : y.name = "<init>") (hin : Cond.instanceMethod y ∈ rr_tbl) (hlink : Cond.methodLinkNest own ixx y host ∈ lw_tbl) (hn : As.length = n) (hroom : fr + 1 ≤ R0.frames ∧ 8 + (nY + 11) + lo ≤ R0.locals) (hcs : n0 + mc ≤ R0.cells ∧ n1 + ms ≤ R0.slots) (hcat : (st.map fun v => v.category).sum ≤ 8) (hstk : stk = As.reverse ++ .ref q :: st) (hd : decode cc pc = .ok (.invokespecial ixx, 3))
    (k : ∀ r : Nat → Nat, CA X G A nL (n0 + mc) (n1 + ms) Q (pc + 3) lv st (wr ++ w1 r)) : CA X G A nL n0 n1 Q pc lv stk (wr ++ [(q, e0)]) := by
  obtain ⟨p, l, e, R, s, m, args, below, meth, c⟩ := X
  obtain ⟨hx, hb, hml, hown, hts, hK, hr, hin0, hA, hnw, hao, hR⟩ := hO
  subst hR
  subst hstk
  intro H locs ls hP hD hS hl
  have hC := cr_last wr (q, e0)
  have hPc := hP.sub (ws' := [(q, e0)]) [wr.length] (by simp)
  have hDc := hD.sub (ws' := [(q, e0)]) [wr.length] (va_nd_of (by simp)) hC
  have hFc := va_free (wc := [(q, e0)]) hD hS hA [wr.length] hC
  refine va_callv (va_runIN (host := host) (n := n) (bytes := ccY) (maxL := nY) (nL := nL) (As := As) (rest := st) ⟨hx, hb, hml, hown, hts⟩ (hM H.size) ⟨va_cnB n hts (fun w hw => ?_) rfl rfl rfl (hnw _ hlink rfl) (hts _ mb.2.1) ⟨mb.2.2.1.1, mb.2.2.1.2, mb.2.2.2⟩ hroom, hyn, hts _ hin⟩ ⟨PI.blind, fun U hU hW => ⟨rfl, by rw [hU], by rw [hU]; exact hPc, va_K.moved hW.alike hK, hDc.weaken (fun _ _ _ _ => trivial), hnw.warm hW, hao.moved hW.alike⟩⟩ rfl hn hl.1 rfl (lv_room hcat) hd hcs) hS (fun q _ h => hFc q h) hFc (fun u t H1 locs1 ht hvm hw hB hz1 hk1 hS1 => ?_)
  · have h : w ∈ rr_tbl := (List.mem_cons.mp hw).elim (fun e => by rw [e]; exact mb.1) id
    exact ⟨h, good_of_word (rr_goodw w h)⟩
  · obtain ⟨hP1, hD1⟩ := hB
    rw [ht] at hP1
    obtain ⟨hP2, hD2⟩ := va_join (wr := wr) (wc := [(q, e0)]) (w1 := w1 u) hP hD [wr.length] (List.range wr.length) hC (cr_range wr _) (va_nd_of List.nodup_range) (fun i hi h9 => by
      have h3 := List.mem_range.mp hi
      have h4 := List.mem_singleton.mp h9
      omega) hk1 hFc hP1 hD1
    exact k u H1 locs1 ls hP2 hD2 hS1 hl
/-- what the making of an object of a class asks of the tables -/
def rr_NO (own : String) (ixx ci N : Nat) (fs : List Value) : Prop := ∃ (C : String) (T : u_T) (ty : Nat → FieldType), vwCl[ci]? = some (C, T, N) ∧ (∀ w ∈ u_ws C T N, w ∈ rr_tbl) ∧ (∀ k, k < N → parseFieldDescriptor (T k).2.2.1 = some (ty k)) ∧ Cond.classLink own ixx C ∈ rr_tbl ∧ Cond.instantiable C N ∈ rr_tbl ∧ Cond.initialized C ∈ rr_tbl ∧ ∀ j, j < N → defaultValue (ty j) = vp_V fs j
theorem cr_new (hO : CO X G A cc nL own R0) {ixx ci N : Nat} {fs : List Value} (hN : rr_NO own ixx ci N fs) (hroom : n0 + 1 ≤ R0.cells ∧ n1 + N ≤ R0.slots) (hd : decode cc pc = .ok (.new ixx, 3)) (k : ∀ q : Nat, CA X G A nL (n0 + 1) (n1 + N) Q (pc + 3) lv (.ref q :: st) (ws ++ [(q, .inr (ci, fs))])) : CA X G A nL n0 n1 Q pc lv st ws := by
  obtain ⟨p, l, e, R, s, m, args, below, meth, c⟩ := X
  obtain ⟨hx, hb, hml, hown, hts, hK, hr, hin, hA, hnw, hao, hR⟩ := hO
  subst hR
  obtain ⟨C, T, ty, q1, q2, q3, q4, q5, q6, q7⟩ := hN
  intro H locs ls hP hD hS hl
  exact va_new (ci := ci) (fs := fs) (C := C) (T := T) (N := N) hx hb hts q2 ty q3 hown (hts _ q4) (hts _ q5) (hts _ q6) hK hP hD hS hA q1 q7 hroom.1 hroom.2 hd (fun q H1 hP1 hD1 hS1 => k q H1 locs ls hP1 hD1 hS1 hl)
theorem cr_newq (hO : CO X G A cc nL own R0) {ixx t0 : Nat} {C : String} {z : Int} (N : Nat) (hz : z = (N : Int)) (hN : N ≤ 1000) (ht : (rr_gT G)[t0]? = some (G.2.2.1 t0, .object C)) (hov : ∀ U, rr_AO U → va_AO C U) (hcl : Cond.classLink own ixx C ∈ rr_tbl) (hroom : n0 + 1 ≤ R0.cells ∧ n1 + N ≤ R0.slots) (hd : decode cc pc = .ok (.anewarray ixx, 3)) (k : ∀ q : Nat, CA X G A nL (n0 + 1) (n1 + N) Q (pc + 3) lv (.ref q :: st) (ws ++ [(q, .inl (G.2.2.1 t0, N, .inr (.inr (.inr (.inr (fun _ => none))))))])) : CA X G A nL n0 n1 Q pc lv (vi z :: st) ws := by
  obtain ⟨p, l, e, R, s, m, args, below, meth, c⟩ := X
  obtain ⟨hx, hb, hml, hown, hts, hK, hr, hin, hA, hnw, hao, hR⟩ := hO
  subst hR
  subst hz
  intro H locs ls hP hD hS hl
  refine va_newq (C := C) (N' := N) hx hb hown (hts _ hcl) (hov _ hao) hK hP hD hS hA (fun q => ?_) (by rw [i32_cl (by omega) (by omega), Int.toNat_natCast]) (by omega) hroom.1 hroom.2 hd (fun q cA H1 hK1 hP1 hD1 hS1 => ?_)
  · have := (i32_lt (x := (N : Int)) (y := 0) (by omega) z32_0).mp q
    omega
  · have e1 : cA = G.2.2.1 t0 := gcls (i := t0) hK ht hK1
    subst e1
    exact k q H1 locs ls hP1 hD1 hS1 hl
theorem cr_astq (hO : CO X G A cc nL own R0) {n a v t0 ci : Nat} {i : Int} {f : Nat → Option Nat} {r : vw_C} {vs : List Value} (q0 : Nat) (he : ws[q0]? = some (a, .inl (G.2.2.1 t0, n, .inr (.inr (.inr (.inr f)))))) (ht : (rr_gT G)[t0]? = some (G.2.2.1 t0, .object r.1)) (hv : (v, .inr (ci, vs)) ∈ ws) (hc : vwCl[ci]? = some r) (hn : n ≤ 1000) (hi : ix i n) (j0 : Nat) (hj0 : i.toNat = j0) (hd : decode cc pc = .ok (.aastore, 1)) (k : CA X G A nL n0 n1 Q (pc + 1) lv st (ws.set q0 (a, .inl (G.2.2.1 t0, n, .inr (.inr (.inr (.inr (va_up f j0 (some v))))))))) : CA X G A nL n0 n1 Q pc lv (.ref v :: vi i :: .ref a :: st) ws := by
  obtain ⟨p, l, e, R, s, m, args, below, meth, c⟩ := X
  obtain ⟨hx, hb, hml, hown, hts, hK, hr, hin, hA, hnw, hao, hR⟩ := hO
  subst hj0
  obtain ⟨qk, hqk⟩ := List.mem_iff_getElem?.mp hv
  intro H locs ls hP hD hS hl
  refine va_astq (D := G.1) (cl := vwCl) (tys := rr_gT G) hx hb hK hP hD hS q0 t0 qk ci he ht hqk hc (i32_in hn hi) hd (fun H1 locs1 hP1 hD1 hS1 => ?_)
  rw [i32_cl (by omega) hi.1] at hP1 hD1
  exact k H1 locs1 ls hP1 hD1 hS1 hl
theorem cr_gets (hO : CO X G A cc nL own R0) {tf ixx : Nat} (hE : ES tf A X.2.2.2.2.1) (hlink : Cond.fieldLink own ixx "RoadRiver" "TERM_FIRST" "[I" ∈ rr_tbl) (hd : decode cc pc = .ok (.getstatic ixx, 3)) (k : CA X G A nL n0 n1 Q (pc + 3) lv (.ref tf :: st) ws) : CA X G A nL n0 n1 Q pc lv st ws := by
  obtain ⟨p, l, e, R, s, m, args, below, meth, c⟩ := X
  obtain ⟨hx, hb, hml, hown, hts, hK, hr, hin, hA, hnw, hao, hR⟩ := hO
  intro H locs ls hP hD hS hl
  exact va_gets hx hb hE.1 hS hown (hts _ hlink) (fun _ h => h) hd (k H locs ls hP hD hS hl)
theorem cr_ti (hO : CO X G A cc nL own R0) {tf : Nat} {i : Int} (hE : ES tf A X.2.2.2.2.1) (hi : ix i 7) (j0 : Nat) (hj0 : i.toNat = j0) (hd : decode cc pc = .ok (.iaload, 1)) (k : CA X G A nL n0 n1 Q (pc + 1) lv (vi (rr_TF j0) :: st) ws) : CA X G A nL n0 n1 Q pc lv (vi i :: .ref tf :: st) ws := by
  obtain ⟨p, l, e, R, s, m, args, below, meth, c⟩ := X
  obtain ⟨hx, hb, hml, hown, hts, hK, hr, hin, hA, hnw, hao, hR⟩ := hO
  subst hj0
  intro H locs ls hP hD hS hl
  exact va_ti hx hb hE.2 hS (i32_in (n := 7) (by decide) hi) (by rw [i32_cl (by omega) hi.1]; rfl) hd (k H locs ls hP hD hS hl)
theorem cr_neY (hO : CO X G A cc nL own R0) {x y : Int} (h1 : in32 x) (h2 : in32 y) (h : x ≠ y) {off : Int} (hd : decode cc pc = .ok (.if_icmp .ne off, 3)) (tgt : Nat) (ht : (pc : Int) + off = (tgt : Int)) (k : CA X G A nL n0 n1 Q tgt lv st ws) : CA X G A nL n0 n1 Q pc lv (vi y :: vi x :: st) ws := by
  obtain ⟨p, l, e, R, s, m, args, below, meth, c⟩ := X
  obtain ⟨hx, hb, hml, hown, hts, hK, hr, hin, hA, hnw, hao, hR⟩ := hO
  intro H locs ls hP hD hS hl
  exact lv_icmp_ne hx hb hd ht (fun hc => k H locs ls hP hD hS hl) (fun hc => absurd ((i32_eq h1 h2).mp hc) h)
theorem cr_neN (hO : CO X G A cc nL own R0) {x y : Int} (h1 : in32 x) (h2 : in32 y) (h : x = y) {off : Int} (hd : decode cc pc = .ok (.if_icmp .ne off, 3)) (tgt : Nat) (ht : (pc : Int) + off = (tgt : Int)) (k : CA X G A nL n0 n1 Q (pc + 3) lv st ws) : CA X G A nL n0 n1 Q pc lv (vi y :: vi x :: st) ws := by
  obtain ⟨p, l, e, R, s, m, args, below, meth, c⟩ := X
  obtain ⟨hx, hb, hml, hown, hts, hK, hr, hin, hA, hnw, hao, hR⟩ := hO
  intro H locs ls hP hD hS hl
  exact lv_icmp_ne hx hb hd ht (fun hc => absurd ((i32_eq h1 h2).mpr h) hc) (fun hc => k H locs ls hP hD hS hl)
/-! the object in front -/
theorem cr_put0 (hO : CO X G A cc nL own R0) {ixx ci j a : Nat} {fin : Bool} {ty : FieldType} {v : Value} {fs fs' : List Value} (hF : rr_FW own ixx ci j fin ty) (hfs : fs.set j v = fs') (hn : narrow ty v = v) (hfit : fits ty v = true) (hl9 : j < fs.length) (hd : decode cc pc = .ok (.putfield ixx, 3)) (k : CA X G A nL n0 n1 Q (pc + 3) lv st ((a, .inr (ci, fs')) :: wr)) : CA X G A nL n0 n1 Q pc lv (v :: .ref a :: st) ((a, .inr (ci, fs)) :: wr) := by
  subst hfs
  exact cr_put hO hF 0 rfl hn hfit hl9 hd k
theorem cr_get0 (hO : CO X G A cc nL own R0) {ixx ci j a : Nat} {v : Value} {fs : List Value} (hF : rr_FL own ixx ci j) (hv : fs[j]? = some v) (hd : decode cc pc = .ok (.getfield ixx, 3)) (k : CA X G A nL n0 n1 Q (pc + 3) lv (v :: st) ((a, .inr (ci, fs)) :: wr)) : CA X G A nL n0 n1 Q pc lv (.ref a :: st) ((a, .inr (ci, fs)) :: wr) := cr_get hO hF 0 rfl hv hd k
theorem cr_newI0 (hO : CO X G A cc nL own R0) {z : Int} {o : Nat × va_E} (N : Nat) (hz : z = (N : Int)) (hN : N ≤ 1000) (hroom : n0 + 1 ≤ R0.cells ∧ n1 + N ≤ R0.slots) (hd : decode cc pc = .ok (.newarray .int, 2)) (k : ∀ q : Nat, CA X G A nL (n0 + 1) (n1 + N) Q (pc + 2) lv (.ref q :: st) (o :: (wr ++ [(q, .inl (G.2.2.1 0, N, .inl (fun _ => 0)))]))) : CA X G A nL n0 n1 Q pc lv (vi z :: st) (o :: wr) := cr_newI hO N hz hN aw_int hroom hd k
theorem cr_newL0 (hO : CO X G A cc nL own R0) {z : Int} {o : Nat × va_E} (N : Nat) (hz : z = (N : Int)) (hN : N ≤ 1000) (hroom : n0 + 1 ≤ R0.cells ∧ n1 + N ≤ R0.slots) (hd : decode cc pc = .ok (.newarray .long, 2)) (k : ∀ q : Nat, CA X G A nL (n0 + 1) (n1 + N) Q (pc + 2) lv (.ref q :: st) (o :: (wr ++ [(q, .inl (G.2.2.1 1, N, .inr (.inl (fun _ => 0))))]))) : CA X G A nL n0 n1 Q pc lv (vi z :: st) (o :: wr) := cr_newL hO N hz hN aw_long hroom hd k
theorem cr_newq0 (hO : CO X G A cc nL own R0) {ixx t0 : Nat} {C : String} {z : Int} {o : Nat × va_E} (N : Nat) (hz : z = (N : Int)) (hN : N ≤ 1000) (ht : (rr_gT G)[t0]? = some (G.2.2.1 t0, .object C)) (hov : ∀ U, rr_AO U → va_AO C U) (hcl : Cond.classLink own ixx C ∈ rr_tbl) (hroom : n0 + 1 ≤ R0.cells ∧ n1 + N ≤ R0.slots) (hd : decode cc pc = .ok (.anewarray ixx, 3)) (k : ∀ q : Nat, CA X G A nL (n0 + 1) (n1 + N) Q (pc + 3) lv (.ref q :: st) (o :: (wr ++ [(q, .inl (G.2.2.1 t0, N, .inr (.inr (.inr (.inr (fun _ => none))))))]))) : CA X G A nL n0 n1 Q pc lv (vi z :: st) (o :: wr) := cr_newq hO N hz hN ht hov hcl hroom hd k
theorem cr_new0 (hO : CO X G A cc nL own R0) {ixx ci N : Nat} {o : Nat × va_E} {fs : List Value} (hN : rr_NO own ixx ci N fs) (hroom : n0 + 1 ≤ R0.cells ∧ n1 + N ≤ R0.slots) (hd : decode cc pc = .ok (.new ixx, 3)) (k : ∀ q : Nat, CA X G A nL (n0 + 1) (n1 + N) Q (pc + 3) lv (.ref q :: st) (o :: (wr ++ [(q, .inr (ci, fs))]))) : CA X G A nL n0 n1 Q pc lv st (o :: wr) := cr_new hO hN hroom hd k
theorem cr_call0 (hO : CO X G A cc nL own R0) {y : MethodName} {ccY : ByteArray} {nY n ixx mc ms fr lo q : Nat} {As : List Value} {o : Nat × va_E} {e0 : va_E} {w1 : (Nat → Nat) → va_W}
    (hM : ∀ sz, Met X.2.1 y (.code y ccY nY none :: rr_tbl) { frames := fr, cells := mc, slots := ms, locals := lo } (va_Pc (.ref q :: As) (PI G [(q, e0)] sz)) (QI G w1 [(q, e0)] sz) mc ms (va_A [(q, e0)] sz))
    (mb : rr_MB y ccY nY none n) (hyn : y.name = "<init>") (hin : Cond.instanceMethod y ∈ rr_tbl) (hlink : Cond.methodLink own ixx y ∈ rr_tbl) (hn : As.length = n) (hroom : fr + 1 ≤ R0.frames ∧ 8 + (nY + 11) + lo ≤ R0.locals) (hcs : n0 + mc ≤ R0.cells ∧ n1 + ms ≤ R0.slots) (hcat : (st.map fun v => v.category).sum ≤ 8) (hstk : stk = As.reverse ++ .ref q :: st) (hd : decode cc pc = .ok (.invokespecial ixx, 3))
    (k : ∀ r : Nat → Nat, CA X G A nL (n0 + mc) (n1 + ms) Q (pc + 3) lv st (o :: (wr ++ w1 r))) : CA X G A nL n0 n1 Q pc lv stk (o :: (wr ++ [(q, e0)])) := cr_call (wr := o :: wr) hO hM mb hyn hin hlink hn hroom hcs hcat hstk hd k
theorem cr_callN0 (hO : CO X G A cc nL own R0) {y : MethodName} {host : String} {ccY : ByteArray} {nY n ixx mc ms fr lo q : Nat} {As : List Value} {o : Nat × va_E} {e0 : va_E} {w1 : (Nat → Nat) → va_W}
    (hM : ∀ sz, Met X.2.1 y (.code y ccY nY none :: rr_tbl) { frames := fr, cells := mc, slots := ms, locals := lo } (va_Pc (.ref q :: As) (PI G [(q, e0)] sz)) (QI G w1 [(q, e0)] sz) mc ms (va_A [(q, e0)] sz))
    (mb : rr_MB y ccY nY none n) (hyn : y.name = "<init>") (hin : Cond.instanceMethod y ∈ rr_tbl) (hlink : Cond.methodLinkNest own ixx y host ∈ lw_tbl) (hn : As.length = n) (hroom : fr + 1 ≤ R0.frames ∧ 8 + (nY + 11) + lo ≤ R0.locals) (hcs : n0 + mc ≤ R0.cells ∧ n1 + ms ≤ R0.slots) (hcat : (st.map fun v => v.category).sum ≤ 8) (hstk : stk = As.reverse ++ .ref q :: st) (hd : decode cc pc = .ok (.invokespecial ixx, 3))
    (k : ∀ r : Nat → Nat, CA X G A nL (n0 + mc) (n1 + ms) Q (pc + 3) lv st (o :: (wr ++ w1 r))) : CA X G A nL n0 n1 Q pc lv stk (o :: (wr ++ [(q, e0)])) := cr_callN (wr := o :: wr) hO hM mb hyn hin hlink hn hroom hcs hcat hstk hd k
end CTOR4
/-- a constructor's contract out of its walk, where a static row is read -/
def PE (G : Ge) (ws : va_W) (sz tf : Nat) (U : State) : Prop := PI G ws sz U ∧ ES tf (va_A ws sz) U
theorem ES.to {tf : Nat} {A : Nat → Prop} {s U : State} (h : ES tf A s) (hvm : s.vm.Alike U.vm) (hq : ∀ q : Nat, q < s.heap.size → ¬ A q → U.heap[q]? = s.heap[q]?) : ES tf A U := ⟨(h.1.moved hvm).kept hq, (h.2.moved hvm).kept hq⟩
theorem PE.blind {G : Ge} {ws : va_W} {sz tf : Nat} {av : List Value} : FrameBlind (va_Pc av (PE G ws sz tf)) := by
  intro a U g mk q
  obtain ⟨q0, q1, qE⟩ := q
  exact ⟨q0, (PI.blind (G := G) (ws := ws) (sz := sz) (av := av) a U g mk ⟨q0, q1⟩).2, qE.to (Vm.Alike.refl U.vm) (fun _ _ _ => rfl)⟩
theorem cr_mkE {l : Launch} {G : Ge} {y : MethodName} {cc : ByteArray} {nL sz mc ms tf : Nat} {av : List Value} {ws : va_W} {w1 : (Nat → Nat) → va_W} {R0 : Room} {lv : List (Nat × Value)} (own : String) (hy : plainName y.cls = true) (hcls : y.cls = own) (hnm : y.name = "<init>") (hlen : (lg_sl av).length ≤ nL) (hlv : lv_args 0 av = lv)
    (body : ∀ (X : CX) (A : Nat → Prop), X.2.2.2.2.1.heap.size = sz → va_D A ws → (∀ q, A q → va_A ws sz q) → X.2.2.2.2.2.2.2.2.1.locks = false → CO X G A cc nL own R0 → ES tf A X.2.2.2.2.1 → CA X G A nL 0 0 (MQ X.2.2.2.2.2.2.2.1 (QI G w1 ws sz) X.2.2.2.2.2.2.1 X.2.2.2.2.1 mc ms (va_A ws sz)) 0 lv [] ws) : Met l y (.code y cc nL none :: rr_tbl) R0 (va_Pc av (PE G ws sz tf)) (QI G w1 ws sz) mc ms (va_A ws sz) := by
  refine Met.ofW (cc := cc) (maxL := nL) (ret := none) hy rfl ?_
  intro p e s m args below meth c s₁ B hml hv
  obtain ⟨rfl, ⟨hsz, hP, hK, hD0, hNW, hAO⟩, hE⟩ := hv
  have hts0 := atoms_spec (ws := Cond.code y cc nL none :: rr_tbl) B.pre
  have hown : s.vm.findClass own = some m.cls := by
    rw [← hcls]
    exact findClass_of_methodNamed B.named
  have hin : meth.name = "<init>" := (name_of_methodNamed B.named B.method).1.trans hnm
  have hl := lv_entry av (n := nL) hlen
  rw [hlv] at hl
  rw [lg_entry_eq]
  have hD : va_D (va_A ws sz) ws := hD0.self (sz := sz)
  exact body (p, l, e, _, s, m, av.toArray, below, meth, c) (va_A ws sz) hsz hD (fun _ h => h) B.notSynchronized ⟨B.exec, B.bytes, hml, hown, fun w hw => hts0 w (List.mem_cons_of_mem _ hw), hK, B.returns, hin, fun q h => Or.inr (by rw [← hsz]; exact h), hNW, hAO, rfl⟩ hE s.heap [] _ hP hD va_S.rf hl
