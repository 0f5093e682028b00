/-! CALLS, ENTRY, SWITCHES over the abstract memory -/
theorem rr_goodw : ∀ w ∈ rr_tbl, goodWord w = true := fun _ h => (List.mem_filter.mp h).2
def rr_MB (y : MethodName) (cc : ByteArray) (nL : Nat) (ret : Option FieldType) (n : Nat) : Prop := Cond.code y cc nL ret ∈ rr_tbl ∧ Cond.initialized y.cls ∈ rr_tbl ∧ (y.cls ≠ "java/lang/invoke/MethodHandle" ∧ y.cls ≠ "java/lang/invoke/VarHandle") ∧ (parseMethodDescriptor y.desc).map (fun d => d.parameters.length) = some n
def rr_MI (y : MethodName) : Prop := Cond.instanceMethod y ∈ rr_tbl ∧ Cond.selects y.cls y y ∈ rr_tbl
theorem rr_ws {args : Array Value} {s : State} {y : MethodName} {cc : ByteArray} {nL : Nat} {ret : Option FieldType} (hts : ∀ w ∈ rr_tbl, w.before args s = true) (hc : Cond.code y cc nL ret ∈ rr_tbl) : ∀ w ∈ (Cond.code y cc nL ret :: rr_tbl), ∀ (a' : Array Value) (U : State), s.WarmedH U.vm → w.before a' U = true :=
  pay_in hts (fun w hw => by
    have h : w ∈ rr_tbl := (List.mem_cons.mp hw).elim (fun e => by rw [e]; exact hc) id
    exact ⟨h, good_of_word (rr_goodw w h)⟩)
theorem rr_ST.to {G : Ge} {s U : State} (h : rr_ST G s) (hvm : s.vm.Alike U.vm) (hq : ∀ q : Nat, q < s.heap.size → ¬ rr_A G q → U.heap[q]? = s.heap[q]?) : rr_ST G U :=
  ⟨⟨(h.1.1.moved hvm).kept hq, (h.1.2.moved hvm).kept hq⟩, ⟨(h.2.1.moved hvm).kept hq, (h.2.2.moved hvm).kept hq⟩⟩
theorem rr_blind {G : Ge} {σ : St} {av : List Value} : FrameBlind (va_Pc av (rr_Pre G σ)) := by
  intro a U g mk q
  obtain ⟨q0, qP, qK, qS, qN⟩ := q
  exact ⟨q0, qP, va_K.moved (u := U) (U := U.calling g mk a) (Vm.Alike.refl U.vm) qK, qS.to (Vm.Alike.refl U.vm) (fun _ _ _ => rfl), rr_NW.same (s := U) (U := U.calling g mk a) rfl qN⟩
section CALLG
variable {p : Program} {l : Launch} {e : Env} {R : Room} {s : State} {m : MethodId} {args : Array Value} {below : List Frame} {meth : Method} {c : Code} {H : Heap} {locs : List Loc} {Q : State → Prop} {G : Ge}
theorem rr_callg {rk pc : Nat} {Z : Rt} {a : Array Value} {ls : Array Slot} {st0 rest : List Value} (hr : va_Run p l e R s m args below meth c H locs 0 0 0 0 (F0 m pc ls st0) rest (rr_Q G rk Z a) (rr_A G)) (hS : va_S (rr_A G) s.heap H locs)
    (kk : ∀ (H1 : Heap) (locs1 : List Loc), va_P G.1 vwCl (rr_wd G Z.2) H1 → va_S (rr_A G) s.heap H1 locs1 → W p l e R s m args below meth c H1 locs1 0 0 Q (F0 m (pc + 3) ls ((rr_rv rk Z.1).toList ++ rest))) : W p l e R s m args below meth c H locs 0 0 Q (F0 m pc ls st0) := by
  intro T hT X
  obtain ⟨v, st₀, t, T', L, h0, X', hL, e1, e2, ⟨hv, hp, hz, hk⟩, st⟩ := hr T hT X
  cases hv
  rw [h0] at hz hk
  obtain ⟨t2, a1, b1⟩ := kk T'.heap (locs ++ L) (by rw [e1]; exact hp)
    ⟨Nat.le_trans hS.1 (by rw [e1]; exact hz), fun q h1 h2 => by rw [e1, hk q (Nat.lt_of_lt_of_le h1 hS.1) h2]; exact hS.2.1 q h1 h2, fun q hq => by
      rcases List.mem_append.mp hq with h | h
      · exact hS.2.2 q h
      · exact hL q h⟩ T' rfl X'
  exact ⟨t2, st t2 a1, b1⟩
end CALLG
section CALLR
variable {X : CX} {G : Ge} {cc : ByteArray} {nL rk a b pc : Nat} {own : String} {ret : Option FieldType} {Z : Rt} {lv lv' : List (Nat × Value)} {st stk : List Value} {σ : St} {y : MethodName} {ccY : ByteArray} {nY aY bY rkY n ixx : Nat} {retY : Option FieldType} {o : Option Rt} {K : Int → St → Option Rt}
theorem rr_OK.g (hO : rr_OK X G cc nL own ret a b) : rr_GD G := by
  obtain ⟨p, l, e, R, s, m, args, below, meth, c⟩ := X
  exact hO.2.2.2.2.2.2.1
theorem rr_pre_of {s : State} {G : Ge} {σ : St} {H : Heap} {locs : List Loc} {av : List Value} (hP : va_P G.1 vwCl (rr_wd G σ) H) (hK : va_K G.1 vwCl (rr_gT G) s) (hst : rr_ST G s) (hnw : rr_NW s) (hS : va_S (rr_A G) s.heap H locs) : ∀ U : State, U.heap = H → s.WarmedH U.vm → va_Pc av (rr_Pre G σ) av.toArray U := by
  intro U hU hW
  refine ⟨rfl, by rw [hU]; exact hP, va_K.moved hW.alike hK, hst.to hW.alike (fun q h1 h2 => by rw [hU]; exact hS.2.1 q h1 h2), hnw.warm hW⟩
theorem at_callV (hO : rr_OK X G cc nL own ret a b) {k0 ci : Nat} {fs : List (Nat × Nat)} {As : List Value} (hM : rr_Ct X.2.1 G y ccY nY retY aY bY rkY (vr G k0 :: As) σ o) (mb : rr_MB y ccY nY retY n) (mi : rr_MI y) (hlink : Cond.methodLink own ixx y ∈ rr_tbl) (ht : rr_TB[k0]? = some (.inr (.inr (ci, fs)))) (hcl : ∃ q, vwCl[ci]? = some q ∧ q.1 = y.cls) (hn : As.length = n) (hroom : aY + 1 ≤ a ∧ 8 + (nY + 11) + bY ≤ b) (hcat : (st.map fun v => v.category).sum ≤ 8) (hstk : stk = As.reverse ++ vr G k0 :: st) (hd : decode cc pc = .ok (.invokevirtual ixx, 3)) (pc' : Nat) (hp : pc + 3 = pc') (hf : cll o K = some Z)
    (kk : ∀ (r : Int) (σ' : St), K r σ' = some Z → rr_AT X G nL rk Z pc' lv ((rr_rv rkY r).toList ++ st) σ') : rr_AT X G nL rk Z pc lv stk σ := by
  obtain ⟨p, l, e, R, s, m, args, below, meth, c⟩ := X
  obtain ⟨hx, hb, hml, hown, hts, hK, hG, hr, hlk, hst, hnw, hR⟩ := hO
  subst hp
  subst hstk
  subst hR
  obtain ⟨⟨r, σ'⟩, ho, hf⟩ := cll_some hf
  intro H locs ls hP hS hl
  obtain ⟨⟨C, T, N⟩, hq1, hq2⟩ := hcl
  have hrc := va_recv hK hP hq1 (rr_wd_get (G := G) (σ := σ) ht)
  rw [hq2] at hrc
  refine rr_callg (Z := (r, σ')) (va_runV (C := y.cls) (n := n) (bytes := ccY) (maxL := nY) (ret := retY) (nL := nL) (As := As) (rest := st) ⟨hx, hb, hml, hown, hts⟩ (hM _ ho) ⟨⟨rfl, rfl, hroom.1, hroom.2, rr_ws hts mb.1, List.mem_cons_self, hts _ mb.1, hts _ mb.2.1, mb.2.2.1, fun sig h => ?_, hts _ hlink⟩, hts _ mi.1, hts _ mi.2⟩ ⟨rr_blind, hrc, rr_pre_of hP hK hst hnw hS⟩ rfl hn hl.1 rfl (lv_room hcat) hd ⟨Nat.zero_le _, Nat.zero_le _⟩) hS (fun H1 locs1 hP1 hS1 => ?_)
  · have h2 := mb.2.2.2
    rw [h] at h2
    exact (Option.some.inj h2).symm
  · exact kk r σ' hf H1 locs1 ls hP1 hS1 hl
theorem at_callS (hO : rr_OK X G cc nL own ret a b) {As : List Value} (hM : rr_Ct X.2.1 G y ccY nY retY aY bY rkY As σ o) (mb : rr_MB y ccY nY retY n) (mi : Cond.static y ∈ rr_tbl) (hlink : Cond.methodLink own ixx y ∈ rr_tbl) (hn : As.length = n) (hroom : aY + 1 ≤ a ∧ 8 + (nY + 11) + bY ≤ b) (hcat : (st.map fun v => v.category).sum ≤ 8) (hstk : stk = As.reverse ++ st) (hd : decode cc pc = .ok (.invokestatic ixx, 3)) (pc' : Nat) (hp : pc + 3 = pc') (hf : cll o K = some Z)
    (kk : ∀ (r : Int) (σ' : St), K r σ' = some Z → rr_AT X G nL rk Z pc' lv ((rr_rv rkY r).toList ++ st) σ') : rr_AT X G nL rk Z pc lv stk σ := by
  obtain ⟨p, l, e, R, s, m, args, below, meth, c⟩ := X
  obtain ⟨hx, hb, hml, hown, hts, hK, hG, hr, hlk, hst, hnw, hR⟩ := hO
  subst hp
  subst hstk
  subst hR
  obtain ⟨⟨r, σ'⟩, ho, hf⟩ := cll_some hf
  intro H locs ls hP hS hl
  refine rr_callg (Z := (r, σ')) (va_runS (n := n) (bytes := ccY) (maxL := nY) (ret := retY) (nL := nL) (As := As) (rest := st) ⟨hx, hb, hml, hown, hts⟩ (hM _ ho) ⟨⟨rfl, rfl, hroom.1, hroom.2, rr_ws hts mb.1, List.mem_cons_self, hts _ mb.1, hts _ mb.2.1, mb.2.2.1, fun sig h => ?_, hts _ hlink⟩, hts _ mi⟩ ⟨rr_blind, rr_pre_of hP hK hst hnw hS⟩ rfl hn hl.1 rfl (lv_room hcat) hd ⟨Nat.zero_le _, Nat.zero_le _⟩) hS (fun H1 locs1 hP1 hS1 => ?_)
  · have h2 := mb.2.2.2
    rw [h] at h2
    exact (Option.some.inj h2).symm
  · exact kk r σ' hf H1 locs1 ls hP1 hS1 hl
theorem at_callSN (hO : rr_OK X G cc nL own ret a b) {host : String} {As : List Value} (hM : rr_Ct X.2.1 G y ccY nY retY aY bY rkY As σ o) (mb : rr_MB y ccY nY retY n) (mi : Cond.static y ∈ rr_tbl) (hlink : Cond.methodLinkNest own ixx y host ∈ lw_tbl) (hn : As.length = n) (hroom : aY + 1 ≤ a ∧ 8 + (nY + 11) + bY ≤ b) (hcat : (st.map fun v => v.category).sum ≤ 8) (hstk : stk = As.reverse ++ st) (hd : decode cc pc = .ok (.invokestatic ixx, 3)) (pc' : Nat) (hp : pc + 3 = pc') (hf : cll o K = some Z)
    (kk : ∀ (r : Int) (σ' : St), K r σ' = some Z → rr_AT X G nL rk Z pc' lv ((rr_rv rkY r).toList ++ st) σ') : rr_AT X G nL rk Z pc lv stk σ := by
  obtain ⟨p, l, e, R, s, m, args, below, meth, c⟩ := X
  obtain ⟨hx, hb, hml, hown, hts, hK, hG, hr, hlk, hst, hnw, hR⟩ := hO
  subst hp
  subst hstk
  subst hR
  obtain ⟨⟨r, σ'⟩, ho, hf⟩ := cll_some hf
  intro H locs ls hP hS hl
  refine rr_callg (Z := (r, σ')) (va_runSN (host := host) (n := n) (bytes := ccY) (maxL := nY) (ret := retY) (nL := nL) (As := As) (rest := st) ⟨hx, hb, hml, hown, hts⟩ (hM _ ho) ⟨va_cnB n hts (fun w hw => ?_) rfl rfl rfl (hnw _ hlink rfl) (hts _ mb.2.1) ⟨mb.2.2.1.1, mb.2.2.1.2, mb.2.2.2⟩ hroom, hts _ mi, trivial⟩ ⟨rr_blind, rr_pre_of hP hK hst hnw hS⟩ rfl hn hl.1 rfl (lv_room hcat) hd ⟨Nat.zero_le _, Nat.zero_le _⟩) hS (fun H1 locs1 hP1 hS1 => ?_)
  · have h : w ∈ rr_tbl := (List.mem_cons.mp hw).elim (fun e => by rw [e]; exact mb.1) id
    exact ⟨h, good_of_word (rr_goodw w h)⟩
  · exact kk r σ' hf H1 locs1 ls hP1 hS1 hl
theorem at_sub (hl1 : ∀ ls, lv_has ls nL lv → lv_has ls nL lv') (k : rr_AT X G nL rk Z pc lv' st σ) : rr_AT X G nL rk Z pc lv st σ := by
  obtain ⟨p, l, e, R, s, m, args, below, meth, c⟩ := X
  intro H locs ls hP hS hl
  exact k H locs ls hP hS (hl1 ls hl)
theorem at_tsOut (hO : rr_OK X G cc nL own ret a b) {x : Int} (h1 : in32 x) {dflt lo hi : Int} {offs : Array Int} {len : Nat} (hd : decode cc pc = .ok (.tableswitch dflt lo hi offs, len)) (h : x < lo ∨ hi < x) (tgt : Nat) (htg : (pc : Int) + dflt = (tgt : Int)) (k : rr_AT X G nL rk Z tgt lv st σ) : rr_AT X G nL rk Z pc lv (vi x :: st) σ := by
  obtain ⟨p, l, e, R, s, m, args, below, meth, c⟩ := X
  obtain ⟨hx, hb, hml, hown, hts, hK, hG, hr, hlk, hst, hnw, hR⟩ := hO
  intro H locs ls hP hS hl
  exact lv_tableOut hx hb hd (by rw [i32_rt h1]; exact h) htg (k H locs ls hP hS hl)
theorem at_tsIn (hO : rr_OK X G cc nL own ret a b) {x : Int} {dflt lo hi off : Int} {offs : Array Int} {len : Nat} (j : Nat) (hd : decode cc pc = .ok (.tableswitch dflt lo hi offs, len)) (hxj : x = lo + j) (h1 : in32 (lo + j)) (hj : (j : Int) ≤ hi - lo) (ho : offs[j]? = some off) (tgt : Nat) (htg : (pc : Int) + off = (tgt : Int)) (k : rr_AT X G nL rk Z tgt lv st σ) : rr_AT X G nL rk Z pc lv (vi x :: st) σ := by
  obtain ⟨p, l, e, R, s, m, args, below, meth, c⟩ := X
  obtain ⟨hx, hb, hml, hown, hts, hK, hG, hr, hlk, hst, hnw, hR⟩ := hO
  intro H locs ls hP hS hl
  subst hxj
  exact lv_tableIn hx hb hd (by rw [i32_rt h1]; omega) (by rw [i32_rt h1]; omega) (by rw [i32_rt h1, show (lo + (j : Int) - lo).toNat = j by omega]; exact ho) htg (k H locs ls hP hS hl)
theorem at_copy (hO : rr_OK X G cc nL own ret a b) {k0 k1 n0 n1 : Nat} {sp dp n : Int} (hlink : Cond.methodLink own ixx arraycopyName ∈ rr_tbl) (hnat : Cond.native arraycopyName ∈ rr_tbl) (hstat : Cond.static arraycopyName ∈ rr_tbl) (hini : Cond.initialized "java/lang/System" ∈ rr_tbl) (ht0 : rr_TB[k0]? = some (.inl (0, n0))) (ht1 : rr_TB[k1]? = some (.inl (0, n1))) (hn0 : n0 ≤ 1000) (hn1 : n1 ≤ 1000) (h1 : 0 ≤ sp) (h2 : 0 ≤ dp) (h3 : 0 ≤ n) (h4 : sp + n ≤ n0) (h5 : dp + n ≤ n1) (hroom : 1 ≤ a ∧ (st.map fun v => v.category).sum + (nativeFrameWords "java/lang/System" "arraycopy" 5 + 11) ≤ b) (hd : decode cc pc = .ok (.invokestatic ixx, 3)) (pc' : Nat) (hp : pc + 3 = pc') (k : rr_AT X G nL rk Z pc' lv st (scp σ k0 sp.toNat k1 dp.toNat n.toNat)) : rr_AT X G nL rk Z pc lv (vi n :: vi dp :: vr G k1 :: vi sp :: vr G k0 :: st) σ := by
  obtain ⟨p, l, e, R, s, m, args, below, meth, c⟩ := X
  obtain ⟨hx, hb, hml, hown, hts, hK, hG, hr, hlk, hst, hnw, hR⟩ := hO
  subst hp
  subst hR
  intro H locs ls hP hS hl
  have g0 := rr_wd_get (G := G) (σ := σ) ht0
  have g1 := rr_wd_get (G := G) (σ := σ) ht1
  have nn : ∀ z : Int, 0 ≤ z → z ≤ 1000 → ¬ Int32.ofInt z < 0 := fun z q1 q2 q => by
    have := (i32_lt (x := z) (y := 0) (by omega) z32_0).mp q
    omega
  have ee := rr_wd_set (G := G) (σ := σ) (σ' := scp σ k0 sp.toNat k1 dp.toNat n.toNat) ht1 (fun j hj => scp_ne j hj)
  refine va_copyi (D := G.1) (cl := vwCl) (tys := rr_gT G) (ty := .int) hx hb (hml.trans hl.1.symm) hown (hts _ hlink) (hts _ hnat) (hts _ hstat) (hts _ hini) hK hP (rr_D hG) hS k0 k1 0 0 g0 g1 rfl rfl rfl (nn sp h1 (by omega)) (nn dp h2 (by omega)) (nn n h3 (by omega)) (by rw [i32_cl (by omega) h1, i32_cl (by omega) h3]; omega) (by rw [i32_cl (by omega) h2, i32_cl (by omega) h3]; omega) (fun _ _ => rfl) hroom.1 hroom.2 hd (fun H1 locs1 hP1 hD1 hS1 => ?_)
  refine k H1 locs1 ls ?_ hS1 hl
  rw [i32_cl (by omega) h1, i32_cl (by omega) h2, i32_cl (by omega) h3] at hP1
  rw [← ee]
  have e2 : rr_kE G (scp σ k0 sp.toNat k1 dp.toNat n.toNat k1) (.inl (0, n1)) = .inl (G.2.2.1 0, n1, .inl (va_cpy (fun j => Int32.ofInt (σ k0 j)) (fun j => Int32.ofInt (σ k1 j)) sp.toNat dp.toNat n.toNat)) := by
    show (Sum.inl (G.2.2.1 0, n1, Sum.inl (fun j => Int32.ofInt (scp σ k0 sp.toNat k1 dp.toNat n.toNat k1 j))) : va_E) = _
    refine congrArg (fun f => (Sum.inl (G.2.2.1 0, n1, Sum.inl f) : va_E)) (funext fun j => ?_)
    unfold scp va_cpy
    by_cases q : dp.toNat ≤ j ∧ j < dp.toNat + n.toNat
    · rw [if_pos ⟨rfl, q⟩, if_pos q]
    · rw [if_neg (fun z => q z.2), if_neg q]
  rw [e2]
  exact hP1
end CALLR
/-- A CONTRACT out of the walk from the entry -/
theorem rr_mk {l : Launch} {G : Ge} {y : MethodName} {cc : ByteArray} {nL : Nat} {ret : Option FieldType} {a b rk : Nat} {av : List Value} {σ : St} {o : Option Rt} {lv : List (Nat × Value)} (own : String) (hy : plainName y.cls = true) (hcls : y.cls = own) (hG : rr_GD G) (hlen : (lg_sl av).length ≤ nL) (hlv : lv_args 0 av = lv)
    (body : ∀ (X : CX) (Z : Rt), rr_OK X G cc nL own ret a b → o = some Z → rr_AT X G nL rk Z 0 lv [] σ) : rr_Ct l G y cc nL ret a b rk av σ o := by
  intro Z hZ
  refine Met.ofW (cc := cc) (maxL := nL) (ret := ret) hy rfl ?_
  intro p e s m args below meth c s₁ B hml hv
  obtain ⟨rfl, hP, hK, hST, hNW⟩ := hv
  have hts0 := atoms_spec (ws := Cond.code y cc nL ret :: rr_tbl) B.pre
  have hown : s.vm.findClass own = some m.cls := by
    rw [← hcls]
    exact findClass_of_methodNamed B.named
  have hl := lv_entry av (n := nL) hlen
  rw [hlv] at hl
  rw [lg_entry_eq]
  exact body (p, l, e, _, s, m, av.toArray, below, meth, c) Z ⟨B.exec, B.bytes, hml, hown, fun w hw => hts0 w (List.mem_cons_of_mem _ hw), hK, hG, B.returns, B.notSynchronized, hST, hNW, rfl⟩ hZ s.heap [] _ hP va_S.rf hl
