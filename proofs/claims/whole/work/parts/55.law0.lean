/-! THE LAW'S LOOP: the walk with a world of both sides -/
def LA (X : CX) (G : Ge) (n0 n1 : Nat) (Q : State → Prop) (pc : Nat) (lv : List (Nat × Value)) (st : List Value) (σ : St) : Prop := match X with
  | (p, l, e, R, s, m, args, below, meth, c) => ∀ (H : Heap) (locs : List Loc) (ls : Array Slot), va_P G.1 vwCl (rr_wd G σ) H → va_S (rr_A G) s.heap H locs → lv_has ls 4 lv → W p l e R s m args below meth c H locs n0 n1 Q (F0 m pc ls st)
def LO (X : CX) (G : Ge) (b L : Nat) (xs : Nat → Int32) : Prop := match X with
  | (p, l, e, R, s, m, args, below, meth, c) => p.tables.exec = Jvm.exec ∧ c.code = cL_law ∧ c.maxLocals = 4 ∧ s.vm.findClass RL = some m.cls ∧ (∀ w ∈ rr_tbl, w.before args s = true) ∧ va_K G.1 vwCl (rr_gT G) s ∧ rr_GD G ∧ rr_ST G s ∧ rr_NW s ∧ (va_X b L xs s s.heap ∧ b < s.heap.size ∧ ¬ rr_A G b) ∧ R = room_1
def lvs (G : Ge) (b : Nat) (i : Int) : List (Nat × Value) := [(3, vi i), (2, vr G 58), (1, vr G 0), (0, .ref b)]
theorem i32_in2 {i : Int} {n : Nat} (hn : n ≤ 3584) (h : 0 ≤ i ∧ i < n) : vp_in (Int32.ofInt i) n := by
  rw [vp_in_iff, i32_rt (by omega)]
  exact h
def xz (xs : Nat → Int32) (i : Nat) : Int := (xs i).toInt
theorem xz_32 {xs : Nat → Int32} {i : Nat} : in32 (xz xs i) := in32_of _
section LAW
variable {X : CX} {G : Ge} {n0 n1 : Nat} {Q : State → Prop} {b L pc : Nat} {xs : Nat → Int32} {lv lv' : List (Nat × Value)} {st stk : List Value} {σ : St}
theorem LO.g (hO : LO X G b L xs) : rr_GD G := by
  obtain ⟨p, l, e, R, s, m, args, below, meth, c⟩ := X
  exact hO.2.2.2.2.2.2.1
theorem la_obj (hO : LO X G b L xs) {q : Fin 4} (j : Nat) {i x : Nat} (hi : (q : Nat) = i) (hj : lv[j]? = some (i, vr G x)) (hd : decode cL_law pc = .ok (.aload_n q, 1)) (k : LA X G n0 n1 Q (pc + 1) lv (vr G x :: st) σ) : LA X G n0 n1 Q pc lv st σ := by
  obtain ⟨p, l, e, R, s, m, args, below, meth, c⟩ := X
  obtain ⟨hx, hb, hml, hown, hts, hK, hG, hst, hnw, hX, hR⟩ := hO
  intro H locs ls hP hS hl
  refine lv_aload_n hx hb hd hi (lv_at hl j hj) ?_
  exact k H locs ls hP hS hl
theorem la_scr (hO : LO X G b L xs) {q : Fin 4} (j : Nat) {i x : Nat} (hi : (q : Nat) = i) (hj : lv[j]? = some (i, .ref x)) (hd : decode cL_law pc = .ok (.aload_n q, 1)) (k : LA X G n0 n1 Q (pc + 1) lv (.ref x :: st) σ) : LA X G n0 n1 Q pc lv st σ := by
  obtain ⟨p, l, e, R, s, m, args, below, meth, c⟩ := X
  obtain ⟨hx, hb, hml, hown, hts, hK, hG, hst, hnw, hX, hR⟩ := hO
  intro H locs ls hP hS hl
  refine lv_aload_n hx hb hd hi (lv_at hl j hj) ?_
  exact k H locs ls hP hS hl
theorem la_int (hO : LO X G b L xs) {q : Fin 4} (j : Nat) {i : Nat} {x : Int} (hi : (q : Nat) = i) (hj : lv[j]? = some (i, vi x)) (hd : decode cL_law pc = .ok (.iload_n q, 1)) (k : LA X G n0 n1 Q (pc + 1) lv (vi x :: st) σ) : LA X G n0 n1 Q pc lv st σ := by
  obtain ⟨p, l, e, R, s, m, args, below, meth, c⟩ := X
  obtain ⟨hx, hb, hml, hown, hts, hK, hG, hst, hnw, hX, hR⟩ := hO
  intro H locs ls hP hS hl
  refine lv_iload_n hx hb hd hi (lv_at hl j hj) ?_
  exact k H locs ls hP hS hl
theorem la_con (hO : LO X G b L xs) {n : Int} (hd : decode cL_law pc = .ok (.iconst n, 1)) (k : LA X G n0 n1 Q (pc + 1) lv (vi n :: st) σ) : LA X G n0 n1 Q pc lv st σ := by
  obtain ⟨p, l, e, R, s, m, args, below, meth, c⟩ := X
  obtain ⟨hx, hb, hml, hown, hts, hK, hG, hst, hnw, hX, hR⟩ := hO
  intro H locs ls hP hS hl
  refine lv_iconst hx hb hd rfl ?_
  exact k H locs ls hP hS hl
theorem la_bip (hO : LO X G b L xs) {n : Int} (hv : (Int8.ofInt n).toInt32 = Int32.ofInt n) (hd : decode cL_law pc = .ok (.bipush n, 2)) (k : LA X G n0 n1 Q (pc + 2) lv (vi n :: st) σ) : LA X G n0 n1 Q pc lv st σ := by
  obtain ⟨p, l, e, R, s, m, args, below, meth, c⟩ := X
  obtain ⟨hx, hb, hml, hown, hts, hK, hG, hst, hnw, hX, hR⟩ := hO
  intro H locs ls hP hS hl
  refine lv_bipush hx hb hd hv ?_
  exact k H locs ls hP hS hl
theorem la_add (hO : LO X G b L xs) {x y : Int} (hd : decode cL_law pc = .ok (.iadd, 1)) (k : LA X G n0 n1 Q (pc + 1) lv (vi (x + y) :: st) σ) : LA X G n0 n1 Q pc lv (vi y :: vi x :: st) σ := by
  obtain ⟨p, l, e, R, s, m, args, below, meth, c⟩ := X
  obtain ⟨hx, hb, hml, hown, hts, hK, hG, hst, hnw, hX, hR⟩ := hO
  intro H locs ls hP hS hl
  refine lv_iadd hx hb hd ?_
  rw [← Int32.ofInt_add]
  exact k H locs ls hP hS hl
theorem la_sub (hO : LO X G b L xs) {x y : Int} (hd : decode cL_law pc = .ok (.isub, 1)) (k : LA X G n0 n1 Q (pc + 1) lv (vi (x - y) :: st) σ) : LA X G n0 n1 Q pc lv (vi y :: vi x :: st) σ := by
  obtain ⟨p, l, e, R, s, m, args, below, meth, c⟩ := X
  obtain ⟨hx, hb, hml, hown, hts, hK, hG, hst, hnw, hX, hR⟩ := hO
  intro H locs ls hP hS hl
  refine lv_isub hx hb hd ?_
  rw [← Int32.ofInt_sub]
  exact k H locs ls hP hS hl
theorem la_len (hO : LO X G b L xs) (hL : L ≤ 3584) (hd : decode cL_law pc = .ok (.arraylength, 1)) (k : LA X G n0 n1 Q (pc + 1) lv (vi L :: st) σ) : LA X G n0 n1 Q pc lv (.ref b :: st) σ := by
  obtain ⟨p, l, e, R, s, m, args, below, meth, c⟩ := X
  obtain ⟨hx, hb, hml, hown, hts, hK, hG, hst, hnw, hX, hR⟩ := hO
  intro H locs ls hP hS hl
  refine va_slen hx hb hX.1 hX.2.1 hX.2.2 hS hd ?_
  rw [show Int32.ofNat L = Int32.ofInt (L : Int) from (zN L).symm]
  exact k H locs ls hP hS hl
theorem la_ld (hO : LO X G b L xs) (hL : L ≤ 3584) {i : Int} (j : Nat) (hi : i = (j : Int)) (hj : j < L) (hd : decode cL_law pc = .ok (.iaload, 1)) (k : LA X G n0 n1 Q (pc + 1) lv (vi (xz xs j) :: st) σ) : LA X G n0 n1 Q pc lv (vi i :: .ref b :: st) σ := by
  obtain ⟨p, l, e, R, s, m, args, below, meth, c⟩ := X
  obtain ⟨hx, hb, hml, hown, hts, hK, hG, hst, hnw, hX, hR⟩ := hO
  intro H locs ls hP hS hl
  subst hi
  have k2 := k H locs ls hP hS hl
  refine va_sld hx hb hX.1 hX.2.1 hX.2.2 hS (i32_in2 hL (by omega)) hd ?_
  rw [i32_cl (by omega) (by omega), Int.toNat_natCast, show xs j = Int32.ofInt (xz xs j) from (Int32.ofInt_toInt _).symm]
  exact k2
/-- one cell of the script, i + n -/
theorem la_arg (hO : LO X G b L xs) (hL : L ≤ 3584) {i : Nat} (n : Nat) (hi : i + n < L) (hd0 : decode cL_law pc = .ok (.aload_n 0, 1)) (hd1 : decode cL_law (pc + 1) = .ok (.iload_n 3, 1)) (hd2 : decode cL_law (pc + 2) = .ok (.iconst n, 1)) (hd3 : decode cL_law (pc + 3) = .ok (.iadd, 1)) (hd4 : decode cL_law (pc + 4) = .ok (.iaload, 1)) (k : LA X G n0 n1 Q (pc + 5) (lvs G b i) (vi (xz xs (i + n)) :: st) σ) : LA X G n0 n1 Q pc (lvs G b i) st σ := by
  refine la_scr hO 3 (i := 0) rfl rfl hd0 ?_
  refine la_int hO 0 (i := 3) rfl rfl hd1 ?_
  refine la_con hO hd2 ?_
  refine la_add hO hd3 ?_
  exact la_ld hO hL (i + n) (by omega) hi hd4 k
theorem la_arg6 (hO : LO X G b L xs) (hL : L ≤ 3584) {i : Nat} (hi : i + 6 < L) (hd0 : decode cL_law pc = .ok (.aload_n 0, 1)) (hd1 : decode cL_law (pc + 1) = .ok (.iload_n 3, 1)) (hd2 : decode cL_law (pc + 2) = .ok (.bipush 6, 2)) (hd3 : decode cL_law (pc + 4) = .ok (.iadd, 1)) (hd4 : decode cL_law (pc + 5) = .ok (.iaload, 1)) (k : LA X G n0 n1 Q (pc + 6) (lvs G b i) (vi (xz xs (i + 6)) :: st) σ) : LA X G n0 n1 Q pc (lvs G b i) st σ := by
  refine la_scr hO 3 (i := 0) rfl rfl hd0 ?_
  refine la_int hO 0 (i := 3) rfl rfl hd1 ?_
  refine la_bip hO (by decide) hd2 ?_
  refine la_add hO hd3 ?_
  exact la_ld hO hL (i + 6) (by omega) hi hd4 k
theorem la_callg {p : Program} {l : Launch} {e : Env} {R : Room} {s : State} {m : MethodId} {args : Array Value} {below : List Frame} {meth : Method} {c : Code} {H : Heap} {locs : List Loc} {rk : Nat} {Z : Rt} {a : Array Value} {ls : Array Slot} {st0 rest : List Value} (hr : va_Run p l e R s m args below meth c H locs n0 n1 0 0 (F0 m pc ls st0) rest (rr_Q G rk Z a) (rr_A G)) (hS : va_S (rr_A G) s.heap H locs)
    (kk : ∀ (H1 : Heap) (locs1 : List Loc), va_P G.1 vwCl (rr_wd G Z.2) H1 → va_S (rr_A G) s.heap H1 locs1 → W p l e R s m args below meth c H1 locs1 n0 n1 Q (F0 m (pc + 3) ls ((rr_rv rk Z.1).toList ++ rest))) : W p l e R s m args below meth c H locs n0 n1 Q (F0 m pc ls st0) := by
  intro T hT X
  obtain ⟨v, st₀, t, T', L, h0, X', hL, e1, e2, ⟨hv, hp, hz, hk⟩, st⟩ := hr T hT X
  cases hv
  rw [h0] at hz hk
  obtain ⟨t2, a1, b1⟩ := kk T'.heap (locs ++ L) (by rw [e1]; exact hp)
    ⟨Nat.le_trans hS.1 (by rw [e1]; exact hz), fun q h1 h2 => by rw [e1, hk q (Nat.lt_of_lt_of_le h1 hS.1) h2]; exact hS.2.1 q h1 h2, fun q hq => by
      rcases List.mem_append.mp hq with h | h
      · exact hS.2.2 q h
      · exact hL q h⟩ T' rfl X'
  exact ⟨t2, st t2 a1, b1⟩
theorem la_call (hO : LO X G b L xs) (hc : n0 ≤ 600000 ∧ n1 ≤ 7302249) {y : MethodName} {ccY : ByteArray} {nY aY bY rkY n ixx : Nat} {retY : Option FieldType} {o : Option Rt} {k0 ci : Nat} {fs : List (Nat × Nat)} {As : List Value} (hM : rr_Ct X.2.1 G y ccY nY retY aY bY rkY (vr G k0 :: As) σ o) (mb : rr_MB y ccY nY retY n) (mi : rr_MI y) (hlink : Cond.methodLink RL ixx y ∈ rr_tbl) (ht : rr_TB[k0]? = some (.inr (.inr (ci, fs)))) (hcl : ∃ q, vwCl[ci]? = some q ∧ q.1 = y.cls) (hn : As.length = n) (hroom : aY + 1 ≤ 14 ∧ 8 + (nY + 11) + bY ≤ 606) (hcat : (st.map fun v => v.category).sum ≤ 8) (hstk : stk = As.reverse ++ vr G k0 :: st) (hd : decode cL_law pc = .ok (.invokevirtual ixx, 3)) {r : Int} {σ' : St} (ho : o = some (r, σ'))
    (kk : LA X G n0 n1 Q (pc + 3) lv ((rr_rv rkY r).toList ++ st) σ') : LA X G n0 n1 Q pc lv stk σ := by
  obtain ⟨p, l, e, R, s, m, args, below, meth, c⟩ := X
  obtain ⟨hx, hb, hml, hown, hts, hK, hG, hst, hnw, hX, hR⟩ := hO
  subst hstk
  subst hR
  intro H locs ls hP hS hl
  obtain ⟨⟨C, T, N⟩, hq1, hq2⟩ := hcl
  have hrc := va_recv hK hP hq1 (rr_wd_get (G := G) (σ := σ) ht)
  rw [hq2] at hrc
  refine la_callg (Z := (r, σ')) (va_runV (C := y.cls) (n := n) (bytes := ccY) (maxL := nY) (ret := retY) (nL := 4) (As := As) (rest := st) ⟨hx, hb, hml, hown, hts⟩ (hM _ ho) ⟨⟨rfl, rfl, hroom.1, hroom.2, rr_ws hts mb.1, List.mem_cons_self, hts _ mb.1, hts _ mb.2.1, mb.2.2.1, fun sig h => ?_, hts _ hlink⟩, hts _ mi.1, hts _ mi.2⟩ ⟨rr_blind, hrc, rr_pre_of hP hK hst hnw hS⟩ rfl hn hl.1 rfl (lv_room hcat) hd hc) hS (fun H1 locs1 hP1 hS1 => ?_)
  · have h2 := mb.2.2.2
    rw [h] at h2
    exact (Option.some.inj h2).symm
  · exact kk H1 locs1 ls hP1 hS1 hl
theorem la_eqI (hO : LO X G b L xs) {x : Int} {off : Int} (hd : decode cL_law pc = .ok (.if_icmp .eq off, 3)) (tgt : Nat) (ht : (pc : Int) + off = (tgt : Int)) (k : LA X G n0 n1 Q tgt lv st σ) : LA X G n0 n1 Q pc lv (vi x :: vi x :: st) σ := by
  obtain ⟨p, l, e, R, s, m, args, below, meth, c⟩ := X
  obtain ⟨hx, hb, hml, hown, hts, hK, hG, hst, hnw, hX, hR⟩ := hO
  intro H locs ls hP hS hl
  refine lv_icmp_eq hx hb hd ht (fun hc => ?_) (fun hc => absurd rfl hc)
  exact k H locs ls hP hS hl
theorem la_eqL (hO : LO X G b L xs) {x : Int} {off : Int} (hd0 : decode cL_law pc = .ok (.lcmp, 1)) (hd : decode cL_law (pc + 1) = .ok (.ifCond .eq off, 3)) (tgt : Nat) (ht : ((pc + 1 : Nat) : Int) + off = (tgt : Int)) (k : LA X G n0 n1 Q tgt lv st σ) : LA X G n0 n1 Q pc lv (vl x :: vl x :: st) σ := by
  obtain ⟨p, l, e, R, s, m, args, below, meth, c⟩ := X
  obtain ⟨hx, hb, hml, hown, hts, hK, hG, hst, hnw, hX, hR⟩ := hO
  intro H locs ls hP hS hl
  refine W.lcmp hx hb hd0 ?_
  refine lv_if_eq hx hb hd ht (fun hc => ?_) (fun hc => absurd ((lg_cmp_eq _ _).mpr rfl) hc)
  exact k H locs ls hP hS hl
end LAW
