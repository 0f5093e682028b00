/-! THE CLAIM OUT OF ONE WALK OF THE LAW'S BODY. Your part is whole_start (and what it stands on); all else here is the same for every law, but numbers. -/
def R_law : String := "RoadRiverLaw"
def lw_P (b : Addr) (xs : List Int32) (args : Array Value) (s : State) : Prop := args = #[.ref b] ∧ s.IntsAt b xs ∧ xs.length ≤ 3584 ∧ (Jvm.Cond.and given_1 narrow_1).before args s = true
def lw_Q (_ : Array Value) (s : State) (o : Outcome) (t : State) : Prop := o = .returned (some (.int 1)) ∧ Framed s o t [] 600000 7302249
def lw_Z (below : List Frame) (a : Array Value) (s : State) : State → Prop := fun t => ∃ o, t.status = .running ∧ Ended t below o ∧ lw_Q a s o t
/-- the law's own end, with 1 on the stack, nothing written that was there before, its room as the claim has it -/
theorem lw_ret {p : Program} {l : Launch} {e : Env} {s : State} {m : MethodId} {below : List Frame} {meth : Method} {c : Code} {b : Nat} (hx : p.tables.exec = Jvm.exec) (hb : c.code = code) (hr : meth.sig.returnType = ret) (hlocks : meth.locks = false) {pc : Nat} {H : Heap} {ls : Array Slot} (hdg : decode code pc = .ok (.ireturn, 1)) : W p l e room_1 s m #[Value.ref b] below meth c H [] 600000 7302249 (lw_Z below #[Value.ref b] s) (F0 m pc ls [.int 1]) := by
  intro T hT X
  obtain ⟨fs, hret, hrun, hended, hW, hframe⟩ := X.leave (v := some (.int 1)) (hlocks := hlocks) (fun h => by rw [hr] at h; cases h)
  have hmeth' : T.vm.method? m = some meth := X.method'
  refine ⟨T.setFrames fs, ?_, .returned (some (.int 1)), hrun, hended, rfl, ⟨_, rfl⟩, hW, hframe⟩
  jvm_step X.here [X.here.top, hx, hb, hdg, hmeth', hr, ret, narrow_b1]
  (try refine ⟨rfl, ?_⟩); (try refine ⟨rfl, ?_⟩)
  first | (intro acts; rw [hret _ acts rfl rfl rfl]) | rw [hret _ _ rfl rfl rfl]
  exact Steps.refl _
/-- what holds at the law's entry: the machine, the code, the tables' words (any of lw_tbl by 'hts w (by decide +kernel)'), the script of L ints xs at the cell b, what the Statement gives of the start (any of its parts by flat_of_before) -/
def lw_At (p : Program) (s : State) (m : MethodId) (meth : Method) (c : Code) (b L : Nat) (xs : Nat → Int32) : Prop :=
  p.tables.exec = Jvm.exec ∧ c.code = code ∧ meth.sig.returnType = ret ∧ c.maxLocals = 4 ∧ s.vm.findClass R_law = some m.cls ∧ (∀ w ∈ lw_tbl, w.before #[Value.ref b] s = true) ∧ va_X b L xs s s.heap ∧ b < s.heap.size ∧ meth.locks = false ∧ (Jvm.Cond.and given_1 narrow_1).before #[Value.ref b] s = true
set_option maxHeartbeats 4000000 in
set_option maxRecDepth 100000 in
/-- THE LAW, from its entry -/
theorem whole_start {p : Program} {e : Env} {s : State} {m : MethodId} {below : List Frame} {meth : Method} {c : Code} (l : Launch) (hflags : l.flags = flags0) {b L : Nat} {xs : Nat → Int32} (hL : L ≤ 3584) (C0 : lw_At p s m meth c b L xs) : W p l e room_1 s m #[Value.ref b] below meth c s.heap [] 0 0 (lw_Z below #[Value.ref b] s) (entryFrame m ([Value.ref b] : List Value).toArray 4) := by
  obtain ⟨hx, hb, hr, hml, hown, htl, hX, hbl, hlocks, hgv⟩ := C0
  have hts := rr_sub htl
  have hnw := st_NW htl
  have hao := st_AO htl
  obtain ⟨D, hKc⟩ := st_K htl
  obtain ⟨ty, hKt⟩ := st_T htl
  have hA : ∀ q : Nat, s.heap.size ≤ q → (fun q : Nat => s.heap.size ≤ q) q := fun _ h => h
  have hnA : ∀ a : Nat, a < s.heap.size → ¬ (fun q : Nat => s.heap.size ≤ q) a := fun a h => Nat.not_le.mpr h
  obtain ⟨tf, hZF⟩ := st_ZF htl hgv hnA
  obtain ⟨tl, hZL⟩ := st_ZL htl hgv hnA
  obtain ⟨tm, hZM⟩ := st_ZM htl hgv hnA
  have hK : va_K D vwCl (rr_tys ty) s := ⟨hKc, hKt⟩
  have hS : va_S (fun q : Nat => s.heap.size ≤ q) s.heap s.heap [] := va_S.rf
  have hP : va_P D vwCl [] s.heap := fun k q h => by simp at h
  have hD : va_D (fun q : Nat => s.heap.size ≤ q) [] := ⟨fun i j p q h => by simp at h, fun k q h => by simp at h⟩
  have hl := lv_entry ([.ref b]) (n := 4) (Nat.le_of_ble_eq_true rfl)
  rw [lg_entry_eq]
  generalize (lg_sl ([.ref b]) ++ List.replicate (4 - (lg_sl ([.ref b])).length) Slot.unset).toArray = ls at hl ⊢
  have hl : lv_has ls 4 [(0, .ref b)] := hl
  obtain ⟨C8, T8, y8, n1, n2, n3, n4, n5, n6, n7⟩ := no_L_7
  obtain ⟨C9, T9, y9, m1, m2, m3, m4, m5, m6, m7⟩ := no_L_10
  refine va_new (ci := 8) (C := C8) (T := T8) (N := 11) hx hb hts n2 y8 n3 hown (hts _ n4) (hts _ n5) (hts _ n6) hK hP hD hS hA n1 n7 (Nat.le_of_ble_eq_true rfl) (Nat.le_of_ble_eq_true rfl) dL_law_0 (fun a H hP hD hS => ?_)
  refine lv_dup hx hb dL_law_3 rfl ?_
  refine cw_call (wr := []) (G := (D, fun _ => 0, ty, 0, 0)) (fun sz => PE (D, fun _ => 0, ty, 0, 0) (b8 a) sz tf) hx hb hml hown hts hA (fun sz => ci_X8 l (D, fun _ => 0, ty, 0, 0) a sz tf) (fun sz => PE.blind) ⟨rfl, rfl⟩ mb_X8_init rfl ii_X8_init lk_L_9 (by decide) (by decide) (Nat.le_of_ble_eq_true rfl) dL_law_4 hl.1 hP hD hS (fun hPc hDc hFc U hU hW => ⟨⟨by rw [hU], by rw [hU]; exact hPc, va_K.moved hW.alike hK, hDc, hnw.warm hW, hao.moved hW.alike⟩, ?_⟩) (fun r H locs hP hD hS => ?_)
  · have hE : ES tf (fun q : Nat => s.heap.size ≤ q) U := ES.to (s := s) hZF hW.alike (fun q h1 h2 => by rw [hU]; exact hS.2.1 q h1 h2)
    exact ⟨hE.1.narrow hFc, hE.2.narrow hFc⟩
  refine lv_astore_n (lv' := [(1, .ref a), (0, .ref b)]) hx hb dL_law_7 rfl hl (by decide) rfl (fun ls hl => ?_)
  refine va_new (ci := 9) (C := C9) (T := T9) (N := 19) hx hb hts m2 y9 m3 hown (hts _ m4) (hts _ m5) (hts _ m6) hK hP hD hS hA m1 m7 (Nat.le_of_ble_eq_true rfl) (Nat.le_of_ble_eq_true rfl) dL_law_8 (fun a9 H hP hD hS => ?_)
  refine lv_dup hx hb dL_law_11 rfl ?_
  refine cw_call (wr := [] ++ w8 (D, fun _ => 0, ty, 0, 0) a r) (G := (D, fun _ => 0, ty, 0, 0)) (fun sz => PI (D, fun _ => 0, ty, 0, 0) (b9 a9) sz) hx hb hml hown hts hA (fun sz => ci_X9 l (D, fun _ => 0, ty, 0, 0) a9 sz) (fun sz => PI.blind) ⟨rfl, rfl⟩ mb_X9_init rfl ii_X9_init lk_L_12 (by decide) (by decide) (Nat.le_of_ble_eq_true rfl) dL_law_12 hl.1 hP hD hS (fun hPc hDc hFc U hU hW => ⟨by rw [hU], by rw [hU]; exact hPc, va_K.moved hW.alike hK, hDc, hnw.warm hW, hao.moved hW.alike⟩) (fun r' H locs hP hD hS => ?_)
  refine lv_astore_n (lv' := [(2, .ref a9), (1, .ref a), (0, .ref b)]) hx hb dL_law_15 rfl hl (by decide) rfl (fun ls hl => ?_)
  refine lv_iconst (v := 0) hx hb dL_law_16 (by decide) ?_
  refine lv_istore_n (lv' := [(3, .int 0), (2, .ref a9), (1, .ref a), (0, .ref b)]) hx hb dL_law_17 rfl hl (by decide) rfl (fun ls hl => ?_)
  have hP : va_P D vwCl (w8 (gF D ty tl tm a r a9 r') a r ++ w9 (gF D ty tl tm a r a9 r') a9 r') H := hP
  have hD : va_D (fun q : Nat => s.heap.size ≤ q) (w8 (gF D ty tl tm a r a9 r') a r ++ w9 (gF D ty tl tm a r a9 r') a9 r') := hD
  have hGA : ∀ q, rr_A (gF D ty tl tm a r a9 r') q → s.heap.size ≤ q := sa_A hD
  have hlo : LO (p, l, e, room_1, s, m, #[Value.ref b], below, meth, c) (gF D ty tl tm a r a9 r') b L xs := ⟨hx, hb, hml, hown, hts, hK, sa_GD hD, ⟨⟨hZL.1.narrow hGA, hZL.2.narrow hGA⟩, ⟨hZM.1.narrow hGA, hZM.2.narrow hGA⟩⟩, hnw, ⟨hX, hbl, fun h => absurd (hGA b h) (Nat.not_le.mpr hbl)⟩, rfl⟩
  have hl : lv_has ls 4 (lvs (gF D ty tl tm a r a9 r') b ((0 : Nat) : Int)) := hl
  have hend : ∀ (lv : List (Nat × Value)) (σ : St), LA (p, l, e, room_1, s, m, #[Value.ref b], below, meth, c) (gF D ty tl tm a r a9 r') (0 + 1 + 57 + 1 + 12) (0 + 11 + 1511 + 19 + 618) (lw_Z below #[Value.ref b] s) 1431 lv [] σ := by
    intro lv σ H locs ls hP hS hl
    refine lv_iconst (v := 1) hx hb dL_law_1431 (by decide) ?_
    refine va_forget (fun q hq => hGA _ (hS.2.2 q hq)) ?_
    refine W.widen (k := 600000) (n := 7302249) (Nat.le_of_ble_eq_true rfl) (Nat.le_of_ble_eq_true rfl) ?_
    exact lw_ret hx hb hr hlocks dL_law_1432
  have hlp := la_loop hlo ⟨Nat.le_of_ble_eq_true rfl, Nat.le_of_ble_eq_true rfl⟩ hL hend (L + 9) 0 s0 Inv0 (by omega) (by omega)
  refine va_forget (fun q hq => hS.2.2 q hq) ?_
  exact hlp H [] ls (sa_P hP) ⟨hS.1, fun q h1 h2 => hS.2.1 q h1 (Nat.not_le.mpr h1), fun q h => absurd h List.not_mem_nil⟩ hl
