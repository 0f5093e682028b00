/-! WHAT THE START GIVES -/
theorem rr_sub {args : Array Value} {s : State} (h : ∀ w ∈ lw_tbl, w.before args s = true) : ∀ w ∈ rr_tbl, w.before args s = true := fun w hw => h w (List.mem_filter.mp hw).1
theorem st_NW {args : Array Value} {s : State} (h : ∀ w ∈ lw_tbl, w.before args s = true) : rr_NW s := by
  intro w hw hn
  have h1 := h w hw
  cases w with
  | methodLinkNest a i x b => exact va_tabs rfl rfl h1
  | fieldLinkNest a i b n d z => exact va_tabs rfl rfl h1
  | _ => cases hn
theorem st_AO {args : Array Value} {s : State} (h : ∀ w ∈ lw_tbl, w.before args s = true) : rr_AO s := ⟨va_AO.of (h _ (List.mem_append_right _ (List.mem_of_getElem? (i := 23) (by decide +kernel)))), va_AO.of (h _ (List.mem_append_right _ (List.mem_of_getElem? (i := 196) (by decide +kernel)))), h (Cond.arrayOver (.array .int)) (List.mem_append_right _ (List.mem_of_getElem? (i := 52) (by decide +kernel)))⟩
theorem st_K {args : Array Value} {s : State} (h : ∀ w ∈ lw_tbl, w.before args s = true) : ∃ D : va_G, ∀ (c : Nat) (q : vw_C), vwCl[c]? = some q → u_Kn s q.1 q.2.1 q.2.2 (D.1 c) (D.2 c) := by
  have hts := rr_sub h
  obtain ⟨c0, i0, h0⟩ := u_known (C := RX0) (T := TX0) (N := 10) (n := 10) hts inX0 (h (.instantiable RX0 10) (List.mem_append_right _ (List.mem_of_getElem? (i := 134) (by decide +kernel))))
  obtain ⟨c1, i1, h1⟩ := u_known (C := RX1) (T := TX1) (N := 4) (n := 4) hts inX1 (h (.instantiable RX1 4) (List.mem_append_right _ (List.mem_of_getElem? (i := 25) (by decide +kernel))))
  obtain ⟨c2, i2, h2⟩ := u_known (C := RX2) (T := TX2) (N := 4) (n := 4) hts inX2 (h (.instantiable RX2 4) (List.mem_append_right _ (List.mem_of_getElem? (i := 176) (by decide +kernel))))
  obtain ⟨c3, i3, h3⟩ := u_known (C := RX3) (T := TX3) (N := 4) (n := 4) hts inX3 (h (.instantiable RX3 4) (List.mem_append_right _ (List.mem_of_getElem? (i := 112) (by decide +kernel))))
  obtain ⟨c4, i4, h4⟩ := u_known (C := RX4) (T := TX4) (N := 3) (n := 3) hts inX4 (h (.instantiable RX4 3) (List.mem_append_right _ (List.mem_of_getElem? (i := 215) (by decide +kernel))))
  obtain ⟨c5, i5, h5⟩ := u_known (C := RX5) (T := TX5) (N := 2) (n := 2) hts inX5 (h (.instantiable RX5 2) (List.mem_append_right _ (List.mem_of_getElem? (i := 197) (by decide +kernel))))
  obtain ⟨c6, i6, h6⟩ := u_known (C := RX6) (T := TX6) (N := 9) (n := 9) hts inX6 (h (.instantiable RX6 9) (List.mem_append_right _ (List.mem_of_getElem? (i := 46) (by decide +kernel))))
  obtain ⟨c7, i7, h7⟩ := u_known (C := RX7) (T := TX7) (N := 7) (n := 7) hts inX7 (h (.instantiable RX7 7) (List.mem_append_right _ (List.mem_of_getElem? (i := 82) (by decide +kernel))))
  obtain ⟨c8, i8, h8⟩ := u_known (C := RX8) (T := TX8) (N := 11) (n := 11) hts inX8 (h (.instantiable RX8 11) (List.mem_append_right _ (List.mem_of_getElem? (i := 15) (by decide +kernel))))
  obtain ⟨c9, i9, h9⟩ := u_known (C := RX9) (T := TX9) (N := 19) (n := 19) hts inX9 (h (.instantiable RX9 19) (List.mem_append_right _ (List.mem_of_getElem? (i := 740) (by decide +kernel))))
  refine ⟨(fun k => match k with | 0 => c0 | 1 => c1 | 2 => c2 | 3 => c3 | 4 => c4 | 5 => c5 | 6 => c6 | 7 => c7 | 8 => c8 | _ => c9, fun k => match k with | 0 => i0 | 1 => i1 | 2 => i2 | 3 => i3 | 4 => i4 | 5 => i5 | 6 => i6 | 7 => i7 | 8 => i8 | _ => i9), fun c q hq => ?_⟩
  match c, hq with
  | 0, hq => cases hq; exact h0
  | 1, hq => cases hq; exact h1
  | 2, hq => cases hq; exact h2
  | 3, hq => cases hq; exact h3
  | 4, hq => cases hq; exact h4
  | 5, hq => cases hq; exact h5
  | 6, hq => cases hq; exact h6
  | 7, hq => cases hq; exact h7
  | 8, hq => cases hq; exact h8
  | 9, hq => cases hq; exact h9
  | n + 10, hq => exact absurd hq (by simp [vwCl])
theorem st_arr {args : Array Value} {s : State} {t : FieldType} (h : (Cond.arrayClass t).before args s = true) : ∃ c : ClassId, ArrOfT s c t ∧ s.vm.findClass ("[" ++ t.toString) = some c := by
  obtain ⟨c, k, comp, h1, h2, h3⟩ := Cond.arrayClass_spec h
  exact ⟨c, fun n z => ⟨fun k h => (by cases h), k, h2, comp, h3⟩, h1⟩
theorem st_obj {s : State} {C : String} (h : va_AO C s) : ∃ c : ClassId, ArrOfT s c (.object C) ∧ va_RA s c (.object C) := by
  obtain ⟨comp, c, k, h1, h2, h3, h4, h5⟩ := Cond.arrayOver_spec h
  exact ⟨c, fun n z => ⟨fun k h => (by cases h), k, h3, comp, h4⟩, k, comp, h3, h4, h1, h5⟩
theorem st_rows {s : State} {t : FieldType} (h : va_AOA t s) : ∃ c : ClassId, ArrOfT s c (.array t) ∧ va_RA s c (.array t) := by
  obtain ⟨comp, c, k, h1, h2, h3, h4, h5⟩ := arrayOverA_spec h
  exact ⟨c, fun n z => ⟨fun k h => (by cases h), k, h3, comp, h4⟩, h5⟩
def rr_tys (ty : Nat → ClassId) : List (ClassId × FieldType) := [(ty 0, .int), (ty 1, .long), (ty 2, .boolean), (ty 3, .object "RoadRiver$Text"), (ty 4, .object "RoadRiver$Sheet"), (ty 5, .array .int)]
theorem st_T {args : Array Value} {s : State} (h : ∀ w ∈ lw_tbl, w.before args s = true) : ∃ ty : Nat → ClassId, ∀ (k : Nat) (q : ClassId × FieldType), (rr_tys ty)[k]? = some q → ArrOfT s q.1 q.2 ∧ va_RA s q.1 q.2 := by
  have ha := st_AO h
  obtain ⟨c0, h0⟩ := st_arr (h (.arrayClass .int) (List.mem_append_right _ (List.mem_of_getElem? (i := 44) (by decide +kernel))))
  obtain ⟨c1, h1⟩ := st_arr (h (.arrayClass .long) (List.mem_append_right _ (List.mem_of_getElem? (i := 803) (by decide +kernel))))
  obtain ⟨c2, h2⟩ := st_arr (h (.arrayClass .boolean) (List.mem_append_right _ (List.mem_of_getElem? (i := 110) (by decide +kernel))))
  obtain ⟨c3, h3⟩ := st_obj ha.1
  obtain ⟨c4, h4⟩ := st_obj ha.2.1
  obtain ⟨c5, h5⟩ := st_rows ha.2.2
  refine ⟨fun k => match k with | 0 => c0 | 1 => c1 | 2 => c2 | 3 => c3 | 4 => c4 | _ => c5, fun k q hq => ?_⟩
  match k, hq with
  | 0, hq => cases hq; exact h0
  | 1, hq => cases hq; exact h1
  | 2, hq => cases hq; exact h2
  | 3, hq => cases hq; exact h3
  | 4, hq => cases hq; exact h4
  | 5, hq => cases hq; exact h5
  | n + 6, hq => exact absurd hq (by simp [rr_tys])
theorem st_ZF {b : Nat} {s : State} {A : Nat → Prop} (h : ∀ w ∈ lw_tbl, w.before #[Value.ref b] s = true) (hg : (Jvm.Cond.and given_1 narrow_1).before #[Value.ref b] s = true) (hA : ∀ a : Nat, a < s.heap.size → ¬ A a) : ∃ t : Nat, va_Z "RoadRiver" "TERM_FIRST" "[I" (.ref t) A s s.heap ∧ va_T .int t 7 (fun j => .int (Int32.ofInt (rr_TF j))) A s s.heap := by
  have hs := flat_of_before _ hg
  obtain ⟨t, h1, h2⟩ := va_Tof (tm := (Term.static "RoadRiver" "TERM_FIRST" "[I")) (ty := .int) (N := 7) (f := fun j => .int (Int32.ofInt (rr_TF j))) (A := A) (by decide) (hs (.arrayOf (Term.static "RoadRiver" "TERM_FIRST" "[I") .int) (by decide +kernel)) (va_eqt (hs (.eq (.length (Term.static "RoadRiver" "TERM_FIRST" "[I")) (.int 7)) (by decide +kernel))) (lt7 (va_eqt (hs (.eq (.elem (Term.static "RoadRiver" "TERM_FIRST" "[I") (.int 0)) (.int (Int32.ofInt (rr_TF 0)))) (by decide +kernel))) (va_eqt (hs (.eq (.elem (Term.static "RoadRiver" "TERM_FIRST" "[I") (.int 1)) (.int (Int32.ofInt (rr_TF 1)))) (by decide +kernel))) (va_eqt (hs (.eq (.elem (Term.static "RoadRiver" "TERM_FIRST" "[I") (.int 2)) (.int (Int32.ofInt (rr_TF 2)))) (by decide +kernel))) (va_eqt (hs (.eq (.elem (Term.static "RoadRiver" "TERM_FIRST" "[I") (.int 3)) (.int (Int32.ofInt (rr_TF 3)))) (by decide +kernel))) (va_eqt (hs (.eq (.elem (Term.static "RoadRiver" "TERM_FIRST" "[I") (.int 4)) (.int (Int32.ofInt (rr_TF 4)))) (by decide +kernel))) (va_eqt (hs (.eq (.elem (Term.static "RoadRiver" "TERM_FIRST" "[I") (.int 5)) (.int (Int32.ofInt (rr_TF 5)))) (by decide +kernel))) (va_eqt (hs (.eq (.elem (Term.static "RoadRiver" "TERM_FIRST" "[I") (.int 6)) (.int (Int32.ofInt (rr_TF 6)))) (by decide +kernel)))) hA
  exact ⟨t, va_Zref (h (.laysStatic "RoadRiver" "TERM_FIRST" "[I") (List.mem_append_right _ (List.mem_of_getElem? (i := 214) (by decide +kernel)))) (h (.initialized "RoadRiver") (List.mem_append_right _ (List.mem_of_getElem? (i := 1) (by decide +kernel)))) h1 hA, h2⟩
theorem st_ZL {b : Nat} {s : State} {A : Nat → Prop} (h : ∀ w ∈ lw_tbl, w.before #[Value.ref b] s = true) (hg : (Jvm.Cond.and given_1 narrow_1).before #[Value.ref b] s = true) (hA : ∀ a : Nat, a < s.heap.size → ¬ A a) : ∃ t : Nat, va_Z "RoadRiver" "TERM_LEAST" "[I" (.ref t) A s s.heap ∧ va_T .int t 7 (fun j => .int (Int32.ofInt (rr_TL j))) A s s.heap := by
  have hs := flat_of_before _ hg
  obtain ⟨t, h1, h2⟩ := va_Tof (tm := (Term.static "RoadRiver" "TERM_LEAST" "[I")) (ty := .int) (N := 7) (f := fun j => .int (Int32.ofInt (rr_TL j))) (A := A) (by decide) (hs (.arrayOf (Term.static "RoadRiver" "TERM_LEAST" "[I") .int) (by decide +kernel)) (va_eqt (hs (.eq (.length (Term.static "RoadRiver" "TERM_LEAST" "[I")) (.int 7)) (by decide +kernel))) (lt7 (va_eqt (hs (.eq (.elem (Term.static "RoadRiver" "TERM_LEAST" "[I") (.int 0)) (.int (Int32.ofInt (rr_TL 0)))) (by decide +kernel))) (va_eqt (hs (.eq (.elem (Term.static "RoadRiver" "TERM_LEAST" "[I") (.int 1)) (.int (Int32.ofInt (rr_TL 1)))) (by decide +kernel))) (va_eqt (hs (.eq (.elem (Term.static "RoadRiver" "TERM_LEAST" "[I") (.int 2)) (.int (Int32.ofInt (rr_TL 2)))) (by decide +kernel))) (va_eqt (hs (.eq (.elem (Term.static "RoadRiver" "TERM_LEAST" "[I") (.int 3)) (.int (Int32.ofInt (rr_TL 3)))) (by decide +kernel))) (va_eqt (hs (.eq (.elem (Term.static "RoadRiver" "TERM_LEAST" "[I") (.int 4)) (.int (Int32.ofInt (rr_TL 4)))) (by decide +kernel))) (va_eqt (hs (.eq (.elem (Term.static "RoadRiver" "TERM_LEAST" "[I") (.int 5)) (.int (Int32.ofInt (rr_TL 5)))) (by decide +kernel))) (va_eqt (hs (.eq (.elem (Term.static "RoadRiver" "TERM_LEAST" "[I") (.int 6)) (.int (Int32.ofInt (rr_TL 6)))) (by decide +kernel)))) hA
  exact ⟨t, va_Zref (h (.laysStatic "RoadRiver" "TERM_LEAST" "[I") (List.mem_append_right _ (List.mem_of_getElem? (i := 376) (by decide +kernel)))) (h (.initialized "RoadRiver") (List.mem_append_right _ (List.mem_of_getElem? (i := 1) (by decide +kernel)))) h1 hA, h2⟩
theorem st_ZM {b : Nat} {s : State} {A : Nat → Prop} (h : ∀ w ∈ lw_tbl, w.before #[Value.ref b] s = true) (hg : (Jvm.Cond.and given_1 narrow_1).before #[Value.ref b] s = true) (hA : ∀ a : Nat, a < s.heap.size → ¬ A a) : ∃ t : Nat, va_Z "RoadRiver" "TERM_MOST" "[I" (.ref t) A s s.heap ∧ va_T .int t 7 (fun j => .int (Int32.ofInt (rr_TM j))) A s s.heap := by
  have hs := flat_of_before _ hg
  obtain ⟨t, h1, h2⟩ := va_Tof (tm := (Term.static "RoadRiver" "TERM_MOST" "[I")) (ty := .int) (N := 7) (f := fun j => .int (Int32.ofInt (rr_TM j))) (A := A) (by decide) (hs (.arrayOf (Term.static "RoadRiver" "TERM_MOST" "[I") .int) (by decide +kernel)) (va_eqt (hs (.eq (.length (Term.static "RoadRiver" "TERM_MOST" "[I")) (.int 7)) (by decide +kernel))) (lt7 (va_eqt (hs (.eq (.elem (Term.static "RoadRiver" "TERM_MOST" "[I") (.int 0)) (.int (Int32.ofInt (rr_TM 0)))) (by decide +kernel))) (va_eqt (hs (.eq (.elem (Term.static "RoadRiver" "TERM_MOST" "[I") (.int 1)) (.int (Int32.ofInt (rr_TM 1)))) (by decide +kernel))) (va_eqt (hs (.eq (.elem (Term.static "RoadRiver" "TERM_MOST" "[I") (.int 2)) (.int (Int32.ofInt (rr_TM 2)))) (by decide +kernel))) (va_eqt (hs (.eq (.elem (Term.static "RoadRiver" "TERM_MOST" "[I") (.int 3)) (.int (Int32.ofInt (rr_TM 3)))) (by decide +kernel))) (va_eqt (hs (.eq (.elem (Term.static "RoadRiver" "TERM_MOST" "[I") (.int 4)) (.int (Int32.ofInt (rr_TM 4)))) (by decide +kernel))) (va_eqt (hs (.eq (.elem (Term.static "RoadRiver" "TERM_MOST" "[I") (.int 5)) (.int (Int32.ofInt (rr_TM 5)))) (by decide +kernel))) (va_eqt (hs (.eq (.elem (Term.static "RoadRiver" "TERM_MOST" "[I") (.int 6)) (.int (Int32.ofInt (rr_TM 6)))) (by decide +kernel)))) hA
  exact ⟨t, va_Zref (h (.laysStatic "RoadRiver" "TERM_MOST" "[I") (List.mem_append_right _ (List.mem_of_getElem? (i := 378) (by decide +kernel)))) (h (.initialized "RoadRiver") (List.mem_append_right _ (List.mem_of_getElem? (i := 1) (by decide +kernel)))) h1 hA, h2⟩
/-- a constructor's call in the law -/
theorem cw_call {p : Program} {l : Launch} {e : Env} {R : Room} {s : State} {m : MethodId} {args : Array Value} {below : List Frame} {meth : Method} {c : Code} {H : Heap} {locs : List Loc} {n0 n1 : Nat} {Q : State → Prop} {cc : ByteArray} {nL : Nat} {own : String} {G : Ge} {A : Nat → Prop} {pc : Nat} {ls : Array Slot} {st : List Value} {wr : va_W} {y : MethodName} {ccY : ByteArray} {nY ixx mc ms q : Nat} {rm : Room} {e0 : va_E} {w1 : (Nat → Nat) → va_W} (Pre : Nat → State → Prop)
    (hx : p.tables.exec = Jvm.exec) (hb : c.code = cc) (hml : c.maxLocals = nL) (hown : s.vm.findClass own = some m.cls) (hts : ∀ w ∈ rr_tbl, w.before args s = true) (hA : ∀ q : Nat, s.heap.size ≤ q → A q)
    (hM : ∀ sz, Met l y (.code y ccY nY none :: rr_tbl) rm (va_Pc [.ref q] (Pre sz)) (QI G w1 [(q, e0)] sz) mc ms (va_A [(q, e0)] sz)) (hbl : ∀ sz, FrameBlind (va_Pc [.ref q] (Pre sz))) (hrm : rm.cells = mc ∧ rm.slots = ms)
    (mb : rr_MB y ccY nY none 0) (hyn : y.name = "<init>") (hin : Cond.instanceMethod y ∈ rr_tbl) (hlink : Cond.methodLink own ixx y ∈ rr_tbl) (hroom : rm.frames + 1 ≤ R.frames ∧ 8 + (nY + 11) + rm.locals ≤ R.locals) (hcs : n0 + mc ≤ R.cells ∧ n1 + ms ≤ R.slots) (hcat : (st.map fun v => v.category).sum ≤ 8) (hd : decode cc pc = .ok (.invokespecial ixx, 3)) (hls : ls.size = nL)
    (hP : va_P G.1 vwCl (wr ++ [(q, e0)]) H) (hD : va_D A (wr ++ [(q, e0)])) (hS : va_S A s.heap H locs)
    (hpre : va_P G.1 vwCl [(q, e0)] H → va_D (fun _ => True) [(q, e0)] → (∀ q', va_A [(q, e0)] H.size q' → A q') → ∀ U : State, U.heap = H → s.WarmedH U.vm → Pre H.size U)
    (k : ∀ (r : Nat → Nat) (H1 : Heap) (locs1 : List Loc), va_P G.1 vwCl (wr ++ w1 r) H1 → va_D A (wr ++ w1 r) → va_S A s.heap H1 locs1 → W p l e R s m args below meth c H1 locs1 (n0 + mc) (n1 + ms) Q (F0 m (pc + 3) ls st)) : W p l e R s m args below meth c H locs n0 n1 Q (F0 m pc ls (.ref q :: st)) := by
  have hC := cr_last wr (q, e0)
  have hPc := hP.sub (ws' := [(q, e0)]) [wr.length] (by simp)
  have hDc := hD.sub (ws' := [(q, e0)]) [wr.length] (va_nd_of (by simp)) hC
  have hFc := va_free (wc := [(q, e0)]) hD hS hA [wr.length] hC
  refine va_callv (va_runI (n := 0) (bytes := ccY) (maxL := nY) (nL := nL) (As := []) (rest := st) ⟨hx, hb, hml, hown, hts⟩ (hM H.size) ⟨⟨hrm.1, hrm.2, hroom.1, hroom.2, rr_ws hts mb.1, List.mem_cons_self, hts _ mb.1, hts _ mb.2.1, mb.2.2.1, fun sig h => ?_, hts _ hlink⟩, hyn, hts _ hin⟩ ⟨hbl _, fun U hU hW => ⟨rfl, hpre hPc (hDc.weaken (fun _ _ _ _ => trivial)) hFc U hU hW⟩⟩ rfl rfl hls rfl (lv_room hcat) hd hcs) hS (fun q _ h => hFc q h) hFc (fun u t H1 locs1 ht hvm hw hB hz1 hk1 hS1 => ?_)
  · have h2 := mb.2.2.2
    rw [h] at h2
    exact (Option.some.inj h2).symm
  · obtain ⟨hP1, hD1⟩ := hB
    rw [ht] at hP1
    obtain ⟨hP2, hD2⟩ := va_join (wr := wr) (wc := [(q, e0)]) (w1 := w1 u) hP hD [wr.length] (List.range wr.length) hC (cr_range wr _) (va_nd_of List.nodup_range) (fun i hi h9 => by
      have h3 := List.mem_range.mp hi
      have h4 := List.mem_singleton.mp h9
      omega) hk1 hFc hP1 hD1
    exact k u H1 locs1 hP2 hD2 hS1
