/-! CONSTRUCTOR OF A TEXT -/
theorem fw_X5_9 : rr_FW RX5 9 5 1 false .int := ⟨RX5, TX5, 2, tyX5, rfl, inX5, tyX5_ok, nmX5, by decide, rr_in (List.mem_append_right _ (List.mem_of_getElem? (i := 206) (by decide +kernel))) rfl, rfl, by decide +kernel, rfl⟩
theorem fw_X5_21 : rr_FW RX5 21 5 0 true (.array .int) := ⟨RX5, TX5, 2, tyX5, rfl, inX5, tyX5_ok, nmX5, by decide, rr_in (List.mem_append_right _ (List.mem_of_getElem? (i := 205) (by decide +kernel))) rfl, rfl, by decide +kernel, rfl⟩
theorem cr_max {X : CX} {G : Ge} {A : Nat → Prop} {cc : ByteArray} {nL n0 n1 : Nat} {own : String} {R0 : Room} {Q : State → Prop} {pc : Nat} {lv : List (Nat × Value)} {st : List Value} {ws : va_W} (hO : CO X G A cc nL own R0) {x y : Int} {ixx : Nat} (h1 : in32 x) (h2 : in32 y) (hlink : Cond.methodLink own ixx Lib.Math.max.name ∈ rr_tbl) (hroom : 1 ≤ R0.frames ∧ (st.map fun v => v.category).sum + 13 ≤ R0.locals) (hc : n0 ≤ R0.cells ∧ n1 ≤ R0.slots) (hd : decode cc pc = .ok (.invokestatic ixx, 3)) (k : CA X G A nL n0 n1 Q (pc + 3) lv (vi (max x y) :: st) ws) : CA X G A nL n0 n1 Q pc lv (vi y :: vi x :: st) ws := by
  obtain ⟨p, l, e, R, s, m, args, below, meth, c⟩ := X
  obtain ⟨hx, hb, hml, hown, hts, hK, hr, hin, hA, hnw, hao, hR⟩ := hO
  subst hR
  intro H locs ls hP hD hS hl
  refine va_mmax hx hb (hml.trans hl.1.symm) hown (hts _ hlink) (hts _ mm_maxs) (hts _ mm_ini) (hts _ mm_maxc) hroom.1 hroom.2 hc.1 hc.2 hd ?_
  have e1 : (if Int32.ofInt x < Int32.ofInt y then Int32.ofInt y else Int32.ofInt x) = Int32.ofInt (max x y) := by
    by_cases q : x < y
    · rw [if_pos ((i32_lt h1 h2).mpr q), show max x y = y by omega]
    · rw [if_neg (fun z => q ((i32_lt h1 h2).mp z)), show max x y = x by omega]
  rw [e1]
  exact k H locs ls hP hD hS hl
set_option maxRecDepth 100000 in
set_option maxHeartbeats 4000000 in
theorem ci_X5 (l : Launch) (G : Ge) (a sz N : Nat) (hN : N ≤ 1000) : Met l yX5_init (.code yX5_init cX5_init 2 none :: rr_tbl) { frames := 1, cells := 1, slots := N, locals := 16 } (va_Pc [.ref a, vi (N : Int)] (PI G [(a, .inr (5, [.null, .int 0]))] sz)) (QI G (fun r => [(a, .inr (5, [.ref (r 0), .int 0])), (r 0, .inl (G.2.2.1 0, N, .inl (fun _ => 0)))]) [(a, .inr (5, [.null, .int 0]))] sz) 1 N (va_A [(a, .inr (5, [.null, .int 0]))] sz) := by
  refine cr_mk RX5 (by decide) rfl rfl (Nat.le_of_ble_eq_true rfl) (lv := [(0, .ref a), (1, vi (N : Int))]) rfl (fun X A hsz hD hsub hlk hO => ?_)
  refine cr_al hO 0 (i := 0) rfl rfl dX5_init_0 ?_
  refine cr_ini hO lk_X5_3 oi_inst oi_code (by show 1 ≤ 1 ∧ 0 + 12 ≤ 16; decide) dX5_init_1 ?_
  refine cr_al hO 0 (i := 0) rfl rfl dX5_init_4 ?_
  refine cr_con hO dX5_init_5 ?_
  refine cr_put hO fw_X5_9 0 rfl (by rfl) (by rfl) (Nat.le_of_ble_eq_true rfl) dX5_init_6 ?_
  refine cr_al hO 0 (i := 0) rfl rfl dX5_init_9 ?_
  refine cr_il hO 1 (i := 1) rfl rfl dX5_init_10 ?_
  refine cr_con hO dX5_init_11 ?_
  refine cr_max hO (by omega) (by decide) lk_X5_15 (by show 1 ≤ 1 ∧ 1 + 13 ≤ 16; decide) ⟨Nat.zero_le _, Nat.zero_le _⟩ dX5_init_12 ?_
  refine cr_newI hO N (by omega) hN aw_int ⟨Nat.le_refl 1, by show 0 + N ≤ N; omega⟩ dX5_init_15 (fun q0 => ?_)
  refine cr_put hO fw_X5_21 0 rfl (by rfl) (by rfl) (Nat.le_of_ble_eq_true rfl) dX5_init_17 ?_
  rw [Nat.zero_add N]
  exact cr_ret hO hlk hsub (fun _ => q0) rfl dX5_init_20
