/-! LEAF CONSTRUCTORS -/
theorem aw_int : Cond.arrayClass .int ∈ rr_tbl := rr_in (List.mem_append_right _ (List.mem_of_getElem? (i := 44) (by decide +kernel))) rfl
theorem aw_long : Cond.arrayClass .long ∈ rr_tbl := rr_in (List.mem_append_right _ (List.mem_of_getElem? (i := 803) (by decide +kernel))) rfl
theorem aw_bool : Cond.arrayClass .boolean ∈ rr_tbl := rr_in (List.mem_append_right _ (List.mem_of_getElem? (i := 110) (by decide +kernel))) rfl
theorem oi_inst : Cond.instanceMethod objectInit ∈ rr_tbl := rr_in (List.mem_append_right _ (List.mem_of_getElem? (i := 20) (by decide +kernel))) rfl
theorem oi_code : Cond.code objectInit ⟨#[0xb1]⟩ 1 none ∈ rr_tbl := rr_in (List.mem_append_right _ (List.mem_of_getElem? (i := 21) (by decide +kernel))) rfl
theorem cr_ret {X : CX} {G : Ge} {A : Nat → Prop} {cc : ByteArray} {nL mc ms sz : Nat} {own : String} {R0 : Room} {pc : Nat} {lv : List (Nat × Value)} {ws ws0 : va_W} {w1 : (Nat → Nat) → va_W} (hO : CO X G A cc nL own R0) (hlk : X.2.2.2.2.2.2.2.2.1.locks = false) (hsub : ∀ q, A q → va_A ws0 sz q) (r : Nat → Nat) (hw : ws = w1 r) (hd : decode cc pc = .ok (.return_, 1)) : CA X G A nL mc ms (MQ X.2.2.2.2.2.2.2.1 (QI G w1 ws0 sz) X.2.2.2.2.2.2.1 X.2.2.2.2.1 mc ms (va_A ws0 sz)) pc lv [] ws := by
  obtain ⟨p, l, e, R, s, m, args, below, meth, c⟩ := X
  obtain ⟨hx, hb, hml, hown, hts, hK, hr, hin, hA, hnw, hao, hR⟩ := hO
  subst hw
  intro H locs ls hP hD hS hl
  exact W.vret hx hb hr (fun t ht hW => ⟨⟨r, rfl, trivial, by rw [ht]; exact hP, hD.1, fun k q h => hsub _ (hD.2 k q h)⟩, by rw [ht]; exact hS.1, fun q h1 h2 => by rw [ht]; exact hS.2.1 q h1 (fun ha => h2 (hsub q ha))⟩) (fun q hq => hsub _ (hS.2.2 q hq)) hd hlk
theorem fw_X1_9 : rr_FW RX1 9 1 0 true (.array .int) := ⟨RX1, TX1, 4, tyX1, rfl, inX1, tyX1_ok, nmX1, by decide, rr_in (List.mem_append_right _ (List.mem_of_getElem? (i := 30) (by decide +kernel))) rfl, rfl, by decide +kernel, rfl⟩
theorem fw_X1_15 : rr_FW RX1 15 1 1 true (.array .int) := ⟨RX1, TX1, 4, tyX1, rfl, inX1, tyX1_ok, nmX1, by decide, rr_in (List.mem_append_right _ (List.mem_of_getElem? (i := 31) (by decide +kernel))) rfl, rfl, by decide +kernel, rfl⟩
theorem fw_X1_18 : rr_FW RX1 18 1 2 true (.array .int) := ⟨RX1, TX1, 4, tyX1, rfl, inX1, tyX1_ok, nmX1, by decide, rr_in (List.mem_append_right _ (List.mem_of_getElem? (i := 32) (by decide +kernel))) rfl, rfl, by decide +kernel, rfl⟩
theorem fw_X1_21 : rr_FW RX1 21 1 3 false .int := ⟨RX1, TX1, 4, tyX1, rfl, inX1, tyX1_ok, nmX1, by decide, rr_in (List.mem_append_right _ (List.mem_of_getElem? (i := 33) (by decide +kernel))) rfl, rfl, by decide +kernel, rfl⟩
set_option maxRecDepth 100000 in
set_option maxHeartbeats 4000000 in
theorem ci_X1 (l : Launch) (G : Ge) (a sz : Nat) : Met l yX1_init (.code yX1_init cX1_init 1 none :: rr_tbl) { frames := 1, cells := 3, slots := 24, locals := 16 } (va_Pc [.ref a] (PI G [(a, .inr (1, [.null, .null, .null, .int 0]))] sz)) (QI G (fun r => [(a, .inr (1, [.ref (r 0), .ref (r 1), .ref (r 2), .int 0])), (r 0, .inl (G.2.2.1 0, 8, .inl (fun _ => 0))), (r 1, .inl (G.2.2.1 0, 8, .inl (fun _ => 0))), (r 2, .inl (G.2.2.1 0, 8, .inl (fun _ => 0)))]) [(a, .inr (1, [.null, .null, .null, .int 0]))] sz) 3 24 (va_A [(a, .inr (1, [.null, .null, .null, .int 0]))] sz) := by
  refine cr_mk RX1 (by decide) rfl rfl (Nat.le_of_ble_eq_true rfl) (lv := [(0, .ref a)]) rfl (fun X A hsz hD hsub hlk hO => ?_)
  refine cr_al hO 0 (i := 0) rfl rfl dX1_init_0 ?_
  refine cr_ini hO lk_X1_3 oi_inst oi_code (by decide) dX1_init_1 ?_
  refine cr_al hO 0 (i := 0) rfl rfl dX1_init_4 ?_
  refine cr_bip hO (by decide) dX1_init_5 ?_
  refine cr_newI hO 8 rfl (by decide) aw_int (by decide) dX1_init_7 (fun q0 => ?_)
  refine cr_put hO fw_X1_9 0 rfl (by rfl) (by rfl) (Nat.le_of_ble_eq_true rfl) dX1_init_9 ?_
  refine cr_al hO 0 (i := 0) rfl rfl dX1_init_12 ?_
  refine cr_bip hO (by decide) dX1_init_13 ?_
  refine cr_newI hO 8 rfl (by decide) aw_int (by decide) dX1_init_15 (fun q1 => ?_)
  refine cr_put hO fw_X1_15 0 rfl (by rfl) (by rfl) (Nat.le_of_ble_eq_true rfl) dX1_init_17 ?_
  refine cr_al hO 0 (i := 0) rfl rfl dX1_init_20 ?_
  refine cr_bip hO (by decide) dX1_init_21 ?_
  refine cr_newI hO 8 rfl (by decide) aw_int (by decide) dX1_init_23 (fun q2 => ?_)
  refine cr_put hO fw_X1_18 0 rfl (by rfl) (by rfl) (Nat.le_of_ble_eq_true rfl) dX1_init_25 ?_
  refine cr_al hO 0 (i := 0) rfl rfl dX1_init_28 ?_
  refine cr_con hO dX1_init_29 ?_
  refine cr_put hO fw_X1_21 0 rfl (by rfl) (by rfl) (Nat.le_of_ble_eq_true rfl) dX1_init_30 ?_
  exact cr_ret hO hlk hsub (fun i => [q0, q1, q2].getD i 0) rfl dX1_init_33
theorem fw_X2_9 : rr_FW RX2 9 2 0 true (.array .int) := ⟨RX2, TX2, 4, tyX2, rfl, inX2, tyX2_ok, nmX2, by decide, rr_in (List.mem_append_right _ (List.mem_of_getElem? (i := 181) (by decide +kernel))) rfl, rfl, by decide +kernel, rfl⟩
theorem fw_X2_15 : rr_FW RX2 15 2 1 true (.array .int) := ⟨RX2, TX2, 4, tyX2, rfl, inX2, tyX2_ok, nmX2, by decide, rr_in (List.mem_append_right _ (List.mem_of_getElem? (i := 182) (by decide +kernel))) rfl, rfl, by decide +kernel, rfl⟩
theorem fw_X2_18 : rr_FW RX2 18 2 2 true (.array .int) := ⟨RX2, TX2, 4, tyX2, rfl, inX2, tyX2_ok, nmX2, by decide, rr_in (List.mem_append_right _ (List.mem_of_getElem? (i := 183) (by decide +kernel))) rfl, rfl, by decide +kernel, rfl⟩
theorem fw_X2_21 : rr_FW RX2 21 2 3 false .int := ⟨RX2, TX2, 4, tyX2, rfl, inX2, tyX2_ok, nmX2, by decide, rr_in (List.mem_append_right _ (List.mem_of_getElem? (i := 184) (by decide +kernel))) rfl, rfl, by decide +kernel, rfl⟩
set_option maxRecDepth 100000 in
set_option maxHeartbeats 4000000 in
theorem ci_X2 (l : Launch) (G : Ge) (a sz : Nat) : Met l yX2_init (.code yX2_init cX2_init 1 none :: rr_tbl) { frames := 1, cells := 3, slots := 24, locals := 16 } (va_Pc [.ref a] (PI G [(a, .inr (2, [.null, .null, .null, .int 0]))] sz)) (QI G (fun r => [(a, .inr (2, [.ref (r 0), .ref (r 1), .ref (r 2), .int 0])), (r 0, .inl (G.2.2.1 0, 8, .inl (fun _ => 0))), (r 1, .inl (G.2.2.1 0, 8, .inl (fun _ => 0))), (r 2, .inl (G.2.2.1 0, 8, .inl (fun _ => 0)))]) [(a, .inr (2, [.null, .null, .null, .int 0]))] sz) 3 24 (va_A [(a, .inr (2, [.null, .null, .null, .int 0]))] sz) := by
  refine cr_mk RX2 (by decide) rfl rfl (Nat.le_of_ble_eq_true rfl) (lv := [(0, .ref a)]) rfl (fun X A hsz hD hsub hlk hO => ?_)
  refine cr_al hO 0 (i := 0) rfl rfl dX2_init_0 ?_
  refine cr_ini hO lk_X2_3 oi_inst oi_code (by decide) dX2_init_1 ?_
  refine cr_al hO 0 (i := 0) rfl rfl dX2_init_4 ?_
  refine cr_bip hO (by decide) dX2_init_5 ?_
  refine cr_newI hO 8 rfl (by decide) aw_int (by decide) dX2_init_7 (fun q0 => ?_)
  refine cr_put hO fw_X2_9 0 rfl (by rfl) (by rfl) (Nat.le_of_ble_eq_true rfl) dX2_init_9 ?_
  refine cr_al hO 0 (i := 0) rfl rfl dX2_init_12 ?_
  refine cr_bip hO (by decide) dX2_init_13 ?_
  refine cr_newI hO 8 rfl (by decide) aw_int (by decide) dX2_init_15 (fun q1 => ?_)
  refine cr_put hO fw_X2_15 0 rfl (by rfl) (by rfl) (Nat.le_of_ble_eq_true rfl) dX2_init_17 ?_
  refine cr_al hO 0 (i := 0) rfl rfl dX2_init_20 ?_
  refine cr_bip hO (by decide) dX2_init_21 ?_
  refine cr_newI hO 8 rfl (by decide) aw_int (by decide) dX2_init_23 (fun q2 => ?_)
  refine cr_put hO fw_X2_18 0 rfl (by rfl) (by rfl) (Nat.le_of_ble_eq_true rfl) dX2_init_25 ?_
  refine cr_al hO 0 (i := 0) rfl rfl dX2_init_28 ?_
  refine cr_con hO dX2_init_29 ?_
  refine cr_put hO fw_X2_21 0 rfl (by rfl) (by rfl) (Nat.le_of_ble_eq_true rfl) dX2_init_30 ?_
  exact cr_ret hO hlk hsub (fun i => [q0, q1, q2].getD i 0) rfl dX2_init_33
theorem fw_X3_9 : rr_FW RX3 9 3 1 false .int := ⟨RX3, TX3, 4, tyX3, rfl, inX3, tyX3_ok, nmX3, by decide, rr_in (List.mem_append_right _ (List.mem_of_getElem? (i := 118) (by decide +kernel))) rfl, rfl, by decide +kernel, rfl⟩
theorem fw_X3_15 : rr_FW RX3 15 3 2 false .int := ⟨RX3, TX3, 4, tyX3, rfl, inX3, tyX3_ok, nmX3, by decide, rr_in (List.mem_append_right _ (List.mem_of_getElem? (i := 120) (by decide +kernel))) rfl, rfl, by decide +kernel, rfl⟩
theorem fw_X3_18 : rr_FW RX3 18 3 3 false .int := ⟨RX3, TX3, 4, tyX3, rfl, inX3, tyX3_ok, nmX3, by decide, rr_in (List.mem_append_right _ (List.mem_of_getElem? (i := 122) (by decide +kernel))) rfl, rfl, by decide +kernel, rfl⟩
theorem fw_X3_21 : rr_FW RX3 21 3 0 true (.object "RoadRiver$Valley") := ⟨RX3, TX3, 4, tyX3, rfl, inX3, tyX3_ok, nmX3, by decide, rr_in (List.mem_append_right _ (List.mem_of_getElem? (i := 117) (by decide +kernel))) rfl, rfl, by decide +kernel, rfl⟩
set_option maxRecDepth 100000 in
set_option maxHeartbeats 4000000 in
theorem ci_X3 (l : Launch) (G : Ge) (a sz : Nat) (v : Nat) : Met l yX3_init (.code yX3_init cX3_init 2 none :: rr_tbl) { frames := 1, cells := 0, slots := 0, locals := 16 } (va_Pc [.ref a, .ref v] (PI G [(a, .inr (3, [.null, .int 0, .int 0, .int 0]))] sz)) (QI G (fun r => [(a, .inr (3, [.ref v, .int 0, .int 0, .int 0]))]) [(a, .inr (3, [.null, .int 0, .int 0, .int 0]))] sz) 0 0 (va_A [(a, .inr (3, [.null, .int 0, .int 0, .int 0]))] sz) := by
  refine cr_mk RX3 (by decide) rfl rfl (Nat.le_of_ble_eq_true rfl) (lv := [(0, .ref a), (1, .ref v)]) rfl (fun X A hsz hD hsub hlk hO => ?_)
  refine cr_al hO 0 (i := 0) rfl rfl dX3_init_0 ?_
  refine cr_ini hO lk_X3_3 oi_inst oi_code (by decide) dX3_init_1 ?_
  refine cr_al hO 0 (i := 0) rfl rfl dX3_init_4 ?_
  refine cr_con hO dX3_init_5 ?_
  refine cr_put hO fw_X3_9 0 rfl (by rfl) (by rfl) (Nat.le_of_ble_eq_true rfl) dX3_init_6 ?_
  refine cr_al hO 0 (i := 0) rfl rfl dX3_init_9 ?_
  refine cr_con hO dX3_init_10 ?_
  refine cr_put hO fw_X3_15 0 rfl (by rfl) (by rfl) (Nat.le_of_ble_eq_true rfl) dX3_init_11 ?_
  refine cr_al hO 0 (i := 0) rfl rfl dX3_init_14 ?_
  refine cr_con hO dX3_init_15 ?_
  refine cr_put hO fw_X3_18 0 rfl (by rfl) (by rfl) (Nat.le_of_ble_eq_true rfl) dX3_init_16 ?_
  refine cr_al hO 0 (i := 0) rfl rfl dX3_init_19 ?_
  refine cr_al hO 1 (i := 1) rfl rfl dX3_init_20 ?_
  refine cr_put hO fw_X3_21 0 rfl (by rfl) (by rfl) (Nat.le_of_ble_eq_true rfl) dX3_init_21 ?_
  exact cr_ret hO hlk hsub (fun i => [].getD i 0) rfl dX3_init_24
theorem fw_X4_9 : rr_FW RX4 9 4 0 true (.array .int) := ⟨RX4, TX4, 3, tyX4, rfl, inX4, tyX4_ok, nmX4, by decide, rr_in (List.mem_append_right _ (List.mem_of_getElem? (i := 220) (by decide +kernel))) rfl, rfl, by decide +kernel, rfl⟩
theorem fw_X4_15 : rr_FW RX4 15 4 1 false .int := ⟨RX4, TX4, 3, tyX4, rfl, inX4, tyX4_ok, nmX4, by decide, rr_in (List.mem_append_right _ (List.mem_of_getElem? (i := 222) (by decide +kernel))) rfl, rfl, by decide +kernel, rfl⟩
theorem fw_X4_19 : rr_FW RX4 19 4 2 false .int := ⟨RX4, TX4, 3, tyX4, rfl, inX4, tyX4_ok, nmX4, by decide, rr_in (List.mem_append_right _ (List.mem_of_getElem? (i := 224) (by decide +kernel))) rfl, rfl, by decide +kernel, rfl⟩
set_option maxRecDepth 100000 in
set_option maxHeartbeats 4000000 in
theorem ci_X4 (l : Launch) (G : Ge) (a sz : Nat) : Met l yX4_init (.code yX4_init cX4_init 1 none :: rr_tbl) { frames := 1, cells := 1, slots := 60, locals := 16 } (va_Pc [.ref a] (PI G [(a, .inr (4, [.null, .int 0, .int 0]))] sz)) (QI G (fun r => [(a, .inr (4, [.ref (r 0), .int (-1), .int 0])), (r 0, .inl (G.2.2.1 0, 60, .inl (fun _ => 0)))]) [(a, .inr (4, [.null, .int 0, .int 0]))] sz) 1 60 (va_A [(a, .inr (4, [.null, .int 0, .int 0]))] sz) := by
  refine cr_mk RX4 (by decide) rfl rfl (Nat.le_of_ble_eq_true rfl) (lv := [(0, .ref a)]) rfl (fun X A hsz hD hsub hlk hO => ?_)
  refine cr_al hO 0 (i := 0) rfl rfl dX4_init_0 ?_
  refine cr_ini hO lk_X4_3 oi_inst oi_code (by decide) dX4_init_1 ?_
  refine cr_al hO 0 (i := 0) rfl rfl dX4_init_4 ?_
  refine cr_bip hO (by decide) dX4_init_5 ?_
  refine cr_newI hO 60 rfl (by decide) aw_int (by decide) dX4_init_7 (fun q0 => ?_)
  refine cr_put hO fw_X4_9 0 rfl (by rfl) (by rfl) (Nat.le_of_ble_eq_true rfl) dX4_init_9 ?_
  refine cr_al hO 0 (i := 0) rfl rfl dX4_init_12 ?_
  refine cr_con hO dX4_init_13 ?_
  refine cr_put hO fw_X4_15 0 rfl (by rfl) (by rfl) (Nat.le_of_ble_eq_true rfl) dX4_init_14 ?_
  refine cr_al hO 0 (i := 0) rfl rfl dX4_init_17 ?_
  refine cr_con hO dX4_init_18 ?_
  refine cr_put hO fw_X4_19 0 rfl (by rfl) (by rfl) (Nat.le_of_ble_eq_true rfl) dX4_init_19 ?_
  exact cr_ret hO hlk hsub (fun i => [q0].getD i 0) rfl dX4_init_22
