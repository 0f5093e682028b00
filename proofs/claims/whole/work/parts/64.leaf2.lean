/-! CONSTRUCTORS WITH ROWS OF ROWS -/
theorem fw_X0_9 : rr_FW RX0 9 0 2 true (.array .int) := ⟨RX0, TX0, 10, tyX0, rfl, inX0, tyX0_ok, nmX0, by decide, rr_in (List.mem_append_right _ (List.mem_of_getElem? (i := 142) (by decide +kernel))) rfl, rfl, by decide +kernel, rfl⟩
theorem fw_X0_15 : rr_FW RX0 15 0 3 true (.array .int) := ⟨RX0, TX0, 10, tyX0, rfl, inX0, tyX0_ok, nmX0, by decide, rr_in (List.mem_append_right _ (List.mem_of_getElem? (i := 143) (by decide +kernel))) rfl, rfl, by decide +kernel, rfl⟩
theorem fw_X0_18 : rr_FW RX0 18 0 4 true (.array .int) := ⟨RX0, TX0, 10, tyX0, rfl, inX0, tyX0_ok, nmX0, by decide, rr_in (List.mem_append_right _ (List.mem_of_getElem? (i := 144) (by decide +kernel))) rfl, rfl, by decide +kernel, rfl⟩
theorem fw_X0_23 : rr_FW RX0 23 0 5 true (.array (.array .int)) := ⟨RX0, TX0, 10, tyX0, rfl, inX0, tyX0_ok, nmX0, by decide, rr_in (List.mem_append_right _ (List.mem_of_getElem? (i := 145) (by decide +kernel))) rfl, rfl, by decide +kernel, rfl⟩
theorem fw_X0_26 : rr_FW RX0 26 0 6 false .int := ⟨RX0, TX0, 10, tyX0, rfl, inX0, tyX0_ok, nmX0, by decide, rr_in (List.mem_append_right _ (List.mem_of_getElem? (i := 146) (by decide +kernel))) rfl, rfl, by decide +kernel, rfl⟩
theorem fw_X0_30 : rr_FW RX0 30 0 7 false .int := ⟨RX0, TX0, 10, tyX0, rfl, inX0, tyX0_ok, nmX0, by decide, rr_in (List.mem_append_right _ (List.mem_of_getElem? (i := 148) (by decide +kernel))) rfl, rfl, by decide +kernel, rfl⟩
theorem fw_X0_33 : rr_FW RX0 33 0 8 false .int := ⟨RX0, TX0, 10, tyX0, rfl, inX0, tyX0_ok, nmX0, by decide, rr_in (List.mem_append_right _ (List.mem_of_getElem? (i := 150) (by decide +kernel))) rfl, rfl, by decide +kernel, rfl⟩
theorem fw_X0_36 : rr_FW RX0 36 0 9 false .int := ⟨RX0, TX0, 10, tyX0, rfl, inX0, tyX0_ok, nmX0, by decide, rr_in (List.mem_append_right _ (List.mem_of_getElem? (i := 152) (by decide +kernel))) rfl, rfl, by decide +kernel, rfl⟩
theorem fw_X0_39 : rr_FW RX0 39 0 0 true (.object "RoadRiver$Valley") := ⟨RX0, TX0, 10, tyX0, rfl, inX0, tyX0_ok, nmX0, by decide, rr_in (List.mem_append_right _ (List.mem_of_getElem? (i := 140) (by decide +kernel))) rfl, rfl, by decide +kernel, rfl⟩
theorem fw_X0_43 : rr_FW RX0 43 0 1 true (.array .int) := ⟨RX0, TX0, 10, tyX0, rfl, inX0, tyX0_ok, nmX0, by decide, rr_in (List.mem_append_right _ (List.mem_of_getElem? (i := 141) (by decide +kernel))) rfl, rfl, by decide +kernel, rfl⟩
theorem kl_X0_21 : Cond.classLink RX0 21 "[[I" ∈ rr_tbl := rr_in (List.mem_append_right _ (List.mem_of_getElem? (i := 139) (by decide +kernel))) rfl
set_option maxRecDepth 100000 in
set_option maxHeartbeats 4000000 in
theorem ci_X0 (l : Launch) (G : Ge) (a sz : Nat) (v : Nat) (ch : Nat) : Met l yX0_init (.code yX0_init cX0_init 3 none :: rr_tbl) { frames := 1, cells := 7, slots := 795, locals := 16 } (va_Pc [.ref a, .ref v, .ref ch] (PI G [(a, .inr (0, [.null, .null, .null, .null, .null, .null, .int 0, .int 0, .int 0, .int 0]))] sz)) (QI G (fun r => [(a, .inr (0, [.ref v, .ref ch, .ref (r 0), .ref (r 1), .ref (r 2), .ref (r 3), .int 0, .int 0, .int 0, .int 0]))] ++ [(r 0, .inl (G.2.2.1 0, 8, .inl (fun _ => 0)))] ++ [(r 1, .inl (G.2.2.1 0, 8, .inl (fun _ => 0)))] ++ [(r 2, .inl (G.2.2.1 0, 8, .inl (fun _ => 0)))] ++ rows3 G 256 (r 3) (r 4) (r 5) (r 6)) [(a, .inr (0, [.null, .null, .null, .null, .null, .null, .int 0, .int 0, .int 0, .int 0]))] sz) 7 795 (va_A [(a, .inr (0, [.null, .null, .null, .null, .null, .null, .int 0, .int 0, .int 0, .int 0]))] sz) := by
  refine cr_mk RX0 (by decide) rfl rfl (Nat.le_of_ble_eq_true rfl) (lv := [(0, .ref a), (1, .ref v), (2, .ref ch)]) rfl (fun X A hsz hD hsub hlk hO => ?_)
  refine cr_al hO 0 (i := 0) rfl rfl dX0_init_0 ?_
  refine cr_ini hO lk_X0_3 oi_inst oi_code (by decide) dX0_init_1 ?_
  refine cr_al hO 0 (i := 0) rfl rfl dX0_init_4 ?_
  refine cr_bip hO (by decide) dX0_init_5 ?_
  refine cr_newI hO 8 rfl (by decide) aw_int (by decide) dX0_init_7 (fun q0 => ?_)
  refine cr_put hO fw_X0_9 0 rfl (by rfl) (by rfl) (Nat.le_of_ble_eq_true rfl) dX0_init_9 ?_
  refine cr_al hO 0 (i := 0) rfl rfl dX0_init_12 ?_
  refine cr_bip hO (by decide) dX0_init_13 ?_
  refine cr_newI hO 8 rfl (by decide) aw_int (by decide) dX0_init_15 (fun q1 => ?_)
  refine cr_put hO fw_X0_15 0 rfl (by rfl) (by rfl) (Nat.le_of_ble_eq_true rfl) dX0_init_17 ?_
  refine cr_al hO 0 (i := 0) rfl rfl dX0_init_20 ?_
  refine cr_bip hO (by decide) dX0_init_21 ?_
  refine cr_newI hO 8 rfl (by decide) aw_int (by decide) dX0_init_23 (fun q2 => ?_)
  refine cr_put hO fw_X0_18 0 rfl (by rfl) (by rfl) (Nat.le_of_ble_eq_true rfl) dX0_init_25 ?_
  refine cr_al hO 0 (i := 0) rfl rfl dX0_init_28 ?_
  refine cr_con hO dX0_init_29 ?_
  refine cr_sip hO (by decide) dX0_init_30 ?_
  refine cr_mna hO 256 rfl (by decide) kl_X0_21 aw_int (by decide) dX0_init_33 (fun q3 q4 q5 q6 => ?_)
  refine cr_put hO fw_X0_23 0 rfl (by rfl) (by rfl) (Nat.le_of_ble_eq_true rfl) dX0_init_37 ?_
  refine cr_al hO 0 (i := 0) rfl rfl dX0_init_40 ?_
  refine cr_con hO dX0_init_41 ?_
  refine cr_put hO fw_X0_26 0 rfl (by rfl) (by rfl) (Nat.le_of_ble_eq_true rfl) dX0_init_42 ?_
  refine cr_al hO 0 (i := 0) rfl rfl dX0_init_45 ?_
  refine cr_con hO dX0_init_46 ?_
  refine cr_put hO fw_X0_30 0 rfl (by rfl) (by rfl) (Nat.le_of_ble_eq_true rfl) dX0_init_47 ?_
  refine cr_al hO 0 (i := 0) rfl rfl dX0_init_50 ?_
  refine cr_con hO dX0_init_51 ?_
  refine cr_put hO fw_X0_33 0 rfl (by rfl) (by rfl) (Nat.le_of_ble_eq_true rfl) dX0_init_52 ?_
  refine cr_al hO 0 (i := 0) rfl rfl dX0_init_55 ?_
  refine cr_con hO dX0_init_56 ?_
  refine cr_put hO fw_X0_36 0 rfl (by rfl) (by rfl) (Nat.le_of_ble_eq_true rfl) dX0_init_57 ?_
  refine cr_al hO 0 (i := 0) rfl rfl dX0_init_60 ?_
  refine cr_al hO 1 (i := 1) rfl rfl dX0_init_61 ?_
  refine cr_put hO fw_X0_39 0 rfl (by rfl) (by rfl) (Nat.le_of_ble_eq_true rfl) dX0_init_62 ?_
  refine cr_al hO 0 (i := 0) rfl rfl dX0_init_65 ?_
  refine cr_al hO 2 (i := 2) rfl rfl dX0_init_66 ?_
  refine cr_put hO fw_X0_43 0 rfl (by rfl) (by rfl) (Nat.le_of_ble_eq_true rfl) dX0_init_67 ?_
  exact cr_ret hO hlk hsub (fun i => [q0, q1, q2, q3, q4, q5, q6].getD i 0) rfl dX0_init_70
theorem fw_X6_11 : rr_FW RX6 11 6 3 true (.array (.array .int)) := ⟨RX6, TX6, 9, tyX6, rfl, inX6, tyX6_ok, nmX6, by decide, rr_in (List.mem_append_right _ (List.mem_of_getElem? (i := 56) (by decide +kernel))) rfl, rfl, by decide +kernel, rfl⟩
theorem fw_X6_16 : rr_FW RX6 16 6 4 true (.array (.array .int)) := ⟨RX6, TX6, 9, tyX6, rfl, inX6, tyX6_ok, nmX6, by decide, rr_in (List.mem_append_right _ (List.mem_of_getElem? (i := 57) (by decide +kernel))) rfl, rfl, by decide +kernel, rfl⟩
theorem fw_X6_19 : rr_FW RX6 19 6 5 true (.array .int) := ⟨RX6, TX6, 9, tyX6, rfl, inX6, tyX6_ok, nmX6, by decide, rr_in (List.mem_append_right _ (List.mem_of_getElem? (i := 58) (by decide +kernel))) rfl, rfl, by decide +kernel, rfl⟩
theorem fw_X6_23 : rr_FW RX6 23 6 6 true (.array .int) := ⟨RX6, TX6, 9, tyX6, rfl, inX6, tyX6_ok, nmX6, by decide, rr_in (List.mem_append_right _ (List.mem_of_getElem? (i := 59) (by decide +kernel))) rfl, rfl, by decide +kernel, rfl⟩
theorem fw_X6_26 : rr_FW RX6 26 6 7 true (.array .int) := ⟨RX6, TX6, 9, tyX6, rfl, inX6, tyX6_ok, nmX6, by decide, rr_in (List.mem_append_right _ (List.mem_of_getElem? (i := 60) (by decide +kernel))) rfl, rfl, by decide +kernel, rfl⟩
theorem fw_X6_29 : rr_FW RX6 29 6 8 false .boolean := ⟨RX6, TX6, 9, tyX6, rfl, inX6, tyX6_ok, nmX6, by decide, rr_in (List.mem_append_right _ (List.mem_of_getElem? (i := 61) (by decide +kernel))) rfl, rfl, by decide +kernel, rfl⟩
theorem fw_X6_33 : rr_FW RX6 33 6 0 true (.array (.object "RoadRiver$Text")) := ⟨RX6, TX6, 9, tyX6, rfl, inX6, tyX6_ok, nmX6, by decide, rr_in (List.mem_append_right _ (List.mem_of_getElem? (i := 53) (by decide +kernel))) rfl, rfl, by decide +kernel, rfl⟩
theorem fw_X6_37 : rr_FW RX6 37 6 1 true (.array .int) := ⟨RX6, TX6, 9, tyX6, rfl, inX6, tyX6_ok, nmX6, by decide, rr_in (List.mem_append_right _ (List.mem_of_getElem? (i := 54) (by decide +kernel))) rfl, rfl, by decide +kernel, rfl⟩
theorem fw_X6_40 : rr_FW RX6 40 6 2 true (.object "RoadRiver$Dikes") := ⟨RX6, TX6, 9, tyX6, rfl, inX6, tyX6_ok, nmX6, by decide, rr_in (List.mem_append_right _ (List.mem_of_getElem? (i := 55) (by decide +kernel))) rfl, rfl, by decide +kernel, rfl⟩
theorem kl_X6_9 : Cond.classLink RX6 9 "[[I" ∈ rr_tbl := rr_in (List.mem_append_right _ (List.mem_of_getElem? (i := 51) (by decide +kernel))) rfl
set_option maxRecDepth 100000 in
set_option maxHeartbeats 4000000 in
theorem ci_X6 (l : Launch) (G : Ge) (a sz : Nat) (tx : Nat) (te : Nat) (dk : Nat) : Met l yX6_init (.code yX6_init cX6_init 4 none :: rr_tbl) { frames := 1, cells := 11, slots := 229, locals := 16 } (va_Pc [.ref a, .ref tx, .ref te, .ref dk] (PI G [(a, .inr (6, [.null, .null, .null, .null, .null, .null, .null, .null, .int 0]))] sz)) (QI G (fun r => [(a, .inr (6, [.ref tx, .ref te, .ref dk, .ref (r 0), .ref (r 4), .ref (r 8), .ref (r 9), .ref (r 10), .int 1]))] ++ rows3 G 30 (r 0) (r 1) (r 2) (r 3) ++ rows3 G 30 (r 4) (r 5) (r 6) (r 7) ++ [(r 8, .inl (G.2.2.1 0, 3, .inl (fun _ => 0)))] ++ [(r 9, .inl (G.2.2.1 0, 10, .inl (fun _ => 0)))] ++ [(r 10, .inl (G.2.2.1 0, 30, .inl (fun _ => 0)))]) [(a, .inr (6, [.null, .null, .null, .null, .null, .null, .null, .null, .int 0]))] sz) 11 229 (va_A [(a, .inr (6, [.null, .null, .null, .null, .null, .null, .null, .null, .int 0]))] sz) := by
  refine cr_mk RX6 (by decide) rfl rfl (Nat.le_of_ble_eq_true rfl) (lv := [(0, .ref a), (1, .ref tx), (2, .ref te), (3, .ref dk)]) rfl (fun X A hsz hD hsub hlk hO => ?_)
  refine cr_al hO 0 (i := 0) rfl rfl dX6_init_0 ?_
  refine cr_ini hO lk_X6_3 oi_inst oi_code (by decide) dX6_init_1 ?_
  refine cr_al hO 0 (i := 0) rfl rfl dX6_init_4 ?_
  refine cr_con hO dX6_init_5 ?_
  refine cr_bip hO (by decide) dX6_init_6 ?_
  refine cr_mna hO 30 rfl (by decide) kl_X6_9 aw_int (by decide) dX6_init_8 (fun q0 q1 q2 q3 => ?_)
  refine cr_put hO fw_X6_11 0 rfl (by rfl) (by rfl) (Nat.le_of_ble_eq_true rfl) dX6_init_12 ?_
  refine cr_al hO 0 (i := 0) rfl rfl dX6_init_15 ?_
  refine cr_con hO dX6_init_16 ?_
  refine cr_bip hO (by decide) dX6_init_17 ?_
  refine cr_mna hO 30 rfl (by decide) kl_X6_9 aw_int (by decide) dX6_init_19 (fun q4 q5 q6 q7 => ?_)
  refine cr_put hO fw_X6_16 0 rfl (by rfl) (by rfl) (Nat.le_of_ble_eq_true rfl) dX6_init_23 ?_
  refine cr_al hO 0 (i := 0) rfl rfl dX6_init_26 ?_
  refine cr_con hO dX6_init_27 ?_
  refine cr_newI hO 3 rfl (by decide) aw_int (by decide) dX6_init_28 (fun q8 => ?_)
  refine cr_put hO fw_X6_19 0 rfl (by rfl) (by rfl) (Nat.le_of_ble_eq_true rfl) dX6_init_30 ?_
  refine cr_al hO 0 (i := 0) rfl rfl dX6_init_33 ?_
  refine cr_bip hO (by decide) dX6_init_34 ?_
  refine cr_newI hO 10 rfl (by decide) aw_int (by decide) dX6_init_36 (fun q9 => ?_)
  refine cr_put hO fw_X6_23 0 rfl (by rfl) (by rfl) (Nat.le_of_ble_eq_true rfl) dX6_init_38 ?_
  refine cr_al hO 0 (i := 0) rfl rfl dX6_init_41 ?_
  refine cr_bip hO (by decide) dX6_init_42 ?_
  refine cr_newI hO 30 rfl (by decide) aw_int (by decide) dX6_init_44 (fun q10 => ?_)
  refine cr_put hO fw_X6_26 0 rfl (by rfl) (by rfl) (Nat.le_of_ble_eq_true rfl) dX6_init_46 ?_
  refine cr_al hO 0 (i := 0) rfl rfl dX6_init_49 ?_
  refine cr_con hO dX6_init_50 ?_
  refine cr_put hO fw_X6_29 0 rfl (by rfl) (by rfl) (Nat.le_of_ble_eq_true rfl) dX6_init_51 ?_
  refine cr_al hO 0 (i := 0) rfl rfl dX6_init_54 ?_
  refine cr_al hO 1 (i := 1) rfl rfl dX6_init_55 ?_
  refine cr_put hO fw_X6_33 0 rfl (by rfl) (by rfl) (Nat.le_of_ble_eq_true rfl) dX6_init_56 ?_
  refine cr_al hO 0 (i := 0) rfl rfl dX6_init_59 ?_
  refine cr_al hO 2 (i := 2) rfl rfl dX6_init_60 ?_
  refine cr_put hO fw_X6_37 0 rfl (by rfl) (by rfl) (Nat.le_of_ble_eq_true rfl) dX6_init_61 ?_
  refine cr_al hO 0 (i := 0) rfl rfl dX6_init_64 ?_
  refine cr_al hO 3 (i := 3) rfl rfl dX6_init_65 ?_
  refine cr_put hO fw_X6_40 0 rfl (by rfl) (by rfl) (Nat.le_of_ble_eq_true rfl) dX6_init_66 ?_
  exact cr_ret hO hlk hsub (fun i => [q0, q1, q2, q3, q4, q5, q6, q7, q8, q9, q10].getD i 0) rfl dX6_init_69
theorem fw_X7_11 : rr_FW RX7 11 7 3 true (.array (.array .int)) := ⟨RX7, TX7, 7, tyX7, rfl, inX7, tyX7_ok, nmX7, by decide, rr_in (List.mem_append_right _ (List.mem_of_getElem? (i := 91) (by decide +kernel))) rfl, rfl, by decide +kernel, rfl⟩
theorem fw_X7_16 : rr_FW RX7 16 7 4 true (.array .int) := ⟨RX7, TX7, 7, tyX7, rfl, inX7, tyX7_ok, nmX7, by decide, rr_in (List.mem_append_right _ (List.mem_of_getElem? (i := 92) (by decide +kernel))) rfl, rfl, by decide +kernel, rfl⟩
theorem fw_X7_20 : rr_FW RX7 20 7 5 true (.array .int) := ⟨RX7, TX7, 7, tyX7, rfl, inX7, tyX7_ok, nmX7, by decide, rr_in (List.mem_append_right _ (List.mem_of_getElem? (i := 93) (by decide +kernel))) rfl, rfl, by decide +kernel, rfl⟩
theorem fw_X7_23 : rr_FW RX7 23 7 6 true (.array .boolean) := ⟨RX7, TX7, 7, tyX7, rfl, inX7, tyX7_ok, nmX7, by decide, rr_in (List.mem_append_right _ (List.mem_of_getElem? (i := 94) (by decide +kernel))) rfl, rfl, by decide +kernel, rfl⟩
theorem fw_X7_27 : rr_FW RX7 27 7 0 true (.object "RoadRiver$Valley") := ⟨RX7, TX7, 7, tyX7, rfl, inX7, tyX7_ok, nmX7, by decide, rr_in (List.mem_append_right _ (List.mem_of_getElem? (i := 88) (by decide +kernel))) rfl, rfl, by decide +kernel, rfl⟩
theorem fw_X7_31 : rr_FW RX7 31 7 1 true (.array .int) := ⟨RX7, TX7, 7, tyX7, rfl, inX7, tyX7_ok, nmX7, by decide, rr_in (List.mem_append_right _ (List.mem_of_getElem? (i := 89) (by decide +kernel))) rfl, rfl, by decide +kernel, rfl⟩
theorem fw_X7_34 : rr_FW RX7 34 7 2 true (.array .int) := ⟨RX7, TX7, 7, tyX7, rfl, inX7, tyX7_ok, nmX7, by decide, rr_in (List.mem_append_right _ (List.mem_of_getElem? (i := 90) (by decide +kernel))) rfl, rfl, by decide +kernel, rfl⟩
theorem kl_X7_9 : Cond.classLink RX7 9 "[[I" ∈ rr_tbl := rr_in (List.mem_append_right _ (List.mem_of_getElem? (i := 87) (by decide +kernel))) rfl
set_option maxRecDepth 100000 in
set_option maxHeartbeats 4000000 in
theorem ci_X7 (l : Launch) (G : Ge) (a sz : Nat) (v : Nat) (te : Nat) (ch : Nat) : Met l yX7_init (.code yX7_init cX7_init 4 none :: rr_tbl) { frames := 1, cells := 7, slots := 21, locals := 16 } (va_Pc [.ref a, .ref v, .ref te, .ref ch] (PI G [(a, .inr (7, [.null, .null, .null, .null, .null, .null, .null]))] sz)) (QI G (fun r => [(a, .inr (7, [.ref v, .ref te, .ref ch, .ref (r 0), .ref (r 4), .ref (r 5), .ref (r 6)]))] ++ rows3 G 3 (r 0) (r 1) (r 2) (r 3) ++ [(r 4, .inl (G.2.2.1 0, 3, .inl (fun _ => 0)))] ++ [(r 5, .inl (G.2.2.1 0, 3, .inl (fun _ => 0)))] ++ [(r 6, .inl (G.2.2.1 2, 3, .inl (fun _ => 0)))]) [(a, .inr (7, [.null, .null, .null, .null, .null, .null, .null]))] sz) 7 21 (va_A [(a, .inr (7, [.null, .null, .null, .null, .null, .null, .null]))] sz) := by
  refine cr_mk RX7 (by decide) rfl rfl (Nat.le_of_ble_eq_true rfl) (lv := [(0, .ref a), (1, .ref v), (2, .ref te), (3, .ref ch)]) rfl (fun X A hsz hD hsub hlk hO => ?_)
  refine cr_al hO 0 (i := 0) rfl rfl dX7_init_0 ?_
  refine cr_ini hO lk_X7_3 oi_inst oi_code (by decide) dX7_init_1 ?_
  refine cr_al hO 0 (i := 0) rfl rfl dX7_init_4 ?_
  refine cr_con hO dX7_init_5 ?_
  refine cr_con hO dX7_init_6 ?_
  refine cr_mna hO 3 rfl (by decide) kl_X7_9 aw_int (by decide) dX7_init_7 (fun q0 q1 q2 q3 => ?_)
  refine cr_put hO fw_X7_11 0 rfl (by rfl) (by rfl) (Nat.le_of_ble_eq_true rfl) dX7_init_11 ?_
  refine cr_al hO 0 (i := 0) rfl rfl dX7_init_14 ?_
  refine cr_con hO dX7_init_15 ?_
  refine cr_newI hO 3 rfl (by decide) aw_int (by decide) dX7_init_16 (fun q4 => ?_)
  refine cr_put hO fw_X7_16 0 rfl (by rfl) (by rfl) (Nat.le_of_ble_eq_true rfl) dX7_init_18 ?_
  refine cr_al hO 0 (i := 0) rfl rfl dX7_init_21 ?_
  refine cr_con hO dX7_init_22 ?_
  refine cr_newI hO 3 rfl (by decide) aw_int (by decide) dX7_init_23 (fun q5 => ?_)
  refine cr_put hO fw_X7_20 0 rfl (by rfl) (by rfl) (Nat.le_of_ble_eq_true rfl) dX7_init_25 ?_
  refine cr_al hO 0 (i := 0) rfl rfl dX7_init_28 ?_
  refine cr_con hO dX7_init_29 ?_
  refine cr_newZ hO 3 rfl (by decide) aw_bool (by decide) dX7_init_30 (fun q6 => ?_)
  refine cr_put hO fw_X7_23 0 rfl (by rfl) (by rfl) (Nat.le_of_ble_eq_true rfl) dX7_init_32 ?_
  refine cr_al hO 0 (i := 0) rfl rfl dX7_init_35 ?_
  refine cr_al hO 1 (i := 1) rfl rfl dX7_init_36 ?_
  refine cr_put hO fw_X7_27 0 rfl (by rfl) (by rfl) (Nat.le_of_ble_eq_true rfl) dX7_init_37 ?_
  refine cr_al hO 0 (i := 0) rfl rfl dX7_init_40 ?_
  refine cr_al hO 2 (i := 2) rfl rfl dX7_init_41 ?_
  refine cr_put hO fw_X7_31 0 rfl (by rfl) (by rfl) (Nat.le_of_ble_eq_true rfl) dX7_init_42 ?_
  refine cr_al hO 0 (i := 0) rfl rfl dX7_init_45 ?_
  refine cr_al hO 3 (i := 3) rfl rfl dX7_init_46 ?_
  refine cr_put hO fw_X7_34 0 rfl (by rfl) (by rfl) (Nat.le_of_ble_eq_true rfl) dX7_init_47 ?_
  exact cr_ret hO hlk hsub (fun i => [q0, q1, q2, q3, q4, q5, q6].getD i 0) rfl dX7_init_50
