/-! CONSTRUCTOR OF THE CLASS: the walk -/
def b8 (a : Nat) : va_W := [(a, .inr (8, [.null, .null, .null, .null, .null, .null, .null, .null, .null, .null, .int 0]))]
set_option maxRecDepth 100000 in
set_option maxHeartbeats 4000000 in
theorem x8_a {X : CX} {G : Ge} {A : Nat → Prop} {Q : State → Prop} {a : Nat} (hO : CO X G A cX8_init 2 RX8 rm8) (k : ∀ (tx te ch dk va wa ke co fa sh : Nat) (r1 r6 r7 r3 r0 r2 : Nat → Nat), CA X G A 2 41 1149 Q 142 [(0, .ref a)] [] ((a, .inr (8, [.ref tx, .ref te, .ref ch, .ref dk, .ref va, .ref wa, .ref ke, .ref co, .ref fa, .ref sh, .int 0])) :: (tx, .inl (G.2.2.1 3, 4, .inr (.inr (.inr (.inr (fun _ => none)))))) :: (te, .inl (G.2.2.1 0, 7, .inl (fun _ => 0))) :: (ch, .inl (G.2.2.1 0, 3, .inl (fun _ => 0))) :: (sh, .inl (G.2.2.1 4, 4, .inr (.inr (.inr (.inr (fun _ => none)))))) :: (k1 G dk (r1 0) (r1 1) (r1 2) ++ (k6 G va tx te dk (r6 0) (r6 1) (r6 2) (r6 3) (r6 4) (r6 5) (r6 6) (r6 7) (r6 8) (r6 9) (r6 10) ++ (k7 G wa va te ch (r7 0) (r7 1) (r7 2) (r7 3) (r7 4) (r7 5) (r7 6) ++ (k3 G ke va ++ (k0 G co va ch (r0 0) (r0 1) (r0 2) (r0 3) (r0 4) (r0 5) (r0 6) ++ k2 G fa (r2 0) (r2 1) (r2 2)))))))) : CA X G A 2 0 0 Q 0 [(0, .ref a)] [] (b8 a) := by
  show CA X G A 2 0 0 Q 0 [(0, .ref a)] [] ((a, .inr (8, [.null, .null, .null, .null, .null, .null, .null, .null, .null, .null, .int 0])) :: [])
  refine cr_al hO 0 (i := 0) rfl rfl dX8_init_0 ?_
  refine cr_ini hO lk_X8_3 oi_inst oi_code (by decide) dX8_init_1 ?_
  refine cr_al hO 0 (i := 0) rfl rfl dX8_init_4 ?_
  refine cr_con hO dX8_init_5 ?_
  refine cr_newq0 (t0 := 3) hO 4 rfl (by decide) rfl (fun _ h => h.1) kl_X8_9 (by decide) dX8_init_6 (fun tx => ?_)
  refine cr_put0 hO fw_X8_11 (fs' := [.ref tx, .null, .null, .null, .null, .null, .null, .null, .null, .null, .int 0]) rfl rfl rfl (Nat.le_of_ble_eq_true rfl) dX8_init_9 ?_
  refine cr_al hO 0 (i := 0) rfl rfl dX8_init_12 ?_
  refine cr_bip hO (by decide) dX8_init_13 ?_
  refine cr_newI0 hO 7 rfl (by decide) (by decide) dX8_init_15 (fun te => ?_)
  refine cr_put0 hO fw_X8_15 (fs' := [.ref tx, .ref te, .null, .null, .null, .null, .null, .null, .null, .null, .int 0]) rfl rfl rfl (Nat.le_of_ble_eq_true rfl) dX8_init_17 ?_
  refine cr_al hO 0 (i := 0) rfl rfl dX8_init_20 ?_
  refine cr_con hO dX8_init_21 ?_
  refine cr_newI0 hO 3 rfl (by decide) (by decide) dX8_init_22 (fun ch => ?_)
  refine cr_put0 hO fw_X8_19 (fs' := [.ref tx, .ref te, .ref ch, .null, .null, .null, .null, .null, .null, .null, .int 0]) rfl rfl rfl (Nat.le_of_ble_eq_true rfl) dX8_init_24 ?_
  refine cr_al hO 0 (i := 0) rfl rfl dX8_init_27 ?_
  refine cr_new0 hO no_X8_22 (by decide) dX8_init_28 (fun dk => ?_)
  refine cr_dup hO rfl dX8_init_31 ?_
  refine cr_callN0 (w1 := fun r => k1 G dk (r 0) (r 1) (r 2)) hO (fun sz => ci_X1 X.2.1 G dk sz) mb_X1_init rfl ii_X1_init lk_X8_24 rfl (by decide) (by decide) (Nat.le_of_ble_eq_true rfl) rfl dX8_init_32 (fun r1 => ?_)
  refine cr_put0 hO fw_X8_25 (fs' := [.ref tx, .ref te, .ref ch, .ref dk, .null, .null, .null, .null, .null, .null, .int 0]) rfl rfl rfl (Nat.le_of_ble_eq_true rfl) dX8_init_35 ?_
  refine cr_al hO 0 (i := 0) rfl rfl dX8_init_38 ?_
  refine cr_new0 hO no_X8_29 (by decide) dX8_init_39 (fun va => ?_)
  refine cr_dup hO rfl dX8_init_42 ?_
  refine cr_al hO 0 (i := 0) rfl rfl dX8_init_43 ?_
  refine cr_get0 hO fl_X8_11 rfl dX8_init_44 ?_
  refine cr_al hO 0 (i := 0) rfl rfl dX8_init_47 ?_
  refine cr_get0 hO fl_X8_15 rfl dX8_init_48 ?_
  refine cr_al hO 0 (i := 0) rfl rfl dX8_init_51 ?_
  refine cr_get0 hO fl_X8_25 rfl dX8_init_52 ?_
  refine cr_call0 (w1 := fun r => k6 G va tx te dk (r 0) (r 1) (r 2) (r 3) (r 4) (r 5) (r 6) (r 7) (r 8) (r 9) (r 10)) hO (fun sz => ci_X6 X.2.1 G va sz tx te dk) mb_X6_init rfl ii_X6_init lk_X8_31 rfl (by decide) (by decide) (Nat.le_of_ble_eq_true rfl) rfl dX8_init_55 (fun r6 => ?_)
  refine cr_put0 hO fw_X8_34 (fs' := [.ref tx, .ref te, .ref ch, .ref dk, .ref va, .null, .null, .null, .null, .null, .int 0]) rfl rfl rfl (Nat.le_of_ble_eq_true rfl) dX8_init_58 ?_
  refine cr_al hO 0 (i := 0) rfl rfl dX8_init_61 ?_
  refine cr_new0 hO no_X8_38 (by decide) dX8_init_62 (fun wa => ?_)
  refine cr_dup hO rfl dX8_init_65 ?_
  refine cr_al hO 0 (i := 0) rfl rfl dX8_init_66 ?_
  refine cr_get0 hO fl_X8_34 rfl dX8_init_67 ?_
  refine cr_al hO 0 (i := 0) rfl rfl dX8_init_70 ?_
  refine cr_get0 hO fl_X8_15 rfl dX8_init_71 ?_
  refine cr_al hO 0 (i := 0) rfl rfl dX8_init_74 ?_
  refine cr_get0 hO fl_X8_19 rfl dX8_init_75 ?_
  refine cr_call0 (w1 := fun r => k7 G wa va te ch (r 0) (r 1) (r 2) (r 3) (r 4) (r 5) (r 6)) hO (fun sz => ci_X7 X.2.1 G wa sz va te ch) mb_X7_init rfl ii_X7_init lk_X8_40 rfl (by decide) (by decide) (Nat.le_of_ble_eq_true rfl) rfl dX8_init_78 (fun r7 => ?_)
  refine cr_put0 hO fw_X8_43 (fs' := [.ref tx, .ref te, .ref ch, .ref dk, .ref va, .ref wa, .null, .null, .null, .null, .int 0]) rfl rfl rfl (Nat.le_of_ble_eq_true rfl) dX8_init_81 ?_
  refine cr_al hO 0 (i := 0) rfl rfl dX8_init_84 ?_
  refine cr_new0 hO no_X8_47 (by decide) dX8_init_85 (fun ke => ?_)
  refine cr_dup hO rfl dX8_init_88 ?_
  refine cr_al hO 0 (i := 0) rfl rfl dX8_init_89 ?_
  refine cr_get0 hO fl_X8_34 rfl dX8_init_90 ?_
  refine cr_call0 (w1 := fun r => k3 G ke va) hO (fun sz => ci_X3 X.2.1 G ke sz va) mb_X3_init rfl ii_X3_init lk_X8_49 rfl (by decide) (by decide) (Nat.le_of_ble_eq_true rfl) rfl dX8_init_93 (fun r3 => ?_)
  refine cr_put0 hO fw_X8_52 (fs' := [.ref tx, .ref te, .ref ch, .ref dk, .ref va, .ref wa, .ref ke, .null, .null, .null, .int 0]) rfl rfl rfl (Nat.le_of_ble_eq_true rfl) dX8_init_96 ?_
  refine cr_al hO 0 (i := 0) rfl rfl dX8_init_99 ?_
  refine cr_new0 hO no_X8_56 (by decide) dX8_init_100 (fun co => ?_)
  refine cr_dup hO rfl dX8_init_103 ?_
  refine cr_al hO 0 (i := 0) rfl rfl dX8_init_104 ?_
  refine cr_get0 hO fl_X8_34 rfl dX8_init_105 ?_
  refine cr_al hO 0 (i := 0) rfl rfl dX8_init_108 ?_
  refine cr_get0 hO fl_X8_19 rfl dX8_init_109 ?_
  refine cr_call0 (w1 := fun r => k0 G co va ch (r 0) (r 1) (r 2) (r 3) (r 4) (r 5) (r 6)) hO (fun sz => ci_X0 X.2.1 G co sz va ch) mb_X0_init rfl ii_X0_init lk_X8_58 rfl (by decide) (by decide) (Nat.le_of_ble_eq_true rfl) rfl dX8_init_112 (fun r0 => ?_)
  refine cr_put0 hO fw_X8_61 (fs' := [.ref tx, .ref te, .ref ch, .ref dk, .ref va, .ref wa, .ref ke, .ref co, .null, .null, .int 0]) rfl rfl rfl (Nat.le_of_ble_eq_true rfl) dX8_init_115 ?_
  refine cr_al hO 0 (i := 0) rfl rfl dX8_init_118 ?_
  refine cr_new0 hO no_X8_65 (by decide) dX8_init_119 (fun fa => ?_)
  refine cr_dup hO rfl dX8_init_122 ?_
  refine cr_callN0 (w1 := fun r => k2 G fa (r 0) (r 1) (r 2)) hO (fun sz => ci_X2 X.2.1 G fa sz) mb_X2_init rfl ii_X2_init lk_X8_67 rfl (by decide) (by decide) (Nat.le_of_ble_eq_true rfl) rfl dX8_init_123 (fun r2 => ?_)
  refine cr_put0 hO fw_X8_68 (fs' := [.ref tx, .ref te, .ref ch, .ref dk, .ref va, .ref wa, .ref ke, .ref co, .ref fa, .null, .int 0]) rfl rfl rfl (Nat.le_of_ble_eq_true rfl) dX8_init_126 ?_
  refine cr_al hO 0 (i := 0) rfl rfl dX8_init_129 ?_
  refine cr_con hO dX8_init_130 ?_
  refine cr_newq0 (t0 := 4) hO 4 rfl (by decide) rfl (fun _ h => h.2.1) kl_X8_72 (by decide) dX8_init_131 (fun sh => ?_)
  refine cr_put0 hO fw_X8_74 (fs' := [.ref tx, .ref te, .ref ch, .ref dk, .ref va, .ref wa, .ref ke, .ref co, .ref fa, .ref sh, .int 0]) rfl rfl rfl (Nat.le_of_ble_eq_true rfl) dX8_init_134 ?_
  refine cr_al hO 0 (i := 0) rfl rfl dX8_init_137 ?_
  refine cr_con hO dX8_init_138 ?_
  refine cr_put0 hO fw_X8_78 (fs' := [.ref tx, .ref te, .ref ch, .ref dk, .ref va, .ref wa, .ref ke, .ref co, .ref fa, .ref sh, .int 0]) rfl rfl rfl (Nat.le_of_ble_eq_true rfl) dX8_init_139 ?_
  refine cr_eqn rfl rfl (cr_eq (ws' := (a, .inr (8, [.ref tx, .ref te, .ref ch, .ref dk, .ref va, .ref wa, .ref ke, .ref co, .ref fa, .ref sh, .int 0])) :: (tx, .inl (G.2.2.1 3, 4, .inr (.inr (.inr (.inr (fun _ => none)))))) :: (te, .inl (G.2.2.1 0, 7, .inl (fun _ => 0))) :: (ch, .inl (G.2.2.1 0, 3, .inl (fun _ => 0))) :: ((k1 G dk (r1 0) (r1 1) (r1 2) ++ (k6 G va tx te dk (r6 0) (r6 1) (r6 2) (r6 3) (r6 4) (r6 5) (r6 6) (r6 7) (r6 8) (r6 9) (r6 10) ++ (k7 G wa va te ch (r7 0) (r7 1) (r7 2) (r7 3) (r7 4) (r7 5) (r7 6) ++ (k3 G ke va ++ (k0 G co va ch (r0 0) (r0 1) (r0 2) (r0 3) (r0 4) (r0 5) (r0 6) ++ k2 G fa (r2 0) (r2 1) (r2 2)))))) ++ [(sh, .inl (G.2.2.1 4, 4, .inr (.inr (.inr (.inr (fun _ => none))))))])) ?_ (cr_permL (((((List.perm_append_singleton _ _).cons _).cons _).cons _).cons _) (k tx te ch dk va wa ke co fa sh r1 r6 r7 r3 r0 r2)))
  simp only [List.nil_append, List.cons_append, List.append_assoc]
def w8 (G : Ge) (a : Nat) : (Nat → Nat) → va_W := fun r => (a, .inr (8, [.ref (r 0), .ref (r 1), .ref (r 2), .ref (r 4), .ref (r 5), .ref (r 6), .ref (r 7), .ref (r 8), .ref (r 9), .ref (r 3), .int 0])) :: ((r 0), .inl (G.2.2.1 3, 4, .inr (.inr (.inr (.inr (va_up (va_up (va_up (va_up (fun _ => none) 0 (some (r 41))) 1 (some (r 43))) 2 (some (r 45))) 3 (some (r 47)))))))) :: ((r 1), .inl (G.2.2.1 0, 7, .inl (upd (upd (upd (upd (upd (upd (upd (fun _ => 0) 0 (Int32.ofInt (rr_TF 0))) 1 (Int32.ofInt (rr_TF 1))) 2 (Int32.ofInt (rr_TF 2))) 3 (Int32.ofInt (rr_TF 3))) 4 (Int32.ofInt (rr_TF 4))) 5 (Int32.ofInt (rr_TF 5))) 6 (Int32.ofInt (rr_TF 6))))) :: ((r 2), .inl (G.2.2.1 0, 3, .inl (upd (upd (upd (fun _ => 0) 0 (Int32.ofInt 1)) 1 (Int32.ofInt 1)) 2 (Int32.ofInt 1)))) :: ((r 3), .inl (G.2.2.1 4, 4, .inr (.inr (.inr (.inr (va_up (va_up (va_up (va_up (fun _ => none) 0 (some (r 49))) 1 (some (r 51))) 2 (some (r 53))) 3 (some (r 55)))))))) :: (((((((((k1 G (r 4) (r 10) (r 11) (r 12) ++ (k6 G (r 5) (r 0) (r 1) (r 4) (r 13) (r 14) (r 15) (r 16) (r 17) (r 18) (r 19) (r 20) (r 21) (r 22) (r 23) ++ (k7 G (r 6) (r 5) (r 1) (r 2) (r 24) (r 25) (r 26) (r 27) (r 28) (r 29) (r 30) ++ (k3 G (r 7) (r 5) ++ (k0 G (r 8) (r 5) (r 2) (r 31) (r 32) (r 33) (r 34) (r 35) (r 36) (r 37) ++ k2 G (r 9) (r 38) (r 39) (r 40)))))) ++ k5 G 30 (r 41) (r 42)) ++ k5 G 30 (r 43) (r 44)) ++ k5 G 30 (r 45) (r 46)) ++ k5 G 12 (r 47) (r 48)) ++ k4 G (r 49) (r 50)) ++ k4 G (r 51) (r 52)) ++ k4 G (r 53) (r 54)) ++ k4 G (r 55) (r 56))
set_option maxRecDepth 100000 in
set_option maxHeartbeats 4000000 in
theorem ci_X8 (l : Launch) (G : Ge) (a sz tf : Nat) : Met l yX8_init (.code yX8_init cX8_init 2 none :: rr_tbl) rm8 (va_Pc [.ref a] (PE G (b8 a) sz tf)) (QI G (w8 G a) (b8 a) sz) 57 1511 (va_A (b8 a) sz) := by
  refine cr_mkE RX8 (by decide) rfl rfl (Nat.le_of_ble_eq_true rfl) (lv := [(0, .ref a)]) rfl (fun X A hsz hD hsub hlk hO hE => ?_)
  refine x8_a hO (fun tx te ch dk va wa ke co fa sh r1 r6 r7 r3 r0 r2 => ?_)
  refine cr_con hO dX8_init_142 ?_
  refine cr_ist hO (i := 1) rfl (by decide) (lv' := [(1, vi ((0 : Nat) : Int)), (0, .ref a)]) rfl dX8_init_143 ?_
  refine x8_t hO rfl 0 (by decide) (by decide) (fun t0 b0 => ?_)
  refine x8_t hO rfl 1 (by decide) (by decide) (fun t1 b1 => ?_)
  refine x8_t hO rfl 2 (by decide) (by decide) (fun t2 b2 => ?_)
  refine x8_t3 hO rfl 3 rfl (by decide) (fun t3 b3 => ?_)
  refine cr_il hO 0 (i := 1) rfl rfl dX8_init_144 ?_
  refine cr_con hO dX8_init_145 ?_
  refine cr_geY hO (by decide) (by decide) (by decide) dX8_init_146 180 rfl ?_
  refine cr_con hO dX8_init_180 ?_
  refine cr_ist hO (i := 1) rfl (by decide) (lv' := [(1, vi ((0 : Nat) : Int)), (0, .ref a)]) rfl dX8_init_181 ?_
  refine x8_m hO hE rfl 0 (by decide) ?_
  refine x8_m hO hE rfl 1 (by decide) ?_
  refine x8_m hO hE rfl 2 (by decide) ?_
  refine x8_m hO hE rfl 3 (by decide) ?_
  refine x8_m hO hE rfl 4 (by decide) ?_
  refine x8_m hO hE rfl 5 (by decide) ?_
  refine x8_m hO hE rfl 6 (by decide) ?_
  refine cr_il hO 0 (i := 1) rfl rfl dX8_init_182 ?_
  refine cr_bip hO (by decide) dX8_init_183 ?_
  refine cr_geY hO (by decide) (by decide) (by decide) dX8_init_185 205 rfl ?_
  refine cr_con hO dX8_init_205 ?_
  refine cr_ist hO (i := 1) rfl (by decide) (lv' := [(1, vi ((0 : Nat) : Int)), (0, .ref a)]) rfl dX8_init_206 ?_
  refine x8_c hO rfl 0 (by decide) ?_
  refine x8_c hO rfl 1 (by decide) ?_
  refine x8_c hO rfl 2 (by decide) ?_
  refine cr_il hO 0 (i := 1) rfl rfl dX8_init_207 ?_
  refine cr_con hO dX8_init_208 ?_
  refine cr_geY hO (by decide) (by decide) (by decide) dX8_init_209 225 rfl ?_
  refine cr_con hO dX8_init_225 ?_
  refine cr_ist hO (i := 1) rfl (by decide) (lv' := [(1, vi ((0 : Nat) : Int)), (0, .ref a)]) rfl dX8_init_226 ?_
  refine x8_h hO rfl 0 (by decide) (by decide) (fun s0 i0 => ?_)
  refine x8_h hO rfl 1 (by decide) (by decide) (fun s1 i1 => ?_)
  refine x8_h hO rfl 2 (by decide) (by decide) (fun s2 i2 => ?_)
  refine x8_h hO rfl 3 (by decide) (by decide) (fun s3 i3 => ?_)
  refine cr_il hO 0 (i := 1) rfl rfl dX8_init_227 ?_
  refine cr_con hO dX8_init_228 ?_
  refine cr_geY hO (by decide) (by decide) (by decide) dX8_init_229 251 rfl ?_
  refine cr_eqn (m0 := 57) (m1 := 1511) rfl rfl ?_
  exact cr_ret hO hlk hsub (fun i => [tx, te, ch, sh, dk, va, wa, ke, co, fa, r1 0, r1 1, r1 2, r6 0, r6 1, r6 2, r6 3, r6 4, r6 5, r6 6, r6 7, r6 8, r6 9, r6 10, r7 0, r7 1, r7 2, r7 3, r7 4, r7 5, r7 6, r0 0, r0 1, r0 2, r0 3, r0 4, r0 5, r0 6, r2 0, r2 1, r2 2, t0, b0, t1, b1, t2, b2, t3, b3, s0, i0, s1, i1, s2, i2, s3, i3].getD i 0) rfl dX8_init_251
