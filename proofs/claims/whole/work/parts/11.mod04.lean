def f_X9_keep (s : St) (p1 p2 p3 p4 p5 p6 : Int) : Option Rt := cll (f_X9_isWay s p1 p2 p3 p4) (fun r1 s2 => chk (in32 r1) ((if r1 = 0 then some ((-2), s2) else chk (in32 p5) (cll (f_X9_in s2 p5 1 12) (fun r5 s6 => chk (in32 r5) ((if r5 = 0 then some ((-2), s6) else chk (in32 p6) (cll (f_X9_in s6 p6 0 2) (fun r9 s10 => chk (in32 r9) ((if r9 = 0 then some ((-2), s10) else cll (f_X9_keepOf s10 p1 p2 p3 p4 p5 p6) (fun r12 s13 => some (r12, s13)))))))))))))
set_option maxRecDepth 100000 in
set_option maxHeartbeats 4000000 in
theorem c_X9_keep (l : Launch) (G : Ge) (hG : rr_GD G) (s : St) (p1 p2 p3 p4 p5 p6 : Int) : rr_Ct l G yX9_keep cX9_keep 7 (some .int) 8 199 1 [vr G 58, vi p1, vi p2, vi p3, vi p4, vi p5, vi p6] s (f_X9_keep s p1 p2 p3 p4 p5 p6) := by
  refine rr_mk (lv := [(0, vr G 58), (1, vi p1), (2, vi p2), (3, vi p3), (4, vi p4), (5, vi p5), (6, vi p6)]) RX9 (by decide) rfl hG (Nat.le_of_ble_eq_true rfl) rfl ?_
  intro X Z hO hf
  unfold f_X9_keep at hf
  refine at_aload_n hO 0 rfl rfl dX9_keep_0 1 rfl ?_
  refine at_iload_n hO 1 rfl rfl dX9_keep_1 2 rfl ?_
  refine at_iload_n hO 2 rfl rfl dX9_keep_2 3 rfl ?_
  refine at_iload_n hO 3 rfl rfl dX9_keep_3 4 rfl ?_
  refine at_iload hO 4 rfl dX9_keep_4 6 rfl ?_
  refine at_callV1 (As := [vi p1, vi p2, vi p3, vi p4]) (st := []) hO (c_X9_isWay _ G hO.g s p1 p2 p3 p4) mb_X9_isWay mi_X9_isWay lk_X9_151 rfl ⟨_, rfl, rfl⟩ rfl ⟨(Nat.le_of_ble_eq_true rfl), (Nat.le_of_ble_eq_true rfl)⟩ (Nat.le_of_ble_eq_true rfl) rfl dX9_keep_6 9 rfl hf (fun r1 s2 hf => ?_)
  obtain ⟨h3, hf⟩ := chk_some hf
  refine at_if_eq hO h3 dX9_keep_9 54 rfl 12 rfl hf (fun hf => ?_) (fun hf => ?_)
  · refine at_bipush hO (by decide) dX9_keep_54 56 rfl ?_
    exact at_ireturn hO dX9_keep_56 hf
  · refine at_iload hO 5 rfl dX9_keep_12 14 rfl ?_
    obtain ⟨h4, hf⟩ := chk_some hf
    refine at_i2l hO h4 dX9_keep_14 15 rfl ?_
    refine at_lconst (n := 1) hO (by decide) dX9_keep_15 16 rfl ?_
    refine at_ldc2_w (n := 12) hO lc_X9_203 (by decide) dX9_keep_16 19 rfl ?_
    refine at_callS1 (As := [vl p5, vl 1, vl 12]) (st := []) hO (c_X9_in _ G hO.g s2 p5 1 12) mb_X9_in ms_X9_in lk_X9_49 rfl ⟨(Nat.le_of_ble_eq_true rfl), (Nat.le_of_ble_eq_true rfl)⟩ (Nat.le_of_ble_eq_true rfl) rfl dX9_keep_19 22 rfl hf (fun r5 s6 hf => ?_)
    obtain ⟨h7, hf⟩ := chk_some hf
    refine at_if_eq hO h7 dX9_keep_22 54 rfl 25 rfl hf (fun hf => ?_) (fun hf => ?_)
    · refine at_bipush hO (by decide) dX9_keep_54 56 rfl ?_
      exact at_ireturn hO dX9_keep_56 hf
    · refine at_iload hO 6 rfl dX9_keep_25 27 rfl ?_
      obtain ⟨h8, hf⟩ := chk_some hf
      refine at_i2l hO h8 dX9_keep_27 28 rfl ?_
      refine at_lconst (n := 0) hO (by decide) dX9_keep_28 29 rfl ?_
      refine at_ldc2_w (n := 2) hO lc_X9_63 (by decide) dX9_keep_29 32 rfl ?_
      refine at_callS1 (As := [vl p6, vl 0, vl 2]) (st := []) hO (c_X9_in _ G hO.g s6 p6 0 2) mb_X9_in ms_X9_in lk_X9_49 rfl ⟨(Nat.le_of_ble_eq_true rfl), (Nat.le_of_ble_eq_true rfl)⟩ (Nat.le_of_ble_eq_true rfl) rfl dX9_keep_32 35 rfl hf (fun r9 s10 hf => ?_)
      obtain ⟨h11, hf⟩ := chk_some hf
      refine at_if_eq hO h11 dX9_keep_35 54 rfl 38 rfl hf (fun hf => ?_) (fun hf => ?_)
      · refine at_bipush hO (by decide) dX9_keep_54 56 rfl ?_
        exact at_ireturn hO dX9_keep_56 hf
      · refine at_aload_n hO 0 rfl rfl dX9_keep_38 39 rfl ?_
        refine at_iload_n hO 1 rfl rfl dX9_keep_39 40 rfl ?_
        refine at_iload_n hO 2 rfl rfl dX9_keep_40 41 rfl ?_
        refine at_iload_n hO 3 rfl rfl dX9_keep_41 42 rfl ?_
        refine at_iload hO 4 rfl dX9_keep_42 44 rfl ?_
        refine at_iload hO 5 rfl dX9_keep_44 46 rfl ?_
        refine at_iload hO 6 rfl dX9_keep_46 48 rfl ?_
        refine at_callV1 (As := [vi p1, vi p2, vi p3, vi p4, vi p5, vi p6]) (st := []) hO (c_X9_keepOf _ G hO.g s10 p1 p2 p3 p4 p5 p6) mb_X9_keepOf mi_X9_keepOf lk_X9_205 rfl ⟨_, rfl, rfl⟩ rfl ⟨(Nat.le_of_ble_eq_true rfl), (Nat.le_of_ble_eq_true rfl)⟩ (Nat.le_of_ble_eq_true rfl) rfl dX9_keep_48 51 rfl hf (fun r12 s13 hf => ?_)
        refine at_goto hO dX9_keep_51 56 rfl ?_
        exact at_ireturn hO dX9_keep_56 hf

def f_X9_contract (s : St) (p1 p2 p3 p4 : Int) : Option Rt := chk (in32 p1) (cll (f_X9_in s p1 0 7) (fun r2 s3 => chk (in32 r2) ((if r2 = 0 then some ((-2), s3) else cll (f_X9_isDay s3 p2) (fun r5 s6 => chk (in32 r5) ((if r5 = 0 then some ((-2), s6) else chk (in32 p3) (cll (f_X9_in s6 p3 0 99) (fun r9 s10 => chk (in32 r9) ((if r9 = 0 then some ((-2), s10) else chk (in32 p4) (cll (f_X9_in s10 p4 0 99) (fun r13 s14 => chk (in32 r13) ((if r13 = 0 then some ((-2), s14) else chk (ix (4 * p1) 32) (chk (ix ((4 * p1) + 1) 32) (chk (ix ((4 * p1) + 2) 32) (chk (ix ((4 * p1) + 3) 32) (some ((s14 69 (4 * p1).toNat), (su (su (su (su s14 69 (4 * p1).toNat 1) 69 ((4 * p1) + 1).toNat p2) 69 ((4 * p1) + 2).toNat p3) 69 ((4 * p1) + 3).toNat p4)))))))))))))))))))))
set_option maxRecDepth 100000 in
set_option maxHeartbeats 4000000 in
theorem c_X9_contract (l : Launch) (G : Ge) (hG : rr_GD G) (s : St) (p1 p2 p3 p4 : Int) : rr_Ct l G yX9_contract cX9_contract 6 (some .int) 2 45 1 [vr G 58, vi p1, vi p2, vi p3, vi p4] s (f_X9_contract s p1 p2 p3 p4) := by
  refine rr_mk (lv := [(0, vr G 58), (1, vi p1), (2, vi p2), (3, vi p3), (4, vi p4)]) RX9 (by decide) rfl hG (Nat.le_of_ble_eq_true rfl) rfl ?_
  intro X Z hO hf
  unfold f_X9_contract at hf
  refine at_iload_n hO 1 rfl rfl dX9_contract_0 1 rfl ?_
  obtain ⟨h1, hf⟩ := chk_some hf
  refine at_i2l hO h1 dX9_contract_1 2 rfl ?_
  refine at_lconst (n := 0) hO (by decide) dX9_contract_2 3 rfl ?_
  refine at_ldc2_w (n := 7) hO lc_X9_209 (by decide) dX9_contract_3 6 rfl ?_
  refine at_callS1 (As := [vl p1, vl 0, vl 7]) (st := []) hO (c_X9_in _ G hO.g s p1 0 7) mb_X9_in ms_X9_in lk_X9_49 rfl ⟨(Nat.le_of_ble_eq_true rfl), (Nat.le_of_ble_eq_true rfl)⟩ (Nat.le_of_ble_eq_true rfl) rfl dX9_contract_6 9 rfl hf (fun r2 s3 hf => ?_)
  obtain ⟨h4, hf⟩ := chk_some hf
  refine at_if_eq hO h4 dX9_contract_9 44 rfl 12 rfl hf (fun hf => ?_) (fun hf => ?_)
  · refine at_bipush hO (by decide) dX9_contract_44 46 rfl ?_
    exact at_ireturn hO dX9_contract_46 hf
  · refine at_iload_n hO 2 rfl rfl dX9_contract_12 13 rfl ?_
    refine at_callS1 (As := [vi p2]) (st := []) hO (c_X9_isDay _ G hO.g s3 p2) mb_X9_isDay ms_X9_isDay lk_X9_108 rfl ⟨(Nat.le_of_ble_eq_true rfl), (Nat.le_of_ble_eq_true rfl)⟩ (Nat.le_of_ble_eq_true rfl) rfl dX9_contract_13 16 rfl hf (fun r5 s6 hf => ?_)
    obtain ⟨h7, hf⟩ := chk_some hf
    refine at_if_eq hO h7 dX9_contract_16 44 rfl 19 rfl hf (fun hf => ?_) (fun hf => ?_)
    · refine at_bipush hO (by decide) dX9_contract_44 46 rfl ?_
      exact at_ireturn hO dX9_contract_46 hf
    · refine at_iload_n hO 3 rfl rfl dX9_contract_19 20 rfl ?_
      obtain ⟨h8, hf⟩ := chk_some hf
      refine at_i2l hO h8 dX9_contract_20 21 rfl ?_
      refine at_lconst (n := 0) hO (by decide) dX9_contract_21 22 rfl ?_
      refine at_ldc2_w (n := 99) hO lc_X9_119 (by decide) dX9_contract_22 25 rfl ?_
      refine at_callS1 (As := [vl p3, vl 0, vl 99]) (st := []) hO (c_X9_in _ G hO.g s6 p3 0 99) mb_X9_in ms_X9_in lk_X9_49 rfl ⟨(Nat.le_of_ble_eq_true rfl), (Nat.le_of_ble_eq_true rfl)⟩ (Nat.le_of_ble_eq_true rfl) rfl dX9_contract_25 28 rfl hf (fun r9 s10 hf => ?_)
      obtain ⟨h11, hf⟩ := chk_some hf
      refine at_if_eq hO h11 dX9_contract_28 44 rfl 31 rfl hf (fun hf => ?_) (fun hf => ?_)
      · refine at_bipush hO (by decide) dX9_contract_44 46 rfl ?_
        exact at_ireturn hO dX9_contract_46 hf
      · refine at_iload hO 4 rfl dX9_contract_31 33 rfl ?_
        obtain ⟨h12, hf⟩ := chk_some hf
        refine at_i2l hO h12 dX9_contract_33 34 rfl ?_
        refine at_lconst (n := 0) hO (by decide) dX9_contract_34 35 rfl ?_
        refine at_ldc2_w (n := 99) hO lc_X9_119 (by decide) dX9_contract_35 38 rfl ?_
        refine at_callS1 (As := [vl p4, vl 0, vl 99]) (st := []) hO (c_X9_in _ G hO.g s10 p4 0 99) mb_X9_in ms_X9_in lk_X9_49 rfl ⟨(Nat.le_of_ble_eq_true rfl), (Nat.le_of_ble_eq_true rfl)⟩ (Nat.le_of_ble_eq_true rfl) rfl dX9_contract_38 41 rfl hf (fun r13 s14 hf => ?_)
        obtain ⟨h15, hf⟩ := chk_some hf
        refine at_if_ne hO h15 dX9_contract_41 47 rfl 44 rfl hf (fun hf => ?_) (fun hf => ?_)
        · refine at_aload_n hO 0 rfl rfl dX9_contract_47 48 rfl ?_
          refine at_getR hO fl_X9_41 rfl rfl dX9_contract_48 51 rfl ?_
          refine at_iconst hO dX9_contract_51 52 rfl ?_
          refine at_iload_n hO 1 rfl rfl dX9_contract_52 53 rfl ?_
          refine at_imul hO dX9_contract_53 54 rfl ?_
          obtain ⟨h16, hf⟩ := chk_some hf
          refine at_iaload hO rfl (Nat.le_of_ble_eq_true rfl) h16 ((4 * p1).toNat) rfl dX9_contract_54 55 rfl ?_
          refine at_istore hO (lv' := [(5, vi (s14 69 (4 * p1).toNat)), (0, vr G 58), (1, vi p1), (2, vi p2), (3, vi p3), (4, vi p4)]) (Nat.le_of_ble_eq_true rfl) rfl dX9_contract_55 57 rfl ?_
          refine at_aload_n hO 1 rfl rfl dX9_contract_57 58 rfl ?_
          refine at_getR hO fl_X9_41 rfl rfl dX9_contract_58 61 rfl ?_
          refine at_iconst hO dX9_contract_61 62 rfl ?_
          refine at_iload_n hO 2 rfl rfl dX9_contract_62 63 rfl ?_
          refine at_imul hO dX9_contract_63 64 rfl ?_
          refine at_iconst hO dX9_contract_64 65 rfl ?_
          refine at_iastore hO rfl (Nat.le_of_ble_eq_true rfl) h16 ((4 * p1).toNat) rfl dX9_contract_65 66 rfl ?_
          refine at_aload_n hO 1 rfl rfl dX9_contract_66 67 rfl ?_
          refine at_getR hO fl_X9_41 rfl rfl dX9_contract_67 70 rfl ?_
          refine at_iconst hO dX9_contract_70 71 rfl ?_
          refine at_iload_n hO 2 rfl rfl dX9_contract_71 72 rfl ?_
          refine at_imul hO dX9_contract_72 73 rfl ?_
          refine at_iconst hO dX9_contract_73 74 rfl ?_
          refine at_iadd hO dX9_contract_74 75 rfl ?_
          refine at_iload_n hO 3 rfl rfl dX9_contract_75 76 rfl ?_
          obtain ⟨h17, hf⟩ := chk_some hf
          refine at_iastore hO rfl (Nat.le_of_ble_eq_true rfl) h17 (((4 * p1) + 1).toNat) rfl dX9_contract_76 77 rfl ?_
          refine at_aload_n hO 1 rfl rfl dX9_contract_77 78 rfl ?_
          refine at_getR hO fl_X9_41 rfl rfl dX9_contract_78 81 rfl ?_
          refine at_iconst hO dX9_contract_81 82 rfl ?_
          refine at_iload_n hO 2 rfl rfl dX9_contract_82 83 rfl ?_
          refine at_imul hO dX9_contract_83 84 rfl ?_
          refine at_iconst hO dX9_contract_84 85 rfl ?_
          refine at_iadd hO dX9_contract_85 86 rfl ?_
          refine at_iload_n hO 4 rfl rfl dX9_contract_86 87 rfl ?_
          obtain ⟨h18, hf⟩ := chk_some hf
          refine at_iastore hO rfl (Nat.le_of_ble_eq_true rfl) h18 (((4 * p1) + 2).toNat) rfl dX9_contract_87 88 rfl ?_
          refine at_aload_n hO 1 rfl rfl dX9_contract_88 89 rfl ?_
          refine at_getR hO fl_X9_41 rfl rfl dX9_contract_89 92 rfl ?_
          refine at_iconst hO dX9_contract_92 93 rfl ?_
          refine at_iload_n hO 2 rfl rfl dX9_contract_93 94 rfl ?_
          refine at_imul hO dX9_contract_94 95 rfl ?_
          refine at_iconst hO dX9_contract_95 96 rfl ?_
          refine at_iadd hO dX9_contract_96 97 rfl ?_
          refine at_iload hO 5 rfl dX9_contract_97 99 rfl ?_
          obtain ⟨h19, hf⟩ := chk_some hf
          refine at_iastore hO rfl (Nat.le_of_ble_eq_true rfl) h19 (((4 * p1) + 3).toNat) rfl dX9_contract_99 100 rfl ?_
          refine at_iload hO 0 rfl dX9_contract_100 102 rfl ?_
          exact at_ireturn hO dX9_contract_102 hf
        · refine at_bipush hO (by decide) dX9_contract_44 46 rfl ?_
          exact at_ireturn hO dX9_contract_46 hf

def f_X9_tears (s : St) (p1 : Int) : Option Rt := chk (in32 p1) (cll (f_X9_in s p1 0 7) (fun r2 s3 => chk (in32 r2) ((if r2 = 0 then some ((-2), s3) else chk (ix (4 * p1) 32) (some ((s3 69 (4 * p1).toNat), (su s3 69 (4 * p1).toNat 0)))))))
set_option maxRecDepth 100000 in
set_option maxHeartbeats 4000000 in
theorem c_X9_tears (l : Launch) (G : Ge) (hG : rr_GD G) (s : St) (p1 : Int) : rr_Ct l G yX9_tears cX9_tears 3 (some .int) 1 25 1 [vr G 58, vi p1] s (f_X9_tears s p1) := by
  refine rr_mk (lv := [(0, vr G 58), (1, vi p1)]) RX9 (by decide) rfl hG (Nat.le_of_ble_eq_true rfl) rfl ?_
  intro X Z hO hf
  unfold f_X9_tears at hf
  refine at_iload_n hO 1 rfl rfl dX9_tears_0 1 rfl ?_
  obtain ⟨h1, hf⟩ := chk_some hf
  refine at_i2l hO h1 dX9_tears_1 2 rfl ?_
  refine at_lconst (n := 0) hO (by decide) dX9_tears_2 3 rfl ?_
  refine at_ldc2_w (n := 7) hO lc_X9_209 (by decide) dX9_tears_3 6 rfl ?_
  refine at_callS1 (As := [vl p1, vl 0, vl 7]) (st := []) hO (c_X9_in _ G hO.g s p1 0 7) mb_X9_in ms_X9_in lk_X9_49 rfl ⟨(Nat.le_of_ble_eq_true rfl), (Nat.le_of_ble_eq_true rfl)⟩ (Nat.le_of_ble_eq_true rfl) rfl dX9_tears_6 9 rfl hf (fun r2 s3 hf => ?_)
  obtain ⟨h4, hf⟩ := chk_some hf
  refine at_if_ne hO h4 dX9_tears_9 15 rfl 12 rfl hf (fun hf => ?_) (fun hf => ?_)
  · refine at_aload_n hO 0 rfl rfl dX9_tears_15 16 rfl ?_
    refine at_getR hO fl_X9_41 rfl rfl dX9_tears_16 19 rfl ?_
    refine at_iconst hO dX9_tears_19 20 rfl ?_
    refine at_iload_n hO 1 rfl rfl dX9_tears_20 21 rfl ?_
    refine at_imul hO dX9_tears_21 22 rfl ?_
    obtain ⟨h5, hf⟩ := chk_some hf
    refine at_iaload hO rfl (Nat.le_of_ble_eq_true rfl) h5 ((4 * p1).toNat) rfl dX9_tears_22 23 rfl ?_
    refine at_istore_n hO (lv' := [(2, vi (s3 69 (4 * p1).toNat)), (0, vr G 58), (1, vi p1)]) rfl (Nat.le_of_ble_eq_true rfl) rfl dX9_tears_23 24 rfl ?_
    refine at_aload_n hO 1 rfl rfl dX9_tears_24 25 rfl ?_
    refine at_getR hO fl_X9_41 rfl rfl dX9_tears_25 28 rfl ?_
    refine at_iconst hO dX9_tears_28 29 rfl ?_
    refine at_iload_n hO 2 rfl rfl dX9_tears_29 30 rfl ?_
    refine at_imul hO dX9_tears_30 31 rfl ?_
    refine at_iconst hO dX9_tears_31 32 rfl ?_
    refine at_iastore hO rfl (Nat.le_of_ble_eq_true rfl) h5 ((4 * p1).toNat) rfl dX9_tears_32 33 rfl ?_
    refine at_iload_n hO 0 rfl rfl dX9_tears_33 34 rfl ?_
    exact at_ireturn hO dX9_tears_34 hf
  · refine at_bipush hO (by decide) dX9_tears_12 14 rfl ?_
    exact at_ireturn hO dX9_tears_14 hf

def B_X9_brings_65 (rec12 : St → Int → Int → Int → Int → Option Rt) (s : St) (v1 v3 v5 t0 t1 : Int) : Option Rt := chk (ix ((4 * v5) + 3) 32) (rec12 s v1 v3 ((t1 + t0) - (s 69 ((4 * v5) + 3).toNat)) (v5 + 1))
set_option maxRecDepth 100000 in
set_option maxHeartbeats 4000000 in
theorem wB_X9_brings_65 {X : CX} {G : Ge} {Z : Rt} {rec12 : St → Int → Int → Int → Int → Option Rt} (hO : rr_OK X G cX9_brings 6 RX9 (some .int) 5 112) (hrec12 : ∀ (s : St) (v1 v3 v4 v5 : Int), rec12 s v1 v3 v4 v5 = some Z → rr_AT X G 6 1 Z 12 [(0, vr G 58), (1, vi v1), (3, vi v3), (4, vi v4), (5, vi v5)] [] s) (s : St) (v1 v3 v5 t0 t1 : Int) (hf : B_X9_brings_65 rec12 s v1 v3 v5 t0 t1 = some Z) : rr_AT X G 6 1 Z 65 [(0, vr G 58), (1, vi v1), (3, vi v3), (5, vi v5)] [vi t0, vi t1] s := by
  unfold B_X9_brings_65 at hf
  refine at_iadd hO dX9_brings_65 66 rfl ?_
  refine at_istore hO (lv' := [(4, vi (t1 + t0)), (0, vr G 58), (1, vi v1), (3, vi v3), (5, vi v5)]) (Nat.le_of_ble_eq_true rfl) rfl dX9_brings_66 68 rfl ?_
  refine at_iload hO 0 rfl dX9_brings_68 70 rfl ?_
  refine at_aload_n hO 1 rfl rfl dX9_brings_70 71 rfl ?_
  refine at_getR hO fl_X9_41 rfl rfl dX9_brings_71 74 rfl ?_
  refine at_iconst hO dX9_brings_74 75 rfl ?_
  refine at_iload hO 4 rfl dX9_brings_75 77 rfl ?_
  refine at_imul hO dX9_brings_77 78 rfl ?_
  refine at_iconst hO dX9_brings_78 79 rfl ?_
  refine at_iadd hO dX9_brings_79 80 rfl ?_
  obtain ⟨h1, hf⟩ := chk_some hf
  refine at_iaload hO rfl (Nat.le_of_ble_eq_true rfl) h1 (((4 * v5) + 3).toNat) rfl dX9_brings_80 81 rfl ?_
  refine at_isub hO dX9_brings_81 82 rfl ?_
  refine at_istore hO (lv' := [(4, vi ((t1 + t0) - (s 69 ((4 * v5) + 3).toNat))), (0, vr G 58), (1, vi v1), (3, vi v3), (5, vi v5)]) (Nat.le_of_ble_eq_true rfl) rfl dX9_brings_82 84 rfl ?_
  refine at_iinc hO (lv' := [(5, vi (v5 + 1)), (4, vi ((t1 + t0) - (s 69 ((4 * v5) + 3).toNat))), (0, vr G 58), (1, vi v1), (3, vi v3)]) 4 rfl (Nat.le_of_ble_eq_true rfl) rfl dX9_brings_84 87 rfl ?_
  refine at_goto hO dX9_brings_87 12 rfl ?_
  exact at_sub (fun ls h => lv_sub h [2, 3, 4, 1, 0] rfl) (hrec12 s v1 v3 ((t1 + t0) - (s 69 ((4 * v5) + 3).toNat)) (v5 + 1) hf)
def S_X9_brings_12 (rec12 : St → Int → Int → Int → Int → Option Rt) (s : St) (v1 v3 v4 v5 : Int) : Option Rt := chk (in32 v5) ((if 8 ≤ v5 then some (v4, s) else cll (f_X9_isIn s v1 v5) (fun r2 s3 => chk (in32 r2) ((if r2 = 0 then rec12 s3 v1 v3 v4 (v5 + 1) else chk (in32 v3) ((if v3 = (-1) then B_X9_brings_65 rec12 s3 v1 v3 v5 0 v4 else chk (ix ((4 * v5) + 1) 32) (chk (in32 (s3 69 ((4 * v5) + 1).toNat)) ((if (s3 69 ((4 * v5) + 1).toNat) < v3 then B_X9_brings_65 rec12 s3 v1 v3 v5 0 v4 else chk (ix ((4 * v5) + 2) 32) (B_X9_brings_65 rec12 s3 v1 v3 v5 (s3 69 ((4 * v5) + 2).toNat) v4)))))))))))
def L_X9_brings_12 : Nat → St → Int → Int → Int → Int → Option Rt
  | 0, _, _, _, _, _ => none
  | n + 1, s, v1, v3, v4, v5 => S_X9_brings_12 (L_X9_brings_12 n) s v1 v3 v4 v5
set_option maxRecDepth 100000 in
set_option maxHeartbeats 4000000 in
theorem wS_X9_brings_12 {X : CX} {G : Ge} {Z : Rt} {rec12 : St → Int → Int → Int → Int → Option Rt} (hO : rr_OK X G cX9_brings 6 RX9 (some .int) 5 112) (hrec12 : ∀ (s : St) (v1 v3 v4 v5 : Int), rec12 s v1 v3 v4 v5 = some Z → rr_AT X G 6 1 Z 12 [(0, vr G 58), (1, vi v1), (3, vi v3), (4, vi v4), (5, vi v5)] [] s) (s : St) (v1 v3 v4 v5 : Int) (hf : S_X9_brings_12 rec12 s v1 v3 v4 v5 = some Z) : rr_AT X G 6 1 Z 12 [(0, vr G 58), (1, vi v1), (3, vi v3), (4, vi v4), (5, vi v5)] [] s := by
  unfold S_X9_brings_12 at hf
  refine at_iload hO 4 rfl dX9_brings_12 14 rfl ?_
  refine at_bipush hO (by decide) dX9_brings_14 16 rfl ?_
  obtain ⟨h1, hf⟩ := chk_some hf
  refine at_icmp_ge hO h1 (by decide) dX9_brings_16 90 rfl 19 rfl hf (fun hf => ?_) (fun hf => ?_)
  · refine at_iload hO 3 rfl dX9_brings_90 92 rfl ?_
    exact at_ireturn hO dX9_brings_92 hf
  · refine at_iload_n hO 1 rfl rfl dX9_brings_19 20 rfl ?_
    refine at_iload hO 4 rfl dX9_brings_20 22 rfl ?_
    refine at_callS1 (As := [vi v1, vi v5]) (st := []) hO (c_X9_isIn _ G hO.g s v1 v5) mb_X9_isIn ms_X9_isIn lk_X9_139 rfl ⟨(Nat.le_of_ble_eq_true rfl), (Nat.le_of_ble_eq_true rfl)⟩ (Nat.le_of_ble_eq_true rfl) rfl dX9_brings_22 25 rfl hf (fun r2 s3 hf => ?_)
    obtain ⟨h4, hf⟩ := chk_some hf
    refine at_if_eq hO h4 dX9_brings_25 84 rfl 28 rfl hf (fun hf => ?_) (fun hf => ?_)
    · refine at_iinc hO (lv' := [(5, vi (v5 + 1)), (0, vr G 58), (1, vi v1), (3, vi v3), (4, vi v4)]) 4 rfl (Nat.le_of_ble_eq_true rfl) rfl dX9_brings_84 87 rfl ?_
      refine at_goto hO dX9_brings_87 12 rfl ?_
      exact at_sub (fun ls h => lv_sub h [1, 2, 3, 4, 0] rfl) (hrec12 s3 v1 v3 v4 (v5 + 1) hf)
    · refine at_iload hO 3 rfl dX9_brings_28 30 rfl ?_
      refine at_iload_n hO 2 rfl rfl dX9_brings_30 31 rfl ?_
      refine at_iconst hO dX9_brings_31 32 rfl ?_
      obtain ⟨h5, hf⟩ := chk_some hf
      refine at_icmp_eq hO h5 (by decide) dX9_brings_32 64 rfl 35 rfl hf (fun hf => ?_) (fun hf => ?_)
      · refine at_iconst hO dX9_brings_64 65 rfl ?_
        exact at_sub (fun ls h => lv_sub h [0, 1, 2, 4] rfl) (wB_X9_brings_65 hO hrec12 s3 v1 v3 v5 0 v4 hf)
      · refine at_iload_n hO 2 rfl rfl dX9_brings_35 36 rfl ?_
        refine at_aload_n hO 0 rfl rfl dX9_brings_36 37 rfl ?_
        refine at_getR hO fl_X9_41 rfl rfl dX9_brings_37 40 rfl ?_
        refine at_iconst hO dX9_brings_40 41 rfl ?_
        refine at_iload hO 4 rfl dX9_brings_41 43 rfl ?_
        refine at_imul hO dX9_brings_43 44 rfl ?_
        refine at_iconst hO dX9_brings_44 45 rfl ?_
        refine at_iadd hO dX9_brings_45 46 rfl ?_
        obtain ⟨h6, hf⟩ := chk_some hf
        refine at_iaload hO rfl (Nat.le_of_ble_eq_true rfl) h6 (((4 * v5) + 1).toNat) rfl dX9_brings_46 47 rfl ?_
        obtain ⟨h7, hf⟩ := chk_some hf
        refine at_icmp_gt hO h5 h7 dX9_brings_47 64 rfl 50 rfl hf (fun hf => ?_) (fun hf => ?_)
        · refine at_iconst hO dX9_brings_64 65 rfl ?_
          exact at_sub (fun ls h => lv_sub h [0, 1, 2, 4] rfl) (wB_X9_brings_65 hO hrec12 s3 v1 v3 v5 0 v4 hf)
        · refine at_aload_n hO 0 rfl rfl dX9_brings_50 51 rfl ?_
          refine at_getR hO fl_X9_41 rfl rfl dX9_brings_51 54 rfl ?_
          refine at_iconst hO dX9_brings_54 55 rfl ?_
          refine at_iload hO 4 rfl dX9_brings_55 57 rfl ?_
          refine at_imul hO dX9_brings_57 58 rfl ?_
          refine at_iconst hO dX9_brings_58 59 rfl ?_
          refine at_iadd hO dX9_brings_59 60 rfl ?_
          obtain ⟨h8, hf⟩ := chk_some hf
          refine at_iaload hO rfl (Nat.le_of_ble_eq_true rfl) h8 (((4 * v5) + 2).toNat) rfl dX9_brings_60 61 rfl ?_
          refine at_goto hO dX9_brings_61 65 rfl ?_
          exact at_sub (fun ls h => lv_sub h [0, 1, 2, 4] rfl) (wB_X9_brings_65 hO hrec12 s3 v1 v3 v5 (s3 69 ((4 * v5) + 2).toNat) v4 hf)
theorem wL_X9_brings_12 {X : CX} {G : Ge} {Z : Rt} (hO : rr_OK X G cX9_brings 6 RX9 (some .int) 5 112) : ∀ (n : Nat) (s : St) (v1 v3 v4 v5 : Int), L_X9_brings_12 n s v1 v3 v4 v5 = some Z → rr_AT X G 6 1 Z 12 [(0, vr G 58), (1, vi v1), (3, vi v3), (4, vi v4), (5, vi v5)] [] s := by
  intro n
  induction n with
  | zero =>
    intro s v1 v3 v4 v5 hf
    cases hf
  | succ n ih =>
    intro s v1 v3 v4 v5 hf
    exact wS_X9_brings_12 hO ih s v1 v3 v4 v5 hf
def f_X9_brings (s : St) (p1 p2 : Int) : Option Rt := cll (f_X9_possessionOf s p2) (fun r1 s2 => L_X9_brings_12 FU s2 p1 r1 0 0)
set_option maxRecDepth 100000 in
set_option maxHeartbeats 4000000 in
theorem c_X9_brings (l : Launch) (G : Ge) (hG : rr_GD G) (s : St) (p1 p2 : Int) : rr_Ct l G yX9_brings cX9_brings 6 (some .int) 5 112 1 [vr G 58, vi p1, vi p2] s (f_X9_brings s p1 p2) := by
  refine rr_mk (lv := [(0, vr G 58), (1, vi p1), (2, vi p2)]) RX9 (by decide) rfl hG (Nat.le_of_ble_eq_true rfl) rfl ?_
  intro X Z hO hf
  unfold f_X9_brings at hf
  refine at_aload_n hO 0 rfl rfl dX9_brings_0 1 rfl ?_
  refine at_iload_n hO 2 rfl rfl dX9_brings_1 2 rfl ?_
  refine at_callV1 (As := [vi p2]) (st := []) hO (c_X9_possessionOf _ G hO.g s p2) mb_X9_possessionOf mi_X9_possessionOf lk_X9_128 rfl ⟨_, rfl, rfl⟩ rfl ⟨(Nat.le_of_ble_eq_true rfl), (Nat.le_of_ble_eq_true rfl)⟩ (Nat.le_of_ble_eq_true rfl) rfl dX9_brings_2 5 rfl hf (fun r1 s2 hf => ?_)
  refine at_istore_n hO (lv' := [(3, vi r1), (0, vr G 58), (1, vi p1), (2, vi p2)]) rfl (Nat.le_of_ble_eq_true rfl) rfl dX9_brings_5 6 rfl ?_
  refine at_iconst hO dX9_brings_6 7 rfl ?_
  refine at_istore hO (lv' := [(4, vi 0), (3, vi r1), (0, vr G 58), (1, vi p1), (2, vi p2)]) (Nat.le_of_ble_eq_true rfl) rfl dX9_brings_7 9 rfl ?_
  refine at_iconst hO dX9_brings_9 10 rfl ?_
  refine at_istore hO (lv' := [(5, vi 0), (4, vi 0), (3, vi r1), (0, vr G 58), (1, vi p1), (2, vi p2)]) (Nat.le_of_ble_eq_true rfl) rfl dX9_brings_10 12 rfl ?_
  exact at_sub (fun ls h => lv_sub h [3, 4, 2, 1, 0] rfl) (wL_X9_brings_12 hO FU s2 p1 r1 0 0 hf)

def S_X9_areThere_4 (rec4 : St → Int → Int → Int → Option Rt) (s : St) (v1 v2 v3 : Int) : Option Rt := chk (in32 v3) ((if 8 ≤ v3 then chk (v2 = 0 ∨ v2 = 1) (some (v2, s)) else chk (in32 v2) ((if v2 = 0 then rec4 s v1 0 (v3 + 1) else cll (f_X9_isIn s v1 v3) (fun r4 s5 => chk (in32 r4) ((if r4 = 0 then rec4 s5 v1 1 (v3 + 1) else chk (ix (4 * v3) 32) (chk (in32 (s5 69 (4 * v3).toNat)) ((if (s5 69 (4 * v3).toNat) = 1 then rec4 s5 v1 1 (v3 + 1) else rec4 s5 v1 0 (v3 + 1)))))))))))
def L_X9_areThere_4 : Nat → St → Int → Int → Int → Option Rt
  | 0, _, _, _, _ => none
  | n + 1, s, v1, v2, v3 => S_X9_areThere_4 (L_X9_areThere_4 n) s v1 v2 v3
set_option maxRecDepth 100000 in
set_option maxHeartbeats 4000000 in
theorem wS_X9_areThere_4 {X : CX} {G : Ge} {Z : Rt} {rec4 : St → Int → Int → Int → Option Rt} (hO : rr_OK X G cX9_areThere 4 RX9 (some .boolean) 1 21) (hrec4 : ∀ (s : St) (v1 v2 v3 : Int), rec4 s v1 v2 v3 = some Z → rr_AT X G 4 1 Z 4 [(0, vr G 58), (1, vi v1), (2, vi v2), (3, vi v3)] [] s) (s : St) (v1 v2 v3 : Int) (hf : S_X9_areThere_4 rec4 s v1 v2 v3 = some Z) : rr_AT X G 4 1 Z 4 [(0, vr G 58), (1, vi v1), (2, vi v2), (3, vi v3)] [] s := by
  unfold S_X9_areThere_4 at hf
  refine at_iload_n hO 3 rfl rfl dX9_areThere_4 5 rfl ?_
  refine at_bipush hO (by decide) dX9_areThere_5 7 rfl ?_
  obtain ⟨h1, hf⟩ := chk_some hf
  refine at_icmp_ge hO h1 (by decide) dX9_areThere_7 46 rfl 10 rfl hf (fun hf => ?_) (fun hf => ?_)
  · refine at_iload_n hO 2 rfl rfl dX9_areThere_46 47 rfl ?_
    obtain ⟨h2, hf⟩ := chk_some hf
    exact at_zreturn hO h2 dX9_areThere_47 hf
  · refine at_iload_n hO 2 rfl rfl dX9_areThere_10 11 rfl ?_
    obtain ⟨h3, hf⟩ := chk_some hf
    refine at_if_eq hO h3 dX9_areThere_11 38 rfl 14 rfl hf (fun hf => ?_) (fun hf => ?_)
    · refine at_iconst hO dX9_areThere_38 39 rfl ?_
      refine at_istore_n hO (lv' := [(2, vi 0), (0, vr G 58), (1, vi v1), (3, vi v3)]) rfl (Nat.le_of_ble_eq_true rfl) rfl dX9_areThere_39 40 rfl ?_
      refine at_iinc hO (lv' := [(3, vi (v3 + 1)), (2, vi 0), (0, vr G 58), (1, vi v1)]) 3 rfl (Nat.le_of_ble_eq_true rfl) rfl dX9_areThere_40 43 rfl ?_
      refine at_goto hO dX9_areThere_43 4 rfl ?_
      exact at_sub (fun ls h => lv_sub h [2, 3, 1, 0] rfl) (hrec4 s v1 0 (v3 + 1) hf)
    · refine at_iload_n hO 1 rfl rfl dX9_areThere_14 15 rfl ?_
      refine at_iload_n hO 3 rfl rfl dX9_areThere_15 16 rfl ?_
      refine at_callS1 (As := [vi v1, vi v3]) (st := []) hO (c_X9_isIn _ G hO.g s v1 v3) mb_X9_isIn ms_X9_isIn lk_X9_139 rfl ⟨(Nat.le_of_ble_eq_true rfl), (Nat.le_of_ble_eq_true rfl)⟩ (Nat.le_of_ble_eq_true rfl) rfl dX9_areThere_16 19 rfl hf (fun r4 s5 hf => ?_)
      obtain ⟨h6, hf⟩ := chk_some hf
      refine at_if_eq hO h6 dX9_areThere_19 34 rfl 22 rfl hf (fun hf => ?_) (fun hf => ?_)
      · refine at_iconst hO dX9_areThere_34 35 rfl ?_
        refine at_goto hO dX9_areThere_35 39 rfl ?_
        refine at_istore_n hO (lv' := [(2, vi 1), (0, vr G 58), (1, vi v1), (3, vi v3)]) rfl (Nat.le_of_ble_eq_true rfl) rfl dX9_areThere_39 40 rfl ?_
        refine at_iinc hO (lv' := [(3, vi (v3 + 1)), (2, vi 1), (0, vr G 58), (1, vi v1)]) 3 rfl (Nat.le_of_ble_eq_true rfl) rfl dX9_areThere_40 43 rfl ?_
        refine at_goto hO dX9_areThere_43 4 rfl ?_
        exact at_sub (fun ls h => lv_sub h [2, 3, 1, 0] rfl) (hrec4 s5 v1 1 (v3 + 1) hf)
      · refine at_aload_n hO 0 rfl rfl dX9_areThere_22 23 rfl ?_
        refine at_getR hO fl_X9_41 rfl rfl dX9_areThere_23 26 rfl ?_
        refine at_iconst hO dX9_areThere_26 27 rfl ?_
        refine at_iload_n hO 3 rfl rfl dX9_areThere_27 28 rfl ?_
        refine at_imul hO dX9_areThere_28 29 rfl ?_
        obtain ⟨h7, hf⟩ := chk_some hf
        refine at_iaload hO rfl (Nat.le_of_ble_eq_true rfl) h7 ((4 * v3).toNat) rfl dX9_areThere_29 30 rfl ?_
        refine at_iconst hO dX9_areThere_30 31 rfl ?_
        obtain ⟨h8, hf⟩ := chk_some hf
        refine at_icmp_ne hO h8 (by decide) dX9_areThere_31 38 rfl 34 rfl hf (fun hf => ?_) (fun hf => ?_)
        · refine at_iconst hO dX9_areThere_38 39 rfl ?_
          refine at_istore_n hO (lv' := [(2, vi 0), (0, vr G 58), (1, vi v1), (3, vi v3)]) rfl (Nat.le_of_ble_eq_true rfl) rfl dX9_areThere_39 40 rfl ?_
          refine at_iinc hO (lv' := [(3, vi (v3 + 1)), (2, vi 0), (0, vr G 58), (1, vi v1)]) 3 rfl (Nat.le_of_ble_eq_true rfl) rfl dX9_areThere_40 43 rfl ?_
          refine at_goto hO dX9_areThere_43 4 rfl ?_
          exact at_sub (fun ls h => lv_sub h [2, 3, 1, 0] rfl) (hrec4 s5 v1 0 (v3 + 1) hf)
        · refine at_iconst hO dX9_areThere_34 35 rfl ?_
          refine at_goto hO dX9_areThere_35 39 rfl ?_
          refine at_istore_n hO (lv' := [(2, vi 1), (0, vr G 58), (1, vi v1), (3, vi v3)]) rfl (Nat.le_of_ble_eq_true rfl) rfl dX9_areThere_39 40 rfl ?_
          refine at_iinc hO (lv' := [(3, vi (v3 + 1)), (2, vi 1), (0, vr G 58), (1, vi v1)]) 3 rfl (Nat.le_of_ble_eq_true rfl) rfl dX9_areThere_40 43 rfl ?_
          refine at_goto hO dX9_areThere_43 4 rfl ?_
          exact at_sub (fun ls h => lv_sub h [2, 3, 1, 0] rfl) (hrec4 s5 v1 1 (v3 + 1) hf)
theorem wL_X9_areThere_4 {X : CX} {G : Ge} {Z : Rt} (hO : rr_OK X G cX9_areThere 4 RX9 (some .boolean) 1 21) : ∀ (n : Nat) (s : St) (v1 v2 v3 : Int), L_X9_areThere_4 n s v1 v2 v3 = some Z → rr_AT X G 4 1 Z 4 [(0, vr G 58), (1, vi v1), (2, vi v2), (3, vi v3)] [] s := by
  intro n
  induction n with
  | zero =>
    intro s v1 v2 v3 hf
    cases hf
  | succ n ih =>
    intro s v1 v2 v3 hf
    exact wS_X9_areThere_4 hO ih s v1 v2 v3 hf
def f_X9_areThere (s : St) (p1 : Int) : Option Rt := L_X9_areThere_4 FU s p1 1 0
set_option maxRecDepth 100000 in
set_option maxHeartbeats 4000000 in
theorem c_X9_areThere (l : Launch) (G : Ge) (hG : rr_GD G) (s : St) (p1 : Int) : rr_Ct l G yX9_areThere cX9_areThere 4 (some .boolean) 1 21 1 [vr G 58, vi p1] s (f_X9_areThere s p1) := by
  refine rr_mk (lv := [(0, vr G 58), (1, vi p1)]) RX9 (by decide) rfl hG (Nat.le_of_ble_eq_true rfl) rfl ?_
  intro X Z hO hf
  unfold f_X9_areThere at hf
  refine at_iconst hO dX9_areThere_0 1 rfl ?_
  refine at_istore_n hO (lv' := [(2, vi 1), (0, vr G 58), (1, vi p1)]) rfl (Nat.le_of_ble_eq_true rfl) rfl dX9_areThere_1 2 rfl ?_
  refine at_iconst hO dX9_areThere_2 3 rfl ?_
  refine at_istore_n hO (lv' := [(3, vi 0), (2, vi 1), (0, vr G 58), (1, vi p1)]) rfl (Nat.le_of_ble_eq_true rfl) rfl dX9_areThere_3 4 rfl ?_
  exact at_sub (fun ls h => lv_sub h [2, 3, 1, 0] rfl) (wL_X9_areThere_4 hO FU s p1 1 0 hf)

def B_X9_findNever_129 (rec17 : St → Int → Option Rt) (s : St) (v1 v3 t0 : Int) : Option Rt := chk (in64 v3) (chk (in64 ((su s 58 15 t0) 58 16)) ((if v3 ≤ ((su s 58 15 t0) 58 16) then rec17 (su (su s 58 15 t0) 58 16 ((su s 58 15 t0) 58 16)) (v1 + 1) else rec17 (su (su s 58 15 t0) 58 16 v3) (v1 + 1))))
set_option maxRecDepth 100000 in
set_option maxHeartbeats 4000000 in
theorem wB_X9_findNever_129 {X : CX} {G : Ge} {Z : Rt} {rec17 : St → Int → Option Rt} (hO : rr_OK X G cX9_findNever 6 RX9 none 6 137) (hrec17 : ∀ (s : St) (v1 : Int), rec17 s v1 = some Z → rr_AT X G 6 0 Z 17 [(0, vr G 58), (1, vi v1)] [] s) (s : St) (v1 v3 t0 : Int) (hf : B_X9_findNever_129 rec17 s v1 v3 t0 = some Z) : rr_AT X G 6 0 Z 129 [(0, vr G 58), (1, vi v1), (3, vl v3)] [vi t0, vr G 58] s := by
  unfold B_X9_findNever_129 at hf
  refine at_putI hO fp_X9_214 rfl rfl dX9_findNever_129 132 rfl ?_
  refine at_aload_n hO 0 rfl rfl dX9_findNever_132 133 rfl ?_
  refine at_lload_n hO 2 rfl rfl dX9_findNever_133 134 rfl ?_
  refine at_aload_n hO 0 rfl rfl dX9_findNever_134 135 rfl ?_
  refine at_getL hO fl_X9_217 rfl rfl dX9_findNever_135 138 rfl ?_
  obtain ⟨h1, hf⟩ := chk_some hf
  obtain ⟨h2, hf⟩ := chk_some hf
  refine at_lcmp_le hO h1 h2 dX9_findNever_138 dX9_findNever_139 146 rfl 142 rfl hf (fun hf => ?_) (fun hf => ?_)
  · refine at_aload_n hO 0 rfl rfl dX9_findNever_146 147 rfl ?_
    refine at_getL hO fl_X9_217 rfl rfl dX9_findNever_147 150 rfl ?_
    refine at_putL hO fp_X9_217 rfl rfl dX9_findNever_150 153 rfl ?_
    refine at_iinc hO (lv' := [(1, vi (v1 + 1)), (0, vr G 58), (3, vl v3)]) 1 rfl (Nat.le_of_ble_eq_true rfl) rfl dX9_findNever_153 156 rfl ?_
    refine at_goto hO dX9_findNever_156 17 rfl ?_
    exact at_sub (fun ls h => lv_sub h [1, 0] rfl) (hrec17 (su (su s 58 15 t0) 58 16 ((su s 58 15 t0) 58 16)) (v1 + 1) hf)
  · refine at_lload_n hO 2 rfl rfl dX9_findNever_142 143 rfl ?_
    refine at_goto hO dX9_findNever_143 150 rfl ?_
    refine at_putL hO fp_X9_217 rfl rfl dX9_findNever_150 153 rfl ?_
    refine at_iinc hO (lv' := [(1, vi (v1 + 1)), (0, vr G 58), (3, vl v3)]) 1 rfl (Nat.le_of_ble_eq_true rfl) rfl dX9_findNever_153 156 rfl ?_
    refine at_goto hO dX9_findNever_156 17 rfl ?_
    exact at_sub (fun ls h => lv_sub h [1, 0] rfl) (hrec17 (su (su s 58 15 t0) 58 16 v3) (v1 + 1) hf)
def B_X9_findNever_70 (rec17 : St → Int → Option Rt) (rec35 : St → Int → Int → Int → Int → Option Rt) (s : St) (v1 v3 v5 t0 : Int) : Option Rt := chk (ix v5 3) (chk (in32 (s 66 v5.toNat)) (cll (f_X9_brings s v1 v5) (fun r3 s4 => chk (in32 r3) (rec35 s4 v1 t0 (v3 + ((s 66 v5.toNat) * r3)) (v5 + 1)))))
set_option maxRecDepth 100000 in
set_option maxHeartbeats 4000000 in
theorem wB_X9_findNever_70 {X : CX} {G : Ge} {Z : Rt} {rec17 : St → Int → Option Rt} {rec35 : St → Int → Int → Int → Int → Option Rt} (hO : rr_OK X G cX9_findNever 6 RX9 none 6 137) (hrec17 : ∀ (s : St) (v1 : Int), rec17 s v1 = some Z → rr_AT X G 6 0 Z 17 [(0, vr G 58), (1, vi v1)] [] s) (hrec35 : ∀ (s : St) (v1 v2 v3 v5 : Int), rec35 s v1 v2 v3 v5 = some Z → rr_AT X G 6 0 Z 35 [(0, vr G 58), (1, vi v1), (2, vi v2), (3, vl v3), (5, vi v5)] [] s) (s : St) (v1 v3 v5 t0 : Int) (hf : B_X9_findNever_70 rec17 rec35 s v1 v3 v5 t0 = some Z) : rr_AT X G 6 0 Z 70 [(0, vr G 58), (1, vi v1), (3, vl v3), (5, vi v5)] [vi t0] s := by
  unfold B_X9_findNever_70 at hf
  refine at_istore_n hO (lv' := [(2, vi t0), (0, vr G 58), (1, vi v1), (3, vl v3), (5, vi v5)]) rfl (Nat.le_of_ble_eq_true rfl) rfl dX9_findNever_70 71 rfl ?_
  refine at_lload_n hO 3 rfl rfl dX9_findNever_71 72 rfl ?_
  refine at_aload_n hO 1 rfl rfl dX9_findNever_72 73 rfl ?_
  refine at_getR hO fl_X9_31 rfl rfl dX9_findNever_73 76 rfl ?_
  refine at_iload hO 4 rfl dX9_findNever_76 78 rfl ?_
  obtain ⟨h1, hf⟩ := chk_some hf
  refine at_iaload hO rfl (Nat.le_of_ble_eq_true rfl) h1 (v5.toNat) rfl dX9_findNever_78 79 rfl ?_
  obtain ⟨h2, hf⟩ := chk_some hf
  refine at_i2l hO h2 dX9_findNever_79 80 rfl ?_
  refine at_aload_n hO 1 rfl rfl dX9_findNever_80 81 rfl ?_
  refine at_iload_n hO 2 rfl rfl dX9_findNever_81 82 rfl ?_
  refine at_iload hO 4 rfl dX9_findNever_82 84 rfl ?_
  refine at_callV1 (As := [vi v1, vi v5]) (st := [vl (s 66 v5.toNat), vl v3]) hO (c_X9_brings _ G hO.g s v1 v5) mb_X9_brings mi_X9_brings lk_X9_224 rfl ⟨_, rfl, rfl⟩ rfl ⟨(Nat.le_of_ble_eq_true rfl), (Nat.le_of_ble_eq_true rfl)⟩ (Nat.le_of_ble_eq_true rfl) rfl dX9_findNever_84 87 rfl hf (fun r3 s4 hf => ?_)
  obtain ⟨h5, hf⟩ := chk_some hf
  refine at_i2l hO h5 dX9_findNever_87 88 rfl ?_
  refine at_lmul hO dX9_findNever_88 89 rfl ?_
  refine at_ladd hO dX9_findNever_89 90 rfl ?_
  refine at_lstore_n hO (lv' := [(3, vl (v3 + ((s 66 v5.toNat) * r3))), (2, vi t0), (0, vr G 58), (1, vi v1), (5, vi v5)]) rfl (Nat.le_of_ble_eq_true rfl) rfl dX9_findNever_90 91 rfl ?_
  refine at_iinc hO (lv' := [(5, vi (v5 + 1)), (3, vl (v3 + ((s 66 v5.toNat) * r3))), (2, vi t0), (0, vr G 58), (1, vi v1)]) 4 rfl (Nat.le_of_ble_eq_true rfl) rfl dX9_findNever_91 94 rfl ?_
  refine at_goto hO dX9_findNever_94 35 rfl ?_
  exact at_sub (fun ls h => lv_sub h [3, 4, 2, 1, 0] rfl) (hrec35 s4 v1 t0 (v3 + ((s 66 v5.toNat) * r3)) (v5 + 1) hf)
def S_X9_findNever_35 (rec17 : St → Int → Option Rt) (rec35 : St → Int → Int → Int → Int → Option Rt) (s : St) (v1 v2 v3 v5 : Int) : Option Rt := chk (in32 v5) ((if 3 ≤ v5 then chk (in32 v2) ((if v2 = 0 then rec17 s (v1 + 1) else chk (in64 v3) (chk (in64 ((su s 58 14 ((s 58 14) + 1)) 58 16)) ((if v3 ≤ ((su s 58 14 ((s 58 14) + 1)) 58 16) then B_X9_findNever_129 rec17 (su s 58 14 ((s 58 14) + 1)) v1 v3 ((su s 58 14 ((s 58 14) + 1)) 58 15) else B_X9_findNever_129 rec17 (su s 58 14 ((s 58 14) + 1)) v1 v3 v1))))) else chk (in32 v2) ((if v2 = 0 then B_X9_findNever_70 rec17 rec35 s v1 v3 v5 0 else chk (ix v5 3) (chk (in32 (s 66 v5.toNat)) ((if (s 66 v5.toNat) = 0 then B_X9_findNever_70 rec17 rec35 s v1 v3 v5 1 else cll (f_X9_brings s v1 v5) (fun r8 s9 => chk (in32 r8) ((if r8 < 0 then B_X9_findNever_70 rec17 rec35 s9 v1 v3 v5 0 else B_X9_findNever_70 rec17 rec35 s9 v1 v3 v5 1))))))))))
def L_X9_findNever_35 (rec17 : St → Int → Option Rt) : Nat → St → Int → Int → Int → Int → Option Rt
  | 0, _, _, _, _, _ => none
  | n + 1, s, v1, v2, v3, v5 => S_X9_findNever_35 rec17 (L_X9_findNever_35 rec17 n) s v1 v2 v3 v5
set_option maxRecDepth 100000 in
set_option maxHeartbeats 4000000 in
theorem wS_X9_findNever_35 {X : CX} {G : Ge} {Z : Rt} {rec17 : St → Int → Option Rt} {rec35 : St → Int → Int → Int → Int → Option Rt} (hO : rr_OK X G cX9_findNever 6 RX9 none 6 137) (hrec17 : ∀ (s : St) (v1 : Int), rec17 s v1 = some Z → rr_AT X G 6 0 Z 17 [(0, vr G 58), (1, vi v1)] [] s) (hrec35 : ∀ (s : St) (v1 v2 v3 v5 : Int), rec35 s v1 v2 v3 v5 = some Z → rr_AT X G 6 0 Z 35 [(0, vr G 58), (1, vi v1), (2, vi v2), (3, vl v3), (5, vi v5)] [] s) (s : St) (v1 v2 v3 v5 : Int) (hf : S_X9_findNever_35 rec17 rec35 s v1 v2 v3 v5 = some Z) : rr_AT X G 6 0 Z 35 [(0, vr G 58), (1, vi v1), (2, vi v2), (3, vl v3), (5, vi v5)] [] s := by
  unfold S_X9_findNever_35 at hf
  refine at_iload hO 4 rfl dX9_findNever_35 37 rfl ?_
  refine at_iconst hO dX9_findNever_37 38 rfl ?_
  obtain ⟨h1, hf⟩ := chk_some hf
  refine at_icmp_ge hO h1 (by decide) dX9_findNever_38 97 rfl 41 rfl hf (fun hf => ?_) (fun hf => ?_)
  · refine at_iload_n hO 2 rfl rfl dX9_findNever_97 98 rfl ?_
    obtain ⟨h2, hf⟩ := chk_some hf
    refine at_if_eq hO h2 dX9_findNever_98 153 rfl 101 rfl hf (fun hf => ?_) (fun hf => ?_)
    · refine at_iinc hO (lv' := [(1, vi (v1 + 1)), (0, vr G 58), (2, vi v2), (3, vl v3), (5, vi v5)]) 1 rfl (Nat.le_of_ble_eq_true rfl) rfl dX9_findNever_153 156 rfl ?_
      refine at_goto hO dX9_findNever_156 17 rfl ?_
      exact at_sub (fun ls h => lv_sub h [1, 0] rfl) (hrec17 s (v1 + 1) hf)
    · refine at_aload_n hO 0 rfl rfl dX9_findNever_101 102 rfl ?_
      refine at_dup hO rfl dX9_findNever_102 103 rfl ?_
      refine at_getI hO fl_X9_211 rfl rfl dX9_findNever_103 106 rfl ?_
      refine at_iconst hO dX9_findNever_106 107 rfl ?_
      refine at_iadd hO dX9_findNever_107 108 rfl ?_
      refine at_putI hO fp_X9_211 rfl rfl dX9_findNever_108 111 rfl ?_
      refine at_aload_n hO 0 rfl rfl dX9_findNever_111 112 rfl ?_
      refine at_lload_n hO 3 rfl rfl dX9_findNever_112 113 rfl ?_
      refine at_aload_n hO 0 rfl rfl dX9_findNever_113 114 rfl ?_
      refine at_getL hO fl_X9_217 rfl rfl dX9_findNever_114 117 rfl ?_
      obtain ⟨h3, hf⟩ := chk_some hf
      obtain ⟨h4, hf⟩ := chk_some hf
      refine at_lcmp_le hO h3 h4 dX9_findNever_117 dX9_findNever_118 125 rfl 121 rfl hf (fun hf => ?_) (fun hf => ?_)
      · refine at_aload_n hO 0 rfl rfl dX9_findNever_125 126 rfl ?_
        refine at_getI hO fl_X9_214 rfl rfl dX9_findNever_126 129 rfl ?_
        exact at_sub (fun ls h => lv_sub h [0, 1, 3] rfl) (wB_X9_findNever_129 hO hrec17 (su s 58 14 ((s 58 14) + 1)) v1 v3 ((su s 58 14 ((s 58 14) + 1)) 58 15) hf)
      · refine at_iload_n hO 1 rfl rfl dX9_findNever_121 122 rfl ?_
        refine at_goto hO dX9_findNever_122 129 rfl ?_
        exact at_sub (fun ls h => lv_sub h [0, 1, 3] rfl) (wB_X9_findNever_129 hO hrec17 (su s 58 14 ((s 58 14) + 1)) v1 v3 v1 hf)
  · refine at_iload_n hO 2 rfl rfl dX9_findNever_41 42 rfl ?_
    obtain ⟨h5, hf⟩ := chk_some hf
    refine at_if_eq hO h5 dX9_findNever_42 69 rfl 45 rfl hf (fun hf => ?_) (fun hf => ?_)
    · refine at_iconst hO dX9_findNever_69 70 rfl ?_
      exact at_sub (fun ls h => lv_sub h [0, 1, 3, 4] rfl) (wB_X9_findNever_70 hO hrec17 hrec35 s v1 v3 v5 0 hf)
    · refine at_aload_n hO 0 rfl rfl dX9_findNever_45 46 rfl ?_
      refine at_getR hO fl_X9_31 rfl rfl dX9_findNever_46 49 rfl ?_
      refine at_iload hO 4 rfl dX9_findNever_49 51 rfl ?_
      obtain ⟨h6, hf⟩ := chk_some hf
      refine at_iaload hO rfl (Nat.le_of_ble_eq_true rfl) h6 (v5.toNat) rfl dX9_findNever_51 52 rfl ?_
      obtain ⟨h7, hf⟩ := chk_some hf
      refine at_if_eq hO h7 dX9_findNever_52 65 rfl 55 rfl hf (fun hf => ?_) (fun hf => ?_)
      · refine at_iconst hO dX9_findNever_65 66 rfl ?_
        refine at_goto hO dX9_findNever_66 70 rfl ?_
        exact at_sub (fun ls h => lv_sub h [0, 1, 3, 4] rfl) (wB_X9_findNever_70 hO hrec17 hrec35 s v1 v3 v5 1 hf)
      · refine at_aload_n hO 0 rfl rfl dX9_findNever_55 56 rfl ?_
        refine at_iload_n hO 1 rfl rfl dX9_findNever_56 57 rfl ?_
        refine at_iload hO 4 rfl dX9_findNever_57 59 rfl ?_
        refine at_callV1 (As := [vi v1, vi v5]) (st := []) hO (c_X9_brings _ G hO.g s v1 v5) mb_X9_brings mi_X9_brings lk_X9_224 rfl ⟨_, rfl, rfl⟩ rfl ⟨(Nat.le_of_ble_eq_true rfl), (Nat.le_of_ble_eq_true rfl)⟩ (Nat.le_of_ble_eq_true rfl) rfl dX9_findNever_59 62 rfl hf (fun r8 s9 hf => ?_)
        obtain ⟨h10, hf⟩ := chk_some hf
        refine at_if_lt hO h10 dX9_findNever_62 69 rfl 65 rfl hf (fun hf => ?_) (fun hf => ?_)
        · refine at_iconst hO dX9_findNever_69 70 rfl ?_
          exact at_sub (fun ls h => lv_sub h [0, 1, 3, 4] rfl) (wB_X9_findNever_70 hO hrec17 hrec35 s9 v1 v3 v5 0 hf)
        · refine at_iconst hO dX9_findNever_65 66 rfl ?_
          refine at_goto hO dX9_findNever_66 70 rfl ?_
          exact at_sub (fun ls h => lv_sub h [0, 1, 3, 4] rfl) (wB_X9_findNever_70 hO hrec17 hrec35 s9 v1 v3 v5 1 hf)
theorem wL_X9_findNever_35 {X : CX} {G : Ge} {Z : Rt} {rec17 : St → Int → Option Rt} (hO : rr_OK X G cX9_findNever 6 RX9 none 6 137) (hrec17 : ∀ (s : St) (v1 : Int), rec17 s v1 = some Z → rr_AT X G 6 0 Z 17 [(0, vr G 58), (1, vi v1)] [] s) : ∀ (n : Nat) (s : St) (v1 v2 v3 v5 : Int), L_X9_findNever_35 rec17 n s v1 v2 v3 v5 = some Z → rr_AT X G 6 0 Z 35 [(0, vr G 58), (1, vi v1), (2, vi v2), (3, vl v3), (5, vi v5)] [] s := by
  intro n
  induction n with
  | zero =>
    intro s v1 v2 v3 v5 hf
    cases hf
  | succ n ih =>
    intro s v1 v2 v3 v5 hf
    exact wS_X9_findNever_35 hO hrec17 ih s v1 v2 v3 v5 hf
def S_X9_findNever_17 (rec17 : St → Int → Option Rt) (s : St) (v1 : Int) : Option Rt := chk (in32 v1) ((if 256 ≤ v1 then some (0, s) else cll (f_X9_areThere s v1) (fun r2 s3 => L_X9_findNever_35 rec17 FU s3 v1 r2 0 0)))
def L_X9_findNever_17 : Nat → St → Int → Option Rt
  | 0, _, _ => none
  | n + 1, s, v1 => S_X9_findNever_17 (L_X9_findNever_17 n) s v1
set_option maxRecDepth 100000 in
set_option maxHeartbeats 4000000 in
theorem wS_X9_findNever_17 {X : CX} {G : Ge} {Z : Rt} {rec17 : St → Int → Option Rt} (hO : rr_OK X G cX9_findNever 6 RX9 none 6 137) (hrec17 : ∀ (s : St) (v1 : Int), rec17 s v1 = some Z → rr_AT X G 6 0 Z 17 [(0, vr G 58), (1, vi v1)] [] s) (s : St) (v1 : Int) (hf : S_X9_findNever_17 rec17 s v1 = some Z) : rr_AT X G 6 0 Z 17 [(0, vr G 58), (1, vi v1)] [] s := by
  unfold S_X9_findNever_17 at hf
  refine at_iload_n hO 1 rfl rfl dX9_findNever_17 18 rfl ?_
  refine at_sipush hO (by decide) dX9_findNever_18 21 rfl ?_
  obtain ⟨h1, hf⟩ := chk_some hf
  refine at_icmp_ge hO h1 (by decide) dX9_findNever_21 159 rfl 24 rfl hf (fun hf => ?_) (fun hf => ?_)
  · exact at_return hO dX9_findNever_159 hf
  · refine at_aload_n hO 0 rfl rfl dX9_findNever_24 25 rfl ?_
    refine at_iload_n hO 1 rfl rfl dX9_findNever_25 26 rfl ?_
    refine at_callV1 (As := [vi v1]) (st := []) hO (c_X9_areThere _ G hO.g s v1) mb_X9_areThere mi_X9_areThere lk_X9_221 rfl ⟨_, rfl, rfl⟩ rfl ⟨(Nat.le_of_ble_eq_true rfl), (Nat.le_of_ble_eq_true rfl)⟩ (Nat.le_of_ble_eq_true rfl) rfl dX9_findNever_26 29 rfl hf (fun r2 s3 hf => ?_)
    refine at_istore_n hO (lv' := [(2, vi r2), (0, vr G 58), (1, vi v1)]) rfl (Nat.le_of_ble_eq_true rfl) rfl dX9_findNever_29 30 rfl ?_
    refine at_lconst (n := 0) hO (by decide) dX9_findNever_30 31 rfl ?_
    refine at_lstore_n hO (lv' := [(3, vl 0), (2, vi r2), (0, vr G 58), (1, vi v1)]) rfl (Nat.le_of_ble_eq_true rfl) rfl dX9_findNever_31 32 rfl ?_
    refine at_iconst hO dX9_findNever_32 33 rfl ?_
    refine at_istore hO (lv' := [(5, vi 0), (3, vl 0), (2, vi r2), (0, vr G 58), (1, vi v1)]) (Nat.le_of_ble_eq_true rfl) rfl dX9_findNever_33 35 rfl ?_
    exact at_sub (fun ls h => lv_sub h [3, 4, 2, 1, 0] rfl) (wL_X9_findNever_35 hO hrec17 FU s3 v1 r2 0 0 hf)
theorem wL_X9_findNever_17 {X : CX} {G : Ge} {Z : Rt} (hO : rr_OK X G cX9_findNever 6 RX9 none 6 137) : ∀ (n : Nat) (s : St) (v1 : Int), L_X9_findNever_17 n s v1 = some Z → rr_AT X G 6 0 Z 17 [(0, vr G 58), (1, vi v1)] [] s := by
  intro n
  induction n with
  | zero =>
    intro s v1 hf
    cases hf
  | succ n ih =>
    intro s v1 hf
    exact wS_X9_findNever_17 hO ih s v1 hf
def f_X9_findNever (s : St) : Option Rt := L_X9_findNever_17 FU (su (su (su s 58 14 0) 58 15 0) 58 16 0) 0
set_option maxRecDepth 100000 in
set_option maxHeartbeats 4000000 in
theorem c_X9_findNever (l : Launch) (G : Ge) (hG : rr_GD G) (s : St) : rr_Ct l G yX9_findNever cX9_findNever 6 none 6 137 0 [vr G 58] s (f_X9_findNever s ) := by
  refine rr_mk (lv := [(0, vr G 58)]) RX9 (by decide) rfl hG (Nat.le_of_ble_eq_true rfl) rfl ?_
  intro X Z hO hf
  unfold f_X9_findNever at hf
  refine at_aload_n hO 0 rfl rfl dX9_findNever_0 1 rfl ?_
  refine at_iconst hO dX9_findNever_1 2 rfl ?_
  refine at_putI hO fp_X9_211 rfl rfl dX9_findNever_2 5 rfl ?_
  refine at_aload_n hO 0 rfl rfl dX9_findNever_5 6 rfl ?_
  refine at_iconst hO dX9_findNever_6 7 rfl ?_
  refine at_putI hO fp_X9_214 rfl rfl dX9_findNever_7 10 rfl ?_
  refine at_aload_n hO 0 rfl rfl dX9_findNever_10 11 rfl ?_
  refine at_lconst (n := 0) hO (by decide) dX9_findNever_11 12 rfl ?_
  refine at_putL hO fp_X9_217 rfl rfl dX9_findNever_12 15 rfl ?_
  refine at_iconst hO dX9_findNever_15 16 rfl ?_
  refine at_istore_n hO (lv' := [(1, vi 0), (0, vr G 58)]) rfl (Nat.le_of_ble_eq_true rfl) rfl dX9_findNever_16 17 rfl ?_
  exact at_sub (fun ls h => lv_sub h [1, 0] rfl) (wL_X9_findNever_17 hO FU (su (su (su s 58 14 0) 58 15 0) 58 16 0) 0 hf)

def f_X9_neverOf (s : St) (p1 : Int) : Option Rt := cll (f_X9_findNever s) (fun _ s2 => chk (in32 p1) ((if p1 = 0 then some ((s2 58 14), s2) else some ((s2 58 15), s2))))
set_option maxRecDepth 100000 in
set_option maxHeartbeats 4000000 in
theorem c_X9_neverOf (l : Launch) (G : Ge) (hG : rr_GD G) (s : St) (p1 : Int) : rr_Ct l G yX9_neverOf cX9_neverOf 2 (some .int) 7 162 1 [vr G 58, vi p1] s (f_X9_neverOf s p1) := by
  refine rr_mk (lv := [(0, vr G 58), (1, vi p1)]) RX9 (by decide) rfl hG (Nat.le_of_ble_eq_true rfl) rfl ?_
  intro X Z hO hf
  unfold f_X9_neverOf at hf
  refine at_aload_n hO 0 rfl rfl dX9_neverOf_0 1 rfl ?_
  refine at_callV0 (As := []) (st := []) hO (c_X9_findNever _ G hO.g s ) mb_X9_findNever mi_X9_findNever lk_X9_227 rfl ⟨_, rfl, rfl⟩ rfl ⟨(Nat.le_of_ble_eq_true rfl), (Nat.le_of_ble_eq_true rfl)⟩ (Nat.le_of_ble_eq_true rfl) rfl dX9_neverOf_1 4 rfl hf (fun r1 s2 hf => ?_)
  refine at_iload_n hO 1 rfl rfl dX9_neverOf_4 5 rfl ?_
  obtain ⟨h3, hf⟩ := chk_some hf
  refine at_if_ne hO h3 dX9_neverOf_5 15 rfl 8 rfl hf (fun hf => ?_) (fun hf => ?_)
  · refine at_aload_n hO 0 rfl rfl dX9_neverOf_15 16 rfl ?_
    refine at_getI hO fl_X9_214 rfl rfl dX9_neverOf_16 19 rfl ?_
    exact at_ireturn hO dX9_neverOf_19 hf
  · refine at_aload_n hO 0 rfl rfl dX9_neverOf_8 9 rfl ?_
    refine at_getI hO fl_X9_211 rfl rfl dX9_neverOf_9 12 rfl ?_
    refine at_goto hO dX9_neverOf_12 19 rfl ?_
    exact at_ireturn hO dX9_neverOf_19 hf

def f_X9_never (s : St) (p1 : Int) : Option Rt := cll (f_X9_isTwo s p1) (fun r1 s2 => chk (in32 r1) ((if r1 = 0 then some ((-2), s2) else cll (f_X9_neverOf s2 p1) (fun r4 s5 => some (r4, s5)))))
set_option maxRecDepth 100000 in
set_option maxHeartbeats 4000000 in
theorem c_X9_never (l : Launch) (G : Ge) (hG : rr_GD G) (s : St) (p1 : Int) : rr_Ct l G yX9_never cX9_never 2 (some .int) 8 183 1 [vr G 58, vi p1] s (f_X9_never s p1) := by
  refine rr_mk (lv := [(0, vr G 58), (1, vi p1)]) RX9 (by decide) rfl hG (Nat.le_of_ble_eq_true rfl) rfl ?_
  intro X Z hO hf
  unfold f_X9_never at hf
  refine at_iload_n hO 1 rfl rfl dX9_never_0 1 rfl ?_
  refine at_callS1 (As := [vi p1]) (st := []) hO (c_X9_isTwo _ G hO.g s p1) mb_X9_isTwo ms_X9_isTwo lk_X9_142 rfl ⟨(Nat.le_of_ble_eq_true rfl), (Nat.le_of_ble_eq_true rfl)⟩ (Nat.le_of_ble_eq_true rfl) rfl dX9_never_1 4 rfl hf (fun r1 s2 hf => ?_)
  obtain ⟨h3, hf⟩ := chk_some hf
  refine at_if_eq hO h3 dX9_never_4 15 rfl 7 rfl hf (fun hf => ?_) (fun hf => ?_)
  · refine at_bipush hO (by decide) dX9_never_15 17 rfl ?_
    exact at_ireturn hO dX9_never_17 hf
  · refine at_aload_n hO 0 rfl rfl dX9_never_7 8 rfl ?_
    refine at_iload_n hO 1 rfl rfl dX9_never_8 9 rfl ?_
    refine at_callV1 (As := [vi p1]) (st := []) hO (c_X9_neverOf _ G hO.g s2 p1) mb_X9_neverOf mi_X9_neverOf lk_X9_230 rfl ⟨_, rfl, rfl⟩ rfl ⟨(Nat.le_of_ble_eq_true rfl), (Nat.le_of_ble_eq_true rfl)⟩ (Nat.le_of_ble_eq_true rfl) rfl dX9_never_9 12 rfl hf (fun r4 s5 hf => ?_)
    refine at_goto hO dX9_never_12 17 rfl ?_
    exact at_ireturn hO dX9_never_17 hf

def f_X9_gainOf (s : St) (p1 : Int) : Option Rt := cll (f_X9_findNever s) (fun _ s2 => cll (f_X9_weight s2 7) (fun r3 s4 => chk (in64 r3) ((if r3 = 0 then chk (in32 p1) (some (p1, s4)) else cll (f_X9_part s4 (s4 58 16) r3 p1) (fun r6 s7 => some (r6, s7))))))
set_option maxRecDepth 100000 in
set_option maxHeartbeats 4000000 in
theorem c_X9_gainOf (l : Launch) (G : Ge) (hG : rr_GD G) (s : St) (p1 : Int) : rr_Ct l G yX9_gainOf cX9_gainOf 4 (some .long) 7 162 2 [vr G 58, vi p1] s (f_X9_gainOf s p1) := by
  refine rr_mk (lv := [(0, vr G 58), (1, vi p1)]) RX9 (by decide) rfl hG (Nat.le_of_ble_eq_true rfl) rfl ?_
  intro X Z hO hf
  unfold f_X9_gainOf at hf
  refine at_aload_n hO 0 rfl rfl dX9_gainOf_0 1 rfl ?_
  refine at_callV0 (As := []) (st := []) hO (c_X9_findNever _ G hO.g s ) mb_X9_findNever mi_X9_findNever lk_X9_227 rfl ⟨_, rfl, rfl⟩ rfl ⟨(Nat.le_of_ble_eq_true rfl), (Nat.le_of_ble_eq_true rfl)⟩ (Nat.le_of_ble_eq_true rfl) rfl dX9_gainOf_1 4 rfl hf (fun r1 s2 hf => ?_)
  refine at_aload_n hO 0 rfl rfl dX9_gainOf_4 5 rfl ?_
  refine at_bipush hO (by decide) dX9_gainOf_5 7 rfl ?_
  refine at_callV2 (As := [vi 7]) (st := []) hO (c_X9_weight _ G hO.g s2 7) mb_X9_weight mi_X9_weight lk_X9_166 rfl ⟨_, rfl, rfl⟩ rfl ⟨(Nat.le_of_ble_eq_true rfl), (Nat.le_of_ble_eq_true rfl)⟩ (Nat.le_of_ble_eq_true rfl) rfl dX9_gainOf_7 10 rfl hf (fun r3 s4 hf => ?_)
  refine at_lstore_n hO (lv' := [(2, vl r3), (0, vr G 58), (1, vi p1)]) rfl (Nat.le_of_ble_eq_true rfl) rfl dX9_gainOf_10 11 rfl ?_
  refine at_lload_n hO 0 rfl rfl dX9_gainOf_11 12 rfl ?_
  refine at_lconst (n := 0) hO (by decide) dX9_gainOf_12 13 rfl ?_
  obtain ⟨h5, hf⟩ := chk_some hf
  refine at_lcmp_ne hO h5 (by decide) dX9_gainOf_13 dX9_gainOf_14 22 rfl 17 rfl hf (fun hf => ?_) (fun hf => ?_)
  · refine at_aload_n hO 1 rfl rfl dX9_gainOf_22 23 rfl ?_
    refine at_getL hO fl_X9_217 rfl rfl dX9_gainOf_23 26 rfl ?_
    refine at_lload_n hO 0 rfl rfl dX9_gainOf_26 27 rfl ?_
    refine at_iload_n hO 2 rfl rfl dX9_gainOf_27 28 rfl ?_
    refine at_callS2 (As := [vl (s4 58 16), vl r3, vi p1]) (st := []) hO (c_X9_part _ G hO.g s4 (s4 58 16) r3 p1) mb_X9_part ms_X9_part lk_X9_188 rfl ⟨(Nat.le_of_ble_eq_true rfl), (Nat.le_of_ble_eq_true rfl)⟩ (Nat.le_of_ble_eq_true rfl) rfl dX9_gainOf_28 31 rfl hf (fun r6 s7 hf => ?_)
    exact at_lreturn hO dX9_gainOf_31 hf
  · refine at_iload_n hO 2 rfl rfl dX9_gainOf_17 18 rfl ?_
    obtain ⟨h8, hf⟩ := chk_some hf
    refine at_i2l hO h8 dX9_gainOf_18 19 rfl ?_
    refine at_goto hO dX9_gainOf_19 31 rfl ?_
    exact at_lreturn hO dX9_gainOf_31 hf

def f_X9_gain (s : St) (p1 : Int) : Option Rt := cll (f_X9_isTwo s p1) (fun r1 s2 => chk (in32 r1) ((if r1 = 0 then cll (f_X9_no s2 (-2)) (fun r4 s5 => some (r4, s5)) else cll (f_X9_gainOf s2 p1) (fun r6 s7 => some (r6, s7)))))
set_option maxRecDepth 100000 in
set_option maxHeartbeats 4000000 in
theorem c_X9_gain (l : Launch) (G : Ge) (hG : rr_GD G) (s : St) (p1 : Int) : rr_Ct l G yX9_gain cX9_gain 2 (some .long) 8 185 2 [vr G 58, vi p1] s (f_X9_gain s p1) := by
  refine rr_mk (lv := [(0, vr G 58), (1, vi p1)]) RX9 (by decide) rfl hG (Nat.le_of_ble_eq_true rfl) rfl ?_
  intro X Z hO hf
  unfold f_X9_gain at hf
  refine at_iload_n hO 1 rfl rfl dX9_gain_0 1 rfl ?_
  refine at_callS1 (As := [vi p1]) (st := []) hO (c_X9_isTwo _ G hO.g s p1) mb_X9_isTwo ms_X9_isTwo lk_X9_142 rfl ⟨(Nat.le_of_ble_eq_true rfl), (Nat.le_of_ble_eq_true rfl)⟩ (Nat.le_of_ble_eq_true rfl) rfl dX9_gain_1 4 rfl hf (fun r1 s2 hf => ?_)
  obtain ⟨h3, hf⟩ := chk_some hf
  refine at_if_eq hO h3 dX9_gain_4 15 rfl 7 rfl hf (fun hf => ?_) (fun hf => ?_)
  · refine at_bipush hO (by decide) dX9_gain_15 17 rfl ?_
    refine at_callS2 (As := [vi (-2)]) (st := []) hO (c_X9_no _ G hO.g s2 (-2)) mb_X9_no ms_X9_no lk_X9_181 rfl ⟨(Nat.le_of_ble_eq_true rfl), (Nat.le_of_ble_eq_true rfl)⟩ (Nat.le_of_ble_eq_true rfl) rfl dX9_gain_17 20 rfl hf (fun r4 s5 hf => ?_)
    exact at_lreturn hO dX9_gain_20 hf
  · refine at_aload_n hO 0 rfl rfl dX9_gain_7 8 rfl ?_
    refine at_iload_n hO 1 rfl rfl dX9_gain_8 9 rfl ?_
    refine at_callV2 (As := [vi p1]) (st := []) hO (c_X9_gainOf _ G hO.g s2 p1) mb_X9_gainOf mi_X9_gainOf lk_X9_233 rfl ⟨_, rfl, rfl⟩ rfl ⟨(Nat.le_of_ble_eq_true rfl), (Nat.le_of_ble_eq_true rfl)⟩ (Nat.le_of_ble_eq_true rfl) rfl dX9_gain_9 12 rfl hf (fun r6 s7 hf => ?_)
    refine at_goto hO dX9_gain_12 20 rfl ?_
    exact at_lreturn hO dX9_gain_20 hf

def S_X9_kinds_44 (rec44 : St → Int → Int → Option Rt) (s : St) (v3 v4 : Int) : Option Rt := chk (in32 v4) ((if v4 = 0 then some (v3, s) else rec44 s (v3 + 1) (andZ v4 (v4 - 1))))
def L_X9_kinds_44 : Nat → St → Int → Int → Option Rt
  | 0, _, _, _ => none
  | n + 1, s, v3, v4 => S_X9_kinds_44 (L_X9_kinds_44 n) s v3 v4
set_option maxRecDepth 100000 in
set_option maxHeartbeats 4000000 in
theorem wS_X9_kinds_44 {X : CX} {G : Ge} {Z : Rt} {rec44 : St → Int → Int → Option Rt} (hO : rr_OK X G cX9_kinds 5 RX9 (some .int) 4 90) (hrec44 : ∀ (s : St) (v3 v4 : Int), rec44 s v3 v4 = some Z → rr_AT X G 5 1 Z 44 [(3, vi v3), (4, vi v4)] [] s) (s : St) (v3 v4 : Int) (hf : S_X9_kinds_44 rec44 s v3 v4 = some Z) : rr_AT X G 5 1 Z 44 [(3, vi v3), (4, vi v4)] [] s := by
  unfold S_X9_kinds_44 at hf
  refine at_iload hO 1 rfl dX9_kinds_44 46 rfl ?_
  obtain ⟨h1, hf⟩ := chk_some hf
  refine at_if_eq hO h1 dX9_kinds_46 64 rfl 49 rfl hf (fun hf => ?_) (fun hf => ?_)
  · refine at_iload_n hO 0 rfl rfl dX9_kinds_64 65 rfl ?_
    exact at_ireturn hO dX9_kinds_65 hf
  · refine at_iinc hO (lv' := [(3, vi (v3 + 1)), (4, vi v4)]) 0 rfl (Nat.le_of_ble_eq_true rfl) rfl dX9_kinds_49 52 rfl ?_
    refine at_iload hO 1 rfl dX9_kinds_52 54 rfl ?_
    refine at_iload hO 1 rfl dX9_kinds_54 56 rfl ?_
    refine at_iconst hO dX9_kinds_56 57 rfl ?_
    refine at_isub hO dX9_kinds_57 58 rfl ?_
    refine at_iand hO dX9_kinds_58 59 rfl ?_
    refine at_istore hO (lv' := [(4, vi (andZ v4 (v4 - 1))), (3, vi (v3 + 1))]) (Nat.le_of_ble_eq_true rfl) rfl dX9_kinds_59 61 rfl ?_
    refine at_goto hO dX9_kinds_61 44 rfl ?_
    exact at_sub (fun ls h => lv_sub h [1, 0] rfl) (hrec44 s (v3 + 1) (andZ v4 (v4 - 1)) hf)
theorem wL_X9_kinds_44 {X : CX} {G : Ge} {Z : Rt} (hO : rr_OK X G cX9_kinds 5 RX9 (some .int) 4 90) : ∀ (n : Nat) (s : St) (v3 v4 : Int), L_X9_kinds_44 n s v3 v4 = some Z → rr_AT X G 5 1 Z 44 [(3, vi v3), (4, vi v4)] [] s := by
  intro n
  induction n with
  | zero =>
    intro s v3 v4 hf
    cases hf
  | succ n ih =>
    intro s v3 v4 hf
    exact wS_X9_kinds_44 hO ih s v3 v4 hf
def S_X9_kinds_4 (rec4 : St → Int → Int → Int → Option Rt) (s : St) (v1 v2 v3 : Int) : Option Rt := chk (in32 v3) ((if 3 ≤ v3 then L_X9_kinds_44 FU s 0 v2 else chk (ix v3 3) (chk (in32 (s 66 v3.toNat)) ((if (s 66 v3.toNat) ≤ 0 then rec4 s v1 (orZ v2 0) (v3 + 1) else cll (f_X9_levelOf s v3 v1) (fun r4 s5 => rec4 s5 v1 (orZ v2 (shlZ 1 r4)) (v3 + 1)))))))
def L_X9_kinds_4 : Nat → St → Int → Int → Int → Option Rt
  | 0, _, _, _, _ => none
  | n + 1, s, v1, v2, v3 => S_X9_kinds_4 (L_X9_kinds_4 n) s v1 v2 v3
set_option maxRecDepth 100000 in
set_option maxHeartbeats 4000000 in
theorem wS_X9_kinds_4 {X : CX} {G : Ge} {Z : Rt} {rec4 : St → Int → Int → Int → Option Rt} (hO : rr_OK X G cX9_kinds 5 RX9 (some .int) 4 90) (hrec4 : ∀ (s : St) (v1 v2 v3 : Int), rec4 s v1 v2 v3 = some Z → rr_AT X G 5 1 Z 4 [(0, vr G 58), (1, vi v1), (2, vi v2), (3, vi v3)] [] s) (s : St) (v1 v2 v3 : Int) (hf : S_X9_kinds_4 rec4 s v1 v2 v3 = some Z) : rr_AT X G 5 1 Z 4 [(0, vr G 58), (1, vi v1), (2, vi v2), (3, vi v3)] [] s := by
  unfold S_X9_kinds_4 at hf
  refine at_iload_n hO 3 rfl rfl dX9_kinds_4 5 rfl ?_
  refine at_iconst hO dX9_kinds_5 6 rfl ?_
  obtain ⟨h1, hf⟩ := chk_some hf
  refine at_icmp_ge hO h1 (by decide) dX9_kinds_6 39 rfl 9 rfl hf (fun hf => ?_) (fun hf => ?_)
  · refine at_iconst hO dX9_kinds_39 40 rfl ?_
    refine at_istore_n hO (lv' := [(3, vi 0), (0, vr G 58), (1, vi v1), (2, vi v2)]) rfl (Nat.le_of_ble_eq_true rfl) rfl dX9_kinds_40 41 rfl ?_
    refine at_iload_n hO 3 rfl rfl dX9_kinds_41 42 rfl ?_
    refine at_istore hO (lv' := [(4, vi v2), (3, vi 0), (0, vr G 58), (1, vi v1), (2, vi v2)]) (Nat.le_of_ble_eq_true rfl) rfl dX9_kinds_42 44 rfl ?_
    exact at_sub (fun ls h => lv_sub h [1, 0] rfl) (wL_X9_kinds_44 hO FU s 0 v2 hf)
  · refine at_iload_n hO 2 rfl rfl dX9_kinds_9 10 rfl ?_
    refine at_aload_n hO 0 rfl rfl dX9_kinds_10 11 rfl ?_
    refine at_getR hO fl_X9_31 rfl rfl dX9_kinds_11 14 rfl ?_
    refine at_iload_n hO 3 rfl rfl dX9_kinds_14 15 rfl ?_
    obtain ⟨h2, hf⟩ := chk_some hf
    refine at_iaload hO rfl (Nat.le_of_ble_eq_true rfl) h2 (v3.toNat) rfl dX9_kinds_15 16 rfl ?_
    obtain ⟨h3, hf⟩ := chk_some hf
    refine at_if_le hO h3 dX9_kinds_16 30 rfl 19 rfl hf (fun hf => ?_) (fun hf => ?_)
    · refine at_iconst hO dX9_kinds_30 31 rfl ?_
      refine at_ior hO dX9_kinds_31 32 rfl ?_
      refine at_istore_n hO (lv' := [(2, vi (orZ v2 0)), (0, vr G 58), (1, vi v1), (3, vi v3)]) rfl (Nat.le_of_ble_eq_true rfl) rfl dX9_kinds_32 33 rfl ?_
      refine at_iinc hO (lv' := [(3, vi (v3 + 1)), (2, vi (orZ v2 0)), (0, vr G 58), (1, vi v1)]) 3 rfl (Nat.le_of_ble_eq_true rfl) rfl dX9_kinds_33 36 rfl ?_
      refine at_goto hO dX9_kinds_36 4 rfl ?_
      exact at_sub (fun ls h => lv_sub h [2, 3, 1, 0] rfl) (hrec4 s v1 (orZ v2 0) (v3 + 1) hf)
    · refine at_iconst hO dX9_kinds_19 20 rfl ?_
      refine at_aload_n hO 0 rfl rfl dX9_kinds_20 21 rfl ?_
      refine at_iload_n hO 3 rfl rfl dX9_kinds_21 22 rfl ?_
      refine at_iload_n hO 1 rfl rfl dX9_kinds_22 23 rfl ?_
      refine at_callV1 (As := [vi v3, vi v1]) (st := [vi 1, vi v2]) hO (c_X9_levelOf _ G hO.g s v3 v1) mb_X9_levelOf mi_X9_levelOf lk_X9_111 rfl ⟨_, rfl, rfl⟩ rfl ⟨(Nat.le_of_ble_eq_true rfl), (Nat.le_of_ble_eq_true rfl)⟩ (Nat.le_of_ble_eq_true rfl) rfl dX9_kinds_23 26 rfl hf (fun r4 s5 hf => ?_)
      refine at_ishl hO dX9_kinds_26 27 rfl ?_
      refine at_goto hO dX9_kinds_27 31 rfl ?_
      refine at_ior hO dX9_kinds_31 32 rfl ?_
      refine at_istore_n hO (lv' := [(2, vi (orZ v2 (shlZ 1 r4))), (0, vr G 58), (1, vi v1), (3, vi v3)]) rfl (Nat.le_of_ble_eq_true rfl) rfl dX9_kinds_32 33 rfl ?_
      refine at_iinc hO (lv' := [(3, vi (v3 + 1)), (2, vi (orZ v2 (shlZ 1 r4))), (0, vr G 58), (1, vi v1)]) 3 rfl (Nat.le_of_ble_eq_true rfl) rfl dX9_kinds_33 36 rfl ?_
      refine at_goto hO dX9_kinds_36 4 rfl ?_
      exact at_sub (fun ls h => lv_sub h [2, 3, 1, 0] rfl) (hrec4 s5 v1 (orZ v2 (shlZ 1 r4)) (v3 + 1) hf)
theorem wL_X9_kinds_4 {X : CX} {G : Ge} {Z : Rt} (hO : rr_OK X G cX9_kinds 5 RX9 (some .int) 4 90) : ∀ (n : Nat) (s : St) (v1 v2 v3 : Int), L_X9_kinds_4 n s v1 v2 v3 = some Z → rr_AT X G 5 1 Z 4 [(0, vr G 58), (1, vi v1), (2, vi v2), (3, vi v3)] [] s := by
  intro n
  induction n with
  | zero =>
    intro s v1 v2 v3 hf
    cases hf
  | succ n ih =>
    intro s v1 v2 v3 hf
    exact wS_X9_kinds_4 hO ih s v1 v2 v3 hf
def f_X9_kinds (s : St) (p1 : Int) : Option Rt := L_X9_kinds_4 FU s p1 0 0
set_option maxRecDepth 100000 in
set_option maxHeartbeats 4000000 in
theorem c_X9_kinds (l : Launch) (G : Ge) (hG : rr_GD G) (s : St) (p1 : Int) : rr_Ct l G yX9_kinds cX9_kinds 5 (some .int) 4 90 1 [vr G 58, vi p1] s (f_X9_kinds s p1) := by
  refine rr_mk (lv := [(0, vr G 58), (1, vi p1)]) RX9 (by decide) rfl hG (Nat.le_of_ble_eq_true rfl) rfl ?_
  intro X Z hO hf
  unfold f_X9_kinds at hf
  refine at_iconst hO dX9_kinds_0 1 rfl ?_
  refine at_istore_n hO (lv' := [(2, vi 0), (0, vr G 58), (1, vi p1)]) rfl (Nat.le_of_ble_eq_true rfl) rfl dX9_kinds_1 2 rfl ?_
  refine at_iconst hO dX9_kinds_2 3 rfl ?_
  refine at_istore_n hO (lv' := [(3, vi 0), (2, vi 0), (0, vr G 58), (1, vi p1)]) rfl (Nat.le_of_ble_eq_true rfl) rfl dX9_kinds_3 4 rfl ?_
  exact at_sub (fun ls h => lv_sub h [2, 3, 1, 0] rfl) (wL_X9_kinds_4 hO FU s p1 0 0 hf)

def S_X9_watchNow_4 (rec4 : St → Int → Int → Option Rt) (s : St) (v1 v2 : Int) : Option Rt := chk (in32 v2) ((if 30 ≤ v2 then some (v1, s) else cll (f_X9_kinds s v2) (fun r2 s3 => cll (f_X9_kinds s3 v1) (fun r4 s5 => chk (in32 r2) (chk (in32 r4) ((if r2 ≤ r4 then rec4 s5 v1 (v2 + 1) else rec4 s5 v2 (v2 + 1))))))))
def L_X9_watchNow_4 : Nat → St → Int → Int → Option Rt
  | 0, _, _, _ => none
  | n + 1, s, v1, v2 => S_X9_watchNow_4 (L_X9_watchNow_4 n) s v1 v2
set_option maxRecDepth 100000 in
set_option maxHeartbeats 4000000 in
theorem wS_X9_watchNow_4 {X : CX} {G : Ge} {Z : Rt} {rec4 : St → Int → Int → Option Rt} (hO : rr_OK X G cX9_watchNow 3 RX9 (some .int) 5 114) (hrec4 : ∀ (s : St) (v1 v2 : Int), rec4 s v1 v2 = some Z → rr_AT X G 3 1 Z 4 [(0, vr G 58), (1, vi v1), (2, vi v2)] [] s) (s : St) (v1 v2 : Int) (hf : S_X9_watchNow_4 rec4 s v1 v2 = some Z) : rr_AT X G 3 1 Z 4 [(0, vr G 58), (1, vi v1), (2, vi v2)] [] s := by
  unfold S_X9_watchNow_4 at hf
  refine at_iload_n hO 2 rfl rfl dX9_watchNow_4 5 rfl ?_
  refine at_bipush hO (by decide) dX9_watchNow_5 7 rfl ?_
  obtain ⟨h1, hf⟩ := chk_some hf
  refine at_icmp_ge hO h1 (by decide) dX9_watchNow_7 35 rfl 10 rfl hf (fun hf => ?_) (fun hf => ?_)
  · refine at_iload_n hO 1 rfl rfl dX9_watchNow_35 36 rfl ?_
    exact at_ireturn hO dX9_watchNow_36 hf
  · refine at_aload_n hO 0 rfl rfl dX9_watchNow_10 11 rfl ?_
    refine at_iload_n hO 2 rfl rfl dX9_watchNow_11 12 rfl ?_
    refine at_callV1 (As := [vi v2]) (st := []) hO (c_X9_kinds _ G hO.g s v2) mb_X9_kinds mi_X9_kinds lk_X9_236 rfl ⟨_, rfl, rfl⟩ rfl ⟨(Nat.le_of_ble_eq_true rfl), (Nat.le_of_ble_eq_true rfl)⟩ (Nat.le_of_ble_eq_true rfl) rfl dX9_watchNow_12 15 rfl hf (fun r2 s3 hf => ?_)
    refine at_aload_n hO 0 rfl rfl dX9_watchNow_15 16 rfl ?_
    refine at_iload_n hO 1 rfl rfl dX9_watchNow_16 17 rfl ?_
    refine at_callV1 (As := [vi v1]) (st := [vi r2]) hO (c_X9_kinds _ G hO.g s3 v1) mb_X9_kinds mi_X9_kinds lk_X9_236 rfl ⟨_, rfl, rfl⟩ rfl ⟨(Nat.le_of_ble_eq_true rfl), (Nat.le_of_ble_eq_true rfl)⟩ (Nat.le_of_ble_eq_true rfl) rfl dX9_watchNow_17 20 rfl hf (fun r4 s5 hf => ?_)
    obtain ⟨h6, hf⟩ := chk_some hf
    obtain ⟨h7, hf⟩ := chk_some hf
    refine at_icmp_le hO h6 h7 dX9_watchNow_20 27 rfl 23 rfl hf (fun hf => ?_) (fun hf => ?_)
    · refine at_iload_n hO 1 rfl rfl dX9_watchNow_27 28 rfl ?_
      refine at_istore_n hO (lv' := [(1, vi v1), (0, vr G 58), (2, vi v2)]) rfl (Nat.le_of_ble_eq_true rfl) rfl dX9_watchNow_28 29 rfl ?_
      refine at_iinc hO (lv' := [(2, vi (v2 + 1)), (1, vi v1), (0, vr G 58)]) 2 rfl (Nat.le_of_ble_eq_true rfl) rfl dX9_watchNow_29 32 rfl ?_
      refine at_goto hO dX9_watchNow_32 4 rfl ?_
      exact at_sub (fun ls h => lv_sub h [2, 1, 0] rfl) (hrec4 s5 v1 (v2 + 1) hf)
    · refine at_iload_n hO 2 rfl rfl dX9_watchNow_23 24 rfl ?_
      refine at_goto hO dX9_watchNow_24 28 rfl ?_
      refine at_istore_n hO (lv' := [(1, vi v2), (0, vr G 58), (2, vi v2)]) rfl (Nat.le_of_ble_eq_true rfl) rfl dX9_watchNow_28 29 rfl ?_
      refine at_iinc hO (lv' := [(2, vi (v2 + 1)), (1, vi v2), (0, vr G 58)]) 2 rfl (Nat.le_of_ble_eq_true rfl) rfl dX9_watchNow_29 32 rfl ?_
      refine at_goto hO dX9_watchNow_32 4 rfl ?_
      exact at_sub (fun ls h => lv_sub h [2, 1, 0] rfl) (hrec4 s5 v2 (v2 + 1) hf)
theorem wL_X9_watchNow_4 {X : CX} {G : Ge} {Z : Rt} (hO : rr_OK X G cX9_watchNow 3 RX9 (some .int) 5 114) : ∀ (n : Nat) (s : St) (v1 v2 : Int), L_X9_watchNow_4 n s v1 v2 = some Z → rr_AT X G 3 1 Z 4 [(0, vr G 58), (1, vi v1), (2, vi v2)] [] s := by
  intro n
  induction n with
  | zero =>
    intro s v1 v2 hf
    cases hf
  | succ n ih =>
    intro s v1 v2 hf
    exact wS_X9_watchNow_4 hO ih s v1 v2 hf
def f_X9_watchNow (s : St) : Option Rt := L_X9_watchNow_4 FU s 0 1
set_option maxRecDepth 100000 in
set_option maxHeartbeats 4000000 in
theorem c_X9_watchNow (l : Launch) (G : Ge) (hG : rr_GD G) (s : St) : rr_Ct l G yX9_watchNow cX9_watchNow 3 (some .int) 5 114 1 [vr G 58] s (f_X9_watchNow s ) := by
  refine rr_mk (lv := [(0, vr G 58)]) RX9 (by decide) rfl hG (Nat.le_of_ble_eq_true rfl) rfl ?_
  intro X Z hO hf
  unfold f_X9_watchNow at hf
  refine at_iconst hO dX9_watchNow_0 1 rfl ?_
  refine at_istore_n hO (lv' := [(1, vi 0), (0, vr G 58)]) rfl (Nat.le_of_ble_eq_true rfl) rfl dX9_watchNow_1 2 rfl ?_
  refine at_iconst hO dX9_watchNow_2 3 rfl ?_
  refine at_istore_n hO (lv' := [(2, vi 1), (1, vi 0), (0, vr G 58)]) rfl (Nat.le_of_ble_eq_true rfl) rfl dX9_watchNow_3 4 rfl ?_
  exact at_sub (fun ls h => lv_sub h [2, 1, 0] rfl) (wL_X9_watchNow_4 hO FU s 0 1 hf)

def f_X9_watch (s : St) : Option Rt := cll (f_X9_watchNow s) (fun r1 s2 => some (r1, s2))
set_option maxRecDepth 100000 in
set_option maxHeartbeats 4000000 in
theorem c_X9_watch (l : Launch) (G : Ge) (hG : rr_GD G) (s : St) : rr_Ct l G yX9_watch cX9_watch 1 (some .int) 6 136 1 [vr G 58] s (f_X9_watch s ) := by
  refine rr_mk (lv := [(0, vr G 58)]) RX9 (by decide) rfl hG (Nat.le_of_ble_eq_true rfl) rfl ?_
  intro X Z hO hf
  unfold f_X9_watch at hf
  refine at_aload_n hO 0 rfl rfl dX9_watch_0 1 rfl ?_
  refine at_callV1 (As := []) (st := []) hO (c_X9_watchNow _ G hO.g s ) mb_X9_watchNow mi_X9_watchNow lk_X9_239 rfl ⟨_, rfl, rfl⟩ rfl ⟨(Nat.le_of_ble_eq_true rfl), (Nat.le_of_ble_eq_true rfl)⟩ (Nat.le_of_ble_eq_true rfl) rfl dX9_watch_1 4 rfl hf (fun r1 s2 hf => ?_)
  exact at_ireturn hO dX9_watch_4 hf
