def f_X9_fact (s : St) (p1 p2 p3 : Int) : Option Rt := cll (f_X9_isDay s p1) (fun r1 s2 => chk (in32 r1) ((if r1 = 0 then some ((-2), s2) else chk (in32 p2) (cll (f_X9_in s2 p2 0 11) (fun r5 s6 => chk (in32 r5) ((if r5 = 0 then some ((-2), s6) else cll (f_X9_isTwo s6 p3) (fun r8 s9 => chk (in32 r8) ((if r8 = 0 then some ((-2), s9) else chk (in32 (s9 58 17)) ((if (s9 58 17) = 8 then some ((-4), s9) else chk (ix (3 * (s9 58 17)) 24) (chk (ix ((3 * ((su s9 70 (3 * (s9 58 17)).toNat p1) 58 17)) + 1) 24) (chk (ix ((3 * ((su (su s9 70 (3 * (s9 58 17)).toNat p1) 70 ((3 * ((su s9 70 (3 * (s9 58 17)).toNat p1) 58 17)) + 1).toNat p2) 58 17)) + 2) 24) (some (((su (su (su (su s9 70 (3 * (s9 58 17)).toNat p1) 70 ((3 * ((su s9 70 (3 * (s9 58 17)).toNat p1) 58 17)) + 1).toNat p2) 70 ((3 * ((su (su s9 70 (3 * (s9 58 17)).toNat p1) 70 ((3 * ((su s9 70 (3 * (s9 58 17)).toNat p1) 58 17)) + 1).toNat p2) 58 17)) + 2).toNat p3) 58 17 (((su (su (su s9 70 (3 * (s9 58 17)).toNat p1) 70 ((3 * ((su s9 70 (3 * (s9 58 17)).toNat p1) 58 17)) + 1).toNat p2) 70 ((3 * ((su (su s9 70 (3 * (s9 58 17)).toNat p1) 70 ((3 * ((su s9 70 (3 * (s9 58 17)).toNat p1) 58 17)) + 1).toNat p2) 58 17)) + 2).toNat p3) 58 17) + 1)) 58 17), (su (su (su (su s9 70 (3 * (s9 58 17)).toNat p1) 70 ((3 * ((su s9 70 (3 * (s9 58 17)).toNat p1) 58 17)) + 1).toNat p2) 70 ((3 * ((su (su s9 70 (3 * (s9 58 17)).toNat p1) 70 ((3 * ((su s9 70 (3 * (s9 58 17)).toNat p1) 58 17)) + 1).toNat p2) 58 17)) + 2).toNat p3) 58 17 (((su (su (su s9 70 (3 * (s9 58 17)).toNat p1) 70 ((3 * ((su s9 70 (3 * (s9 58 17)).toNat p1) 58 17)) + 1).toNat p2) 70 ((3 * ((su (su s9 70 (3 * (s9 58 17)).toNat p1) 70 ((3 * ((su s9 70 (3 * (s9 58 17)).toNat p1) 58 17)) + 1).toNat p2) 58 17)) + 2).toNat p3) 58 17) + 1))))))))))))))))))
set_option maxRecDepth 100000 in
set_option maxHeartbeats 4000000 in
theorem c_X9_fact (l : Launch) (G : Ge) (hG : rr_GD G) (s : St) (p1 p2 p3 : Int) : rr_Ct l G yX9_fact cX9_fact 4 (some .int) 2 45 1 [vr G 58, vi p1, vi p2, vi p3] s (f_X9_fact s p1 p2 p3) := by
  refine rr_mk (lv := [(0, vr G 58), (1, vi p1), (2, vi p2), (3, vi p3)]) RX9 (by decide) rfl hG (Nat.le_of_ble_eq_true rfl) rfl ?_
  intro X Z hO hf
  unfold f_X9_fact at hf
  refine at_iload_n hO 1 rfl rfl dX9_fact_0 1 rfl ?_
  refine at_callS1 (As := [vi p1]) (st := []) hO (c_X9_isDay _ G hO.g s p1) mb_X9_isDay ms_X9_isDay lk_X9_108 rfl ⟨(Nat.le_of_ble_eq_true rfl), (Nat.le_of_ble_eq_true rfl)⟩ (Nat.le_of_ble_eq_true rfl) rfl dX9_fact_1 4 rfl hf (fun r1 s2 hf => ?_)
  obtain ⟨h3, hf⟩ := chk_some hf
  refine at_if_eq hO h3 dX9_fact_4 26 rfl 7 rfl hf (fun hf => ?_) (fun hf => ?_)
  · refine at_bipush hO (by decide) dX9_fact_26 28 rfl ?_
    exact at_ireturn hO dX9_fact_28 hf
  · refine at_iload_n hO 2 rfl rfl dX9_fact_7 8 rfl ?_
    obtain ⟨h4, hf⟩ := chk_some hf
    refine at_i2l hO h4 dX9_fact_8 9 rfl ?_
    refine at_lconst (n := 0) hO (by decide) dX9_fact_9 10 rfl ?_
    refine at_ldc2_w (n := 11) hO lc_X9_121 (by decide) dX9_fact_10 13 rfl ?_
    refine at_callS1 (As := [vl p2, vl 0, vl 11]) (st := []) hO (c_X9_in _ G hO.g s2 p2 0 11) mb_X9_in ms_X9_in lk_X9_49 rfl ⟨(Nat.le_of_ble_eq_true rfl), (Nat.le_of_ble_eq_true rfl)⟩ (Nat.le_of_ble_eq_true rfl) rfl dX9_fact_13 16 rfl hf (fun r5 s6 hf => ?_)
    obtain ⟨h7, hf⟩ := chk_some hf
    refine at_if_eq hO h7 dX9_fact_16 26 rfl 19 rfl hf (fun hf => ?_) (fun hf => ?_)
    · refine at_bipush hO (by decide) dX9_fact_26 28 rfl ?_
      exact at_ireturn hO dX9_fact_28 hf
    · refine at_iload_n hO 3 rfl rfl dX9_fact_19 20 rfl ?_
      refine at_callS1 (As := [vi p3]) (st := []) hO (c_X9_isTwo _ G hO.g s6 p3) mb_X9_isTwo ms_X9_isTwo lk_X9_142 rfl ⟨(Nat.le_of_ble_eq_true rfl), (Nat.le_of_ble_eq_true rfl)⟩ (Nat.le_of_ble_eq_true rfl) rfl dX9_fact_20 23 rfl hf (fun r8 s9 hf => ?_)
      obtain ⟨h10, hf⟩ := chk_some hf
      refine at_if_ne hO h10 dX9_fact_23 29 rfl 26 rfl hf (fun hf => ?_) (fun hf => ?_)
      · refine at_aload_n hO 0 rfl rfl dX9_fact_29 30 rfl ?_
        refine at_getI hO fl_X9_242 rfl rfl dX9_fact_30 33 rfl ?_
        refine at_bipush hO (by decide) dX9_fact_33 35 rfl ?_
        obtain ⟨h11, hf⟩ := chk_some hf
        refine at_icmp_ne hO h11 (by decide) dX9_fact_35 41 rfl 38 rfl hf (fun hf => ?_) (fun hf => ?_)
        · refine at_aload_n hO 0 rfl rfl dX9_fact_41 42 rfl ?_
          refine at_getR hO fl_X9_44 rfl rfl dX9_fact_42 45 rfl ?_
          refine at_iconst hO dX9_fact_45 46 rfl ?_
          refine at_aload_n hO 0 rfl rfl dX9_fact_46 47 rfl ?_
          refine at_getI hO fl_X9_242 rfl rfl dX9_fact_47 50 rfl ?_
          refine at_imul hO dX9_fact_50 51 rfl ?_
          refine at_iload_n hO 1 rfl rfl dX9_fact_51 52 rfl ?_
          obtain ⟨h12, hf⟩ := chk_some hf
          refine at_iastore hO rfl (Nat.le_of_ble_eq_true rfl) h12 ((3 * (s9 58 17)).toNat) rfl dX9_fact_52 53 rfl ?_
          refine at_aload_n hO 0 rfl rfl dX9_fact_53 54 rfl ?_
          refine at_getR hO fl_X9_44 rfl rfl dX9_fact_54 57 rfl ?_
          refine at_iconst hO dX9_fact_57 58 rfl ?_
          refine at_aload_n hO 0 rfl rfl dX9_fact_58 59 rfl ?_
          refine at_getI hO fl_X9_242 rfl rfl dX9_fact_59 62 rfl ?_
          refine at_imul hO dX9_fact_62 63 rfl ?_
          refine at_iconst hO dX9_fact_63 64 rfl ?_
          refine at_iadd hO dX9_fact_64 65 rfl ?_
          refine at_iload_n hO 2 rfl rfl dX9_fact_65 66 rfl ?_
          obtain ⟨h13, hf⟩ := chk_some hf
          refine at_iastore hO rfl (Nat.le_of_ble_eq_true rfl) h13 (((3 * ((su s9 70 (3 * (s9 58 17)).toNat p1) 58 17)) + 1).toNat) rfl dX9_fact_66 67 rfl ?_
          refine at_aload_n hO 0 rfl rfl dX9_fact_67 68 rfl ?_
          refine at_getR hO fl_X9_44 rfl rfl dX9_fact_68 71 rfl ?_
          refine at_iconst hO dX9_fact_71 72 rfl ?_
          refine at_aload_n hO 0 rfl rfl dX9_fact_72 73 rfl ?_
          refine at_getI hO fl_X9_242 rfl rfl dX9_fact_73 76 rfl ?_
          refine at_imul hO dX9_fact_76 77 rfl ?_
          refine at_iconst hO dX9_fact_77 78 rfl ?_
          refine at_iadd hO dX9_fact_78 79 rfl ?_
          refine at_iload_n hO 3 rfl rfl dX9_fact_79 80 rfl ?_
          obtain ⟨h14, hf⟩ := chk_some hf
          refine at_iastore hO rfl (Nat.le_of_ble_eq_true rfl) h14 (((3 * ((su (su s9 70 (3 * (s9 58 17)).toNat p1) 70 ((3 * ((su s9 70 (3 * (s9 58 17)).toNat p1) 58 17)) + 1).toNat p2) 58 17)) + 2).toNat) rfl dX9_fact_80 81 rfl ?_
          refine at_aload_n hO 0 rfl rfl dX9_fact_81 82 rfl ?_
          refine at_dup hO rfl dX9_fact_82 83 rfl ?_
          refine at_getI hO fl_X9_242 rfl rfl dX9_fact_83 86 rfl ?_
          refine at_iconst hO dX9_fact_86 87 rfl ?_
          refine at_iadd hO dX9_fact_87 88 rfl ?_
          refine at_putI hO fp_X9_242 rfl rfl dX9_fact_88 91 rfl ?_
          refine at_aload_n hO 0 rfl rfl dX9_fact_91 92 rfl ?_
          refine at_getI hO fl_X9_242 rfl rfl dX9_fact_92 95 rfl ?_
          exact at_ireturn hO dX9_fact_95 hf
        · refine at_bipush hO (by decide) dX9_fact_38 40 rfl ?_
          exact at_ireturn hO dX9_fact_40 hf
      · refine at_bipush hO (by decide) dX9_fact_26 28 rfl ?_
        exact at_ireturn hO dX9_fact_28 hf

def f_X9_forget (s : St) : Option Rt := some ((s 58 17), (su s 58 17 0))
set_option maxRecDepth 100000 in
set_option maxHeartbeats 4000000 in
theorem c_X9_forget (l : Launch) (G : Ge) (hG : rr_GD G) (s : St) : rr_Ct l G yX9_forget cX9_forget 2 (some .int) 0 0 1 [vr G 58] s (f_X9_forget s ) := by
  refine rr_mk (lv := [(0, vr G 58)]) RX9 (by decide) rfl hG (Nat.le_of_ble_eq_true rfl) rfl ?_
  intro X Z hO hf
  unfold f_X9_forget at hf
  refine at_aload_n hO 0 rfl rfl dX9_forget_0 1 rfl ?_
  refine at_getI hO fl_X9_242 rfl rfl dX9_forget_1 4 rfl ?_
  refine at_istore_n hO (lv' := [(1, vi (s 58 17)), (0, vr G 58)]) rfl (Nat.le_of_ble_eq_true rfl) rfl dX9_forget_4 5 rfl ?_
  refine at_aload_n hO 1 rfl rfl dX9_forget_5 6 rfl ?_
  refine at_iconst hO dX9_forget_6 7 rfl ?_
  refine at_putI hO fp_X9_242 rfl rfl dX9_forget_7 10 rfl ?_
  refine at_iload_n hO 0 rfl rfl dX9_forget_10 11 rfl ?_
  exact at_ireturn hO dX9_forget_11 hf

def B_X9_fitNow_85 (rec4 : St → Int → Int → Option Rt) (rec14 : St → Int → Int → Int → Int → Option Rt) (s : St) (v1 v2 v4 t0 t1 : Int) : Option Rt := chk (in32 t1) (chk (in32 t0) ((if t1 = t0 then rec14 s v1 v2 1 (v4 + 1) else rec14 s v1 v2 0 (v4 + 1))))
set_option maxRecDepth 100000 in
set_option maxHeartbeats 4000000 in
theorem wB_X9_fitNow_85 {X : CX} {G : Ge} {Z : Rt} {rec4 : St → Int → Int → Option Rt} {rec14 : St → Int → Int → Int → Int → Option Rt} (hO : rr_OK X G cX9_fitNow 6 RX9 (some .int) 6 136) (hrec4 : ∀ (s : St) (v1 v2 : Int), rec4 s v1 v2 = some Z → rr_AT X G 6 1 Z 4 [(0, vr G 58), (1, vi v1), (2, vi v2)] [] s) (hrec14 : ∀ (s : St) (v1 v2 v3 v4 : Int), rec14 s v1 v2 v3 v4 = some Z → rr_AT X G 6 1 Z 14 [(0, vr G 58), (1, vi v1), (2, vi v2), (3, vi v3), (4, vi v4)] [] s) (s : St) (v1 v2 v4 t0 t1 : Int) (hf : B_X9_fitNow_85 rec4 rec14 s v1 v2 v4 t0 t1 = some Z) : rr_AT X G 6 1 Z 85 [(0, vr G 58), (1, vi v1), (2, vi v2), (4, vi v4)] [vi t0, vi t1] s := by
  unfold B_X9_fitNow_85 at hf
  obtain ⟨h1, hf⟩ := chk_some hf
  obtain ⟨h2, hf⟩ := chk_some hf
  refine at_icmp_ne hO h1 h2 dX9_fitNow_85 92 rfl 88 rfl hf (fun hf => ?_) (fun hf => ?_)
  · refine at_iconst hO dX9_fitNow_92 93 rfl ?_
    refine at_istore_n hO (lv' := [(3, vi 0), (0, vr G 58), (1, vi v1), (2, vi v2), (4, vi v4)]) rfl (Nat.le_of_ble_eq_true rfl) rfl dX9_fitNow_93 94 rfl ?_
    refine at_iinc hO (lv' := [(4, vi (v4 + 1)), (3, vi 0), (0, vr G 58), (1, vi v1), (2, vi v2)]) 4 rfl (Nat.le_of_ble_eq_true rfl) rfl dX9_fitNow_94 97 rfl ?_
    refine at_goto hO dX9_fitNow_97 14 rfl ?_
    exact at_sub (fun ls h => lv_sub h [2, 3, 4, 1, 0] rfl) (hrec14 s v1 v2 0 (v4 + 1) hf)
  · refine at_iconst hO dX9_fitNow_88 89 rfl ?_
    refine at_goto hO dX9_fitNow_89 93 rfl ?_
    refine at_istore_n hO (lv' := [(3, vi 1), (0, vr G 58), (1, vi v1), (2, vi v2), (4, vi v4)]) rfl (Nat.le_of_ble_eq_true rfl) rfl dX9_fitNow_93 94 rfl ?_
    refine at_iinc hO (lv' := [(4, vi (v4 + 1)), (3, vi 1), (0, vr G 58), (1, vi v1), (2, vi v2)]) 4 rfl (Nat.le_of_ble_eq_true rfl) rfl dX9_fitNow_94 97 rfl ?_
    refine at_goto hO dX9_fitNow_97 14 rfl ?_
    exact at_sub (fun ls h => lv_sub h [2, 3, 4, 1, 0] rfl) (hrec14 s v1 v2 1 (v4 + 1) hf)
def S_X9_fitNow_14 (rec4 : St → Int → Int → Option Rt) (rec14 : St → Int → Int → Int → Int → Option Rt) (s : St) (v1 v2 v3 v4 : Int) : Option Rt := chk (in32 v4) (chk (in32 (s 58 17)) ((if (s 58 17) ≤ v4 then chk (in32 v3) ((if v3 = 0 then rec4 s (orZ v1 0) (v2 + 1) else rec4 s (orZ v1 (shlZ 1 v2)) (v2 + 1))) else chk (ix ((3 * v4) + 1) 24) (chk (in32 v3) ((if v3 = 0 then rec14 s v1 v2 0 (v4 + 1) else cll (f_X9_yards s) (fun r6 s7 => chk (in32 (s 70 ((3 * v4) + 1).toNat)) (chk (in32 r6) ((if r6 ≤ (s 70 ((3 * v4) + 1).toNat) then rec14 s7 v1 v2 1 (v4 + 1) else chk (ix (3 * v4) 24) (cll (f_X9_isWet s7 v2 (s7 70 (3 * v4).toNat) (s 70 ((3 * v4) + 1).toNat)) (fun r11 s12 => chk (ix ((3 * v4) + 2) 24) (chk (in32 (s12 70 ((3 * v4) + 2).toNat)) ((if (s12 70 ((3 * v4) + 2).toNat) = 1 then B_X9_fitNow_85 rec4 rec14 s12 v1 v2 v4 1 r11 else B_X9_fitNow_85 rec4 rec14 s12 v1 v2 v4 0 r11)))))))))))))))
def L_X9_fitNow_14 (rec4 : St → Int → Int → Option Rt) : Nat → St → Int → Int → Int → Int → Option Rt
  | 0, _, _, _, _, _ => none
  | n + 1, s, v1, v2, v3, v4 => S_X9_fitNow_14 rec4 (L_X9_fitNow_14 rec4 n) s v1 v2 v3 v4
set_option maxRecDepth 100000 in
set_option maxHeartbeats 4000000 in
theorem wS_X9_fitNow_14 {X : CX} {G : Ge} {Z : Rt} {rec4 : St → Int → Int → Option Rt} {rec14 : St → Int → Int → Int → Int → Option Rt} (hO : rr_OK X G cX9_fitNow 6 RX9 (some .int) 6 136) (hrec4 : ∀ (s : St) (v1 v2 : Int), rec4 s v1 v2 = some Z → rr_AT X G 6 1 Z 4 [(0, vr G 58), (1, vi v1), (2, vi v2)] [] s) (hrec14 : ∀ (s : St) (v1 v2 v3 v4 : Int), rec14 s v1 v2 v3 v4 = some Z → rr_AT X G 6 1 Z 14 [(0, vr G 58), (1, vi v1), (2, vi v2), (3, vi v3), (4, vi v4)] [] s) (s : St) (v1 v2 v3 v4 : Int) (hf : S_X9_fitNow_14 rec4 rec14 s v1 v2 v3 v4 = some Z) : rr_AT X G 6 1 Z 14 [(0, vr G 58), (1, vi v1), (2, vi v2), (3, vi v3), (4, vi v4)] [] s := by
  unfold S_X9_fitNow_14 at hf
  refine at_iload hO 4 rfl dX9_fitNow_14 16 rfl ?_
  refine at_aload_n hO 0 rfl rfl dX9_fitNow_16 17 rfl ?_
  refine at_getI hO fl_X9_242 rfl rfl dX9_fitNow_17 20 rfl ?_
  obtain ⟨h1, hf⟩ := chk_some hf
  obtain ⟨h2, hf⟩ := chk_some hf
  refine at_icmp_ge hO h1 h2 dX9_fitNow_20 100 rfl 23 rfl hf (fun hf => ?_) (fun hf => ?_)
  · refine at_iload_n hO 1 rfl rfl dX9_fitNow_100 101 rfl ?_
    refine at_iload_n hO 3 rfl rfl dX9_fitNow_101 102 rfl ?_
    obtain ⟨h3, hf⟩ := chk_some hf
    refine at_if_eq hO h3 dX9_fitNow_102 111 rfl 105 rfl hf (fun hf => ?_) (fun hf => ?_)
    · refine at_iconst hO dX9_fitNow_111 112 rfl ?_
      refine at_ior hO dX9_fitNow_112 113 rfl ?_
      refine at_istore_n hO (lv' := [(1, vi (orZ v1 0)), (0, vr G 58), (2, vi v2), (3, vi v3), (4, vi v4)]) rfl (Nat.le_of_ble_eq_true rfl) rfl dX9_fitNow_113 114 rfl ?_
      refine at_iinc hO (lv' := [(2, vi (v2 + 1)), (1, vi (orZ v1 0)), (0, vr G 58), (3, vi v3), (4, vi v4)]) 2 rfl (Nat.le_of_ble_eq_true rfl) rfl dX9_fitNow_114 117 rfl ?_
      refine at_goto hO dX9_fitNow_117 4 rfl ?_
      exact at_sub (fun ls h => lv_sub h [2, 1, 0] rfl) (hrec4 s (orZ v1 0) (v2 + 1) hf)
    · refine at_iconst hO dX9_fitNow_105 106 rfl ?_
      refine at_iload_n hO 2 rfl rfl dX9_fitNow_106 107 rfl ?_
      refine at_ishl hO dX9_fitNow_107 108 rfl ?_
      refine at_goto hO dX9_fitNow_108 112 rfl ?_
      refine at_ior hO dX9_fitNow_112 113 rfl ?_
      refine at_istore_n hO (lv' := [(1, vi (orZ v1 (shlZ 1 v2))), (0, vr G 58), (2, vi v2), (3, vi v3), (4, vi v4)]) rfl (Nat.le_of_ble_eq_true rfl) rfl dX9_fitNow_113 114 rfl ?_
      refine at_iinc hO (lv' := [(2, vi (v2 + 1)), (1, vi (orZ v1 (shlZ 1 v2))), (0, vr G 58), (3, vi v3), (4, vi v4)]) 2 rfl (Nat.le_of_ble_eq_true rfl) rfl dX9_fitNow_114 117 rfl ?_
      refine at_goto hO dX9_fitNow_117 4 rfl ?_
      exact at_sub (fun ls h => lv_sub h [2, 1, 0] rfl) (hrec4 s (orZ v1 (shlZ 1 v2)) (v2 + 1) hf)
  · refine at_aload_n hO 0 rfl rfl dX9_fitNow_23 24 rfl ?_
    refine at_getR hO fl_X9_44 rfl rfl dX9_fitNow_24 27 rfl ?_
    refine at_iconst hO dX9_fitNow_27 28 rfl ?_
    refine at_iload hO 4 rfl dX9_fitNow_28 30 rfl ?_
    refine at_imul hO dX9_fitNow_30 31 rfl ?_
    refine at_iconst hO dX9_fitNow_31 32 rfl ?_
    refine at_iadd hO dX9_fitNow_32 33 rfl ?_
    obtain ⟨h4, hf⟩ := chk_some hf
    refine at_iaload hO rfl (Nat.le_of_ble_eq_true rfl) h4 (((3 * v4) + 1).toNat) rfl dX9_fitNow_33 34 rfl ?_
    refine at_istore hO (lv' := [(5, vi (s 70 ((3 * v4) + 1).toNat)), (0, vr G 58), (1, vi v1), (2, vi v2), (3, vi v3), (4, vi v4)]) (Nat.le_of_ble_eq_true rfl) rfl dX9_fitNow_34 36 rfl ?_
    refine at_iload_n hO 4 rfl rfl dX9_fitNow_36 37 rfl ?_
    obtain ⟨h5, hf⟩ := chk_some hf
    refine at_if_eq hO h5 dX9_fitNow_37 92 rfl 40 rfl hf (fun hf => ?_) (fun hf => ?_)
    · refine at_iconst hO dX9_fitNow_92 93 rfl ?_
      refine at_istore_n hO (lv' := [(3, vi 0), (5, vi (s 70 ((3 * v4) + 1).toNat)), (0, vr G 58), (1, vi v1), (2, vi v2), (4, vi v4)]) rfl (Nat.le_of_ble_eq_true rfl) rfl dX9_fitNow_93 94 rfl ?_
      refine at_iinc hO (lv' := [(4, vi (v4 + 1)), (3, vi 0), (5, vi (s 70 ((3 * v4) + 1).toNat)), (0, vr G 58), (1, vi v1), (2, vi v2)]) 5 rfl (Nat.le_of_ble_eq_true rfl) rfl dX9_fitNow_94 97 rfl ?_
      refine at_goto hO dX9_fitNow_97 14 rfl ?_
      exact at_sub (fun ls h => lv_sub h [3, 4, 5, 1, 0] rfl) (hrec14 s v1 v2 0 (v4 + 1) hf)
    · refine at_iload hO 0 rfl dX9_fitNow_40 42 rfl ?_
      refine at_aload_n hO 1 rfl rfl dX9_fitNow_42 43 rfl ?_
      refine at_callV1 (As := []) (st := [vi (s 70 ((3 * v4) + 1).toNat)]) hO (c_X9_yards _ G hO.g s ) mb_X9_yards mi_X9_yards lk_X9_95 rfl ⟨_, rfl, rfl⟩ rfl ⟨(Nat.le_of_ble_eq_true rfl), (Nat.le_of_ble_eq_true rfl)⟩ (Nat.le_of_ble_eq_true rfl) rfl dX9_fitNow_43 46 rfl hf (fun r6 s7 hf => ?_)
      obtain ⟨h8, hf⟩ := chk_some hf
      obtain ⟨h9, hf⟩ := chk_some hf
      refine at_icmp_ge hO h8 h9 dX9_fitNow_46 88 rfl 49 rfl hf (fun hf => ?_) (fun hf => ?_)
      · refine at_iconst hO dX9_fitNow_88 89 rfl ?_
        refine at_goto hO dX9_fitNow_89 93 rfl ?_
        refine at_istore_n hO (lv' := [(3, vi 1), (5, vi (s 70 ((3 * v4) + 1).toNat)), (0, vr G 58), (1, vi v1), (2, vi v2), (4, vi v4)]) rfl (Nat.le_of_ble_eq_true rfl) rfl dX9_fitNow_93 94 rfl ?_
        refine at_iinc hO (lv' := [(4, vi (v4 + 1)), (3, vi 1), (5, vi (s 70 ((3 * v4) + 1).toNat)), (0, vr G 58), (1, vi v1), (2, vi v2)]) 5 rfl (Nat.le_of_ble_eq_true rfl) rfl dX9_fitNow_94 97 rfl ?_
        refine at_goto hO dX9_fitNow_97 14 rfl ?_
        exact at_sub (fun ls h => lv_sub h [3, 4, 5, 1, 0] rfl) (hrec14 s7 v1 v2 1 (v4 + 1) hf)
      · refine at_aload_n hO 1 rfl rfl dX9_fitNow_49 50 rfl ?_
        refine at_iload_n hO 3 rfl rfl dX9_fitNow_50 51 rfl ?_
        refine at_aload_n hO 1 rfl rfl dX9_fitNow_51 52 rfl ?_
        refine at_getR hO fl_X9_44 rfl rfl dX9_fitNow_52 55 rfl ?_
        refine at_iconst hO dX9_fitNow_55 56 rfl ?_
        refine at_iload hO 5 rfl dX9_fitNow_56 58 rfl ?_
        refine at_imul hO dX9_fitNow_58 59 rfl ?_
        obtain ⟨h10, hf⟩ := chk_some hf
        refine at_iaload hO rfl (Nat.le_of_ble_eq_true rfl) h10 ((3 * v4).toNat) rfl dX9_fitNow_59 60 rfl ?_
        refine at_iload hO 0 rfl dX9_fitNow_60 62 rfl ?_
        refine at_callV1 (As := [vi v2, vi (s7 70 (3 * v4).toNat), vi (s 70 ((3 * v4) + 1).toNat)]) (st := []) hO (c_X9_isWet _ G hO.g s7 v2 (s7 70 (3 * v4).toNat) (s 70 ((3 * v4) + 1).toNat)) mb_X9_isWet mi_X9_isWet lk_X9_135 rfl ⟨_, rfl, rfl⟩ rfl ⟨(Nat.le_of_ble_eq_true rfl), (Nat.le_of_ble_eq_true rfl)⟩ (Nat.le_of_ble_eq_true rfl) rfl dX9_fitNow_62 65 rfl hf (fun r11 s12 hf => ?_)
        refine at_aload_n hO 1 rfl rfl dX9_fitNow_65 66 rfl ?_
        refine at_getR hO fl_X9_44 rfl rfl dX9_fitNow_66 69 rfl ?_
        refine at_iconst hO dX9_fitNow_69 70 rfl ?_
        refine at_iload hO 5 rfl dX9_fitNow_70 72 rfl ?_
        refine at_imul hO dX9_fitNow_72 73 rfl ?_
        refine at_iconst hO dX9_fitNow_73 74 rfl ?_
        refine at_iadd hO dX9_fitNow_74 75 rfl ?_
        obtain ⟨h13, hf⟩ := chk_some hf
        refine at_iaload hO rfl (Nat.le_of_ble_eq_true rfl) h13 (((3 * v4) + 2).toNat) rfl dX9_fitNow_75 76 rfl ?_
        refine at_iconst hO dX9_fitNow_76 77 rfl ?_
        obtain ⟨h14, hf⟩ := chk_some hf
        refine at_icmp_ne hO h14 (by decide) dX9_fitNow_77 84 rfl 80 rfl hf (fun hf => ?_) (fun hf => ?_)
        · refine at_iconst hO dX9_fitNow_84 85 rfl ?_
          exact at_sub (fun ls h => lv_sub h [1, 2, 3, 5] rfl) (wB_X9_fitNow_85 hO hrec4 hrec14 s12 v1 v2 v4 0 r11 hf)
        · refine at_iconst hO dX9_fitNow_80 81 rfl ?_
          refine at_goto hO dX9_fitNow_81 85 rfl ?_
          exact at_sub (fun ls h => lv_sub h [1, 2, 3, 5] rfl) (wB_X9_fitNow_85 hO hrec4 hrec14 s12 v1 v2 v4 1 r11 hf)
theorem wL_X9_fitNow_14 {X : CX} {G : Ge} {Z : Rt} {rec4 : St → Int → Int → Option Rt} (hO : rr_OK X G cX9_fitNow 6 RX9 (some .int) 6 136) (hrec4 : ∀ (s : St) (v1 v2 : Int), rec4 s v1 v2 = some Z → rr_AT X G 6 1 Z 4 [(0, vr G 58), (1, vi v1), (2, vi v2)] [] s) : ∀ (n : Nat) (s : St) (v1 v2 v3 v4 : Int), L_X9_fitNow_14 rec4 n s v1 v2 v3 v4 = some Z → rr_AT X G 6 1 Z 14 [(0, vr G 58), (1, vi v1), (2, vi v2), (3, vi v3), (4, vi v4)] [] s := by
  intro n
  induction n with
  | zero =>
    intro s v1 v2 v3 v4 hf
    cases hf
  | succ n ih =>
    intro s v1 v2 v3 v4 hf
    exact wS_X9_fitNow_14 hO hrec4 ih s v1 v2 v3 v4 hf
def S_X9_fitNow_4 (rec4 : St → Int → Int → Option Rt) (s : St) (v1 v2 : Int) : Option Rt := chk (in32 v2) ((if 3 ≤ v2 then some (v1, s) else L_X9_fitNow_14 rec4 FU s v1 v2 1 0))
def L_X9_fitNow_4 : Nat → St → Int → Int → Option Rt
  | 0, _, _, _ => none
  | n + 1, s, v1, v2 => S_X9_fitNow_4 (L_X9_fitNow_4 n) s v1 v2
set_option maxRecDepth 100000 in
set_option maxHeartbeats 4000000 in
theorem wS_X9_fitNow_4 {X : CX} {G : Ge} {Z : Rt} {rec4 : St → Int → Int → Option Rt} (hO : rr_OK X G cX9_fitNow 6 RX9 (some .int) 6 136) (hrec4 : ∀ (s : St) (v1 v2 : Int), rec4 s v1 v2 = some Z → rr_AT X G 6 1 Z 4 [(0, vr G 58), (1, vi v1), (2, vi v2)] [] s) (s : St) (v1 v2 : Int) (hf : S_X9_fitNow_4 rec4 s v1 v2 = some Z) : rr_AT X G 6 1 Z 4 [(0, vr G 58), (1, vi v1), (2, vi v2)] [] s := by
  unfold S_X9_fitNow_4 at hf
  refine at_iload_n hO 2 rfl rfl dX9_fitNow_4 5 rfl ?_
  refine at_iconst hO dX9_fitNow_5 6 rfl ?_
  obtain ⟨h1, hf⟩ := chk_some hf
  refine at_icmp_ge hO h1 (by decide) dX9_fitNow_6 120 rfl 9 rfl hf (fun hf => ?_) (fun hf => ?_)
  · refine at_iload_n hO 1 rfl rfl dX9_fitNow_120 121 rfl ?_
    exact at_ireturn hO dX9_fitNow_121 hf
  · refine at_iconst hO dX9_fitNow_9 10 rfl ?_
    refine at_istore_n hO (lv' := [(3, vi 1), (0, vr G 58), (1, vi v1), (2, vi v2)]) rfl (Nat.le_of_ble_eq_true rfl) rfl dX9_fitNow_10 11 rfl ?_
    refine at_iconst hO dX9_fitNow_11 12 rfl ?_
    refine at_istore hO (lv' := [(4, vi 0), (3, vi 1), (0, vr G 58), (1, vi v1), (2, vi v2)]) (Nat.le_of_ble_eq_true rfl) rfl dX9_fitNow_12 14 rfl ?_
    exact at_sub (fun ls h => lv_sub h [2, 3, 4, 1, 0] rfl) (wL_X9_fitNow_14 hO hrec4 FU s v1 v2 1 0 hf)
theorem wL_X9_fitNow_4 {X : CX} {G : Ge} {Z : Rt} (hO : rr_OK X G cX9_fitNow 6 RX9 (some .int) 6 136) : ∀ (n : Nat) (s : St) (v1 v2 : Int), L_X9_fitNow_4 n s v1 v2 = some Z → rr_AT X G 6 1 Z 4 [(0, vr G 58), (1, vi v1), (2, vi v2)] [] s := by
  intro n
  induction n with
  | zero =>
    intro s v1 v2 hf
    cases hf
  | succ n ih =>
    intro s v1 v2 hf
    exact wS_X9_fitNow_4 hO ih s v1 v2 hf
def f_X9_fitNow (s : St) : Option Rt := L_X9_fitNow_4 FU s 0 0
set_option maxRecDepth 100000 in
set_option maxHeartbeats 4000000 in
theorem c_X9_fitNow (l : Launch) (G : Ge) (hG : rr_GD G) (s : St) : rr_Ct l G yX9_fitNow cX9_fitNow 6 (some .int) 6 136 1 [vr G 58] s (f_X9_fitNow s ) := by
  refine rr_mk (lv := [(0, vr G 58)]) RX9 (by decide) rfl hG (Nat.le_of_ble_eq_true rfl) rfl ?_
  intro X Z hO hf
  unfold f_X9_fitNow at hf
  refine at_iconst hO dX9_fitNow_0 1 rfl ?_
  refine at_istore_n hO (lv' := [(1, vi 0), (0, vr G 58)]) rfl (Nat.le_of_ble_eq_true rfl) rfl dX9_fitNow_1 2 rfl ?_
  refine at_iconst hO dX9_fitNow_2 3 rfl ?_
  refine at_istore_n hO (lv' := [(2, vi 0), (1, vi 0), (0, vr G 58)]) rfl (Nat.le_of_ble_eq_true rfl) rfl dX9_fitNow_3 4 rfl ?_
  exact at_sub (fun ls h => lv_sub h [2, 1, 0] rfl) (wL_X9_fitNow_4 hO FU s 0 0 hf)

def f_X9_fit (s : St) : Option Rt := cll (f_X9_fitNow s) (fun r1 s2 => some (r1, s2))
set_option maxRecDepth 100000 in
set_option maxHeartbeats 4000000 in
theorem c_X9_fit (l : Launch) (G : Ge) (hG : rr_GD G) (s : St) : rr_Ct l G yX9_fit cX9_fit 1 (some .int) 7 161 1 [vr G 58] s (f_X9_fit s ) := by
  refine rr_mk (lv := [(0, vr G 58)]) RX9 (by decide) rfl hG (Nat.le_of_ble_eq_true rfl) rfl ?_
  intro X Z hO hf
  unfold f_X9_fit at hf
  refine at_aload_n hO 0 rfl rfl dX9_fit_0 1 rfl ?_
  refine at_callV1 (As := []) (st := []) hO (c_X9_fitNow _ G hO.g s ) mb_X9_fitNow mi_X9_fitNow lk_X9_245 rfl ⟨_, rfl, rfl⟩ rfl ⟨(Nat.le_of_ble_eq_true rfl), (Nat.le_of_ble_eq_true rfl)⟩ (Nat.le_of_ble_eq_true rfl) rfl dX9_fit_1 4 rfl hf (fun r1 s2 hf => ?_)
  exact at_ireturn hO dX9_fit_4 hf

def S_X9_write_49 (rec49 : St → Int → Int → Int → Int → Option Rt) (s : St) (v1 v2 v3 v4 : Int) : Option Rt := chk (in32 v4) (chk (in32 v3) ((if v3 ≤ v4 then some (v3, s) else chk (ix v2 4) (cll (f_X9_closedOf s v1 v4) (fun r4 s5 => cll (f_X9_cut s5 (s 59 v2.toNat) r4) (fun r6 s7 => chk (ix ((60 * v2) + v4) 240) (rec49 (su s7 61 ((60 * v2) + v4).toNat r6) v1 v2 v3 (v4 + 1))))))))
def L_X9_write_49 : Nat → St → Int → Int → Int → Int → Option Rt
  | 0, _, _, _, _, _ => none
  | n + 1, s, v1, v2, v3, v4 => S_X9_write_49 (L_X9_write_49 n) s v1 v2 v3 v4
set_option maxRecDepth 100000 in
set_option maxHeartbeats 4000000 in
theorem wS_X9_write_49 {X : CX} {G : Ge} {Z : Rt} {rec49 : St → Int → Int → Int → Int → Option Rt} (hO : rr_OK X G cX9_write 5 RX9 (some .int) 7 160) (hrec49 : ∀ (s : St) (v1 v2 v3 v4 : Int), rec49 s v1 v2 v3 v4 = some Z → rr_AT X G 5 1 Z 49 [(0, vr G 58), (1, vi v1), (2, vi v2), (3, vi v3), (4, vi v4)] [] s) (s : St) (v1 v2 v3 v4 : Int) (hf : S_X9_write_49 rec49 s v1 v2 v3 v4 = some Z) : rr_AT X G 5 1 Z 49 [(0, vr G 58), (1, vi v1), (2, vi v2), (3, vi v3), (4, vi v4)] [] s := by
  unfold S_X9_write_49 at hf
  refine at_iload hO 4 rfl dX9_write_49 51 rfl ?_
  refine at_iload_n hO 3 rfl rfl dX9_write_51 52 rfl ?_
  obtain ⟨h1, hf⟩ := chk_some hf
  obtain ⟨h2, hf⟩ := chk_some hf
  refine at_icmp_ge hO h1 h2 dX9_write_52 89 rfl 55 rfl hf (fun hf => ?_) (fun hf => ?_)
  · refine at_iload_n hO 3 rfl rfl dX9_write_89 90 rfl ?_
    exact at_ireturn hO dX9_write_90 hf
  · refine at_aload_n hO 0 rfl rfl dX9_write_55 56 rfl ?_
    refine at_getR hO fl_X9_16 rfl rfl dX9_write_56 59 rfl ?_
    refine at_bipush hO (by decide) dX9_write_59 61 rfl ?_
    refine at_iload_n hO 2 rfl rfl dX9_write_61 62 rfl ?_
    refine at_imul hO dX9_write_62 63 rfl ?_
    refine at_iload hO 4 rfl dX9_write_63 65 rfl ?_
    refine at_iadd hO dX9_write_65 66 rfl ?_
    refine at_aload_n hO 0 rfl rfl dX9_write_66 67 rfl ?_
    refine at_getR hO fl_X9_7 rfl rfl dX9_write_67 70 rfl ?_
    refine at_iload_n hO 2 rfl rfl dX9_write_70 71 rfl ?_
    obtain ⟨h3, hf⟩ := chk_some hf
    refine at_iaload hO rfl (Nat.le_of_ble_eq_true rfl) h3 (v2.toNat) rfl dX9_write_71 72 rfl ?_
    refine at_aload_n hO 0 rfl rfl dX9_write_72 73 rfl ?_
    refine at_iload_n hO 1 rfl rfl dX9_write_73 74 rfl ?_
    refine at_iload hO 4 rfl dX9_write_74 76 rfl ?_
    refine at_callV1 (As := [vi v1, vi v4]) (st := [vi (s 59 v2.toNat), vi ((60 * v2) + v4), vr G 61]) hO (c_X9_closedOf _ G hO.g s v1 v4) mb_X9_closedOf mi_X9_closedOf lk_X9_159 rfl ⟨_, rfl, rfl⟩ rfl ⟨(Nat.le_of_ble_eq_true rfl), (Nat.le_of_ble_eq_true rfl)⟩ (Nat.le_of_ble_eq_true rfl) rfl dX9_write_76 79 rfl hf (fun r4 s5 hf => ?_)
    refine at_callS1 (As := [vi (s 59 v2.toNat), vi r4]) (st := [vi ((60 * v2) + v4), vr G 61]) hO (c_X9_cut _ G hO.g s5 (s 59 v2.toNat) r4) mb_X9_cut ms_X9_cut lk_X9_73 rfl ⟨(Nat.le_of_ble_eq_true rfl), (Nat.le_of_ble_eq_true rfl)⟩ (Nat.le_of_ble_eq_true rfl) rfl dX9_write_79 82 rfl hf (fun r6 s7 hf => ?_)
    obtain ⟨h8, hf⟩ := chk_some hf
    refine at_iastore hO rfl (Nat.le_of_ble_eq_true rfl) h8 (((60 * v2) + v4).toNat) rfl dX9_write_82 83 rfl ?_
    refine at_iinc hO (lv' := [(4, vi (v4 + 1)), (0, vr G 58), (1, vi v1), (2, vi v2), (3, vi v3)]) 4 rfl (Nat.le_of_ble_eq_true rfl) rfl dX9_write_83 86 rfl ?_
    refine at_goto hO dX9_write_86 49 rfl ?_
    exact at_sub (fun ls h => lv_sub h [1, 2, 3, 4, 0] rfl) (hrec49 (su s7 61 ((60 * v2) + v4).toNat r6) v1 v2 v3 (v4 + 1) hf)
theorem wL_X9_write_49 {X : CX} {G : Ge} {Z : Rt} (hO : rr_OK X G cX9_write 5 RX9 (some .int) 7 160) : ∀ (n : Nat) (s : St) (v1 v2 v3 v4 : Int), L_X9_write_49 n s v1 v2 v3 v4 = some Z → rr_AT X G 5 1 Z 49 [(0, vr G 58), (1, vi v1), (2, vi v2), (3, vi v3), (4, vi v4)] [] s := by
  intro n
  induction n with
  | zero =>
    intro s v1 v2 v3 v4 hf
    cases hf
  | succ n ih =>
    intro s v1 v2 v3 v4 hf
    exact wS_X9_write_49 hO ih s v1 v2 v3 v4 hf
def f_X9_write (s : St) (p1 p2 : Int) : Option Rt := cll (f_X9_isSpring s p1) (fun r1 s2 => chk (in32 r1) ((if r1 = 0 then some ((-2), s2) else cll (f_X9_isSheet s2 p2) (fun r4 s5 => chk (in32 r4) ((if r4 = 0 then some ((-2), s5) else chk (ix p2 4) (chk (in32 (s5 59 p2.toNat)) ((if 0 ≤ (s5 59 p2.toNat) then cll (f_X9_yards s5) (fun r9 s10 => cll (f_X9_lesser s10 (s5 60 p2.toNat) r9) (fun r11 s12 => L_X9_write_49 FU s12 p1 p2 r11 0)) else cll (f_X9_met s5 1) (fun r13 s14 => some (r13, s14)))))))))))
set_option maxRecDepth 100000 in
set_option maxHeartbeats 4000000 in
theorem c_X9_write (l : Launch) (G : Ge) (hG : rr_GD G) (s : St) (p1 p2 : Int) : rr_Ct l G yX9_write cX9_write 5 (some .int) 7 160 1 [vr G 58, vi p1, vi p2] s (f_X9_write s p1 p2) := by
  refine rr_mk (lv := [(0, vr G 58), (1, vi p1), (2, vi p2)]) RX9 (by decide) rfl hG (Nat.le_of_ble_eq_true rfl) rfl ?_
  intro X Z hO hf
  unfold f_X9_write at hf
  refine at_iload_n hO 1 rfl rfl dX9_write_0 1 rfl ?_
  refine at_callS1 (As := [vi p1]) (st := []) hO (c_X9_isSpring _ G hO.g s p1) mb_X9_isSpring ms_X9_isSpring lk_X9_105 rfl ⟨(Nat.le_of_ble_eq_true rfl), (Nat.le_of_ble_eq_true rfl)⟩ (Nat.le_of_ble_eq_true rfl) rfl dX9_write_1 4 rfl hf (fun r1 s2 hf => ?_)
  obtain ⟨h3, hf⟩ := chk_some hf
  refine at_if_eq hO h3 dX9_write_4 14 rfl 7 rfl hf (fun hf => ?_) (fun hf => ?_)
  · refine at_bipush hO (by decide) dX9_write_14 16 rfl ?_
    exact at_ireturn hO dX9_write_16 hf
  · refine at_iload_n hO 2 rfl rfl dX9_write_7 8 rfl ?_
    refine at_callS1 (As := [vi p2]) (st := []) hO (c_X9_isSheet _ G hO.g s2 p2) mb_X9_isSheet ms_X9_isSheet lk_X9_59 rfl ⟨(Nat.le_of_ble_eq_true rfl), (Nat.le_of_ble_eq_true rfl)⟩ (Nat.le_of_ble_eq_true rfl) rfl dX9_write_8 11 rfl hf (fun r4 s5 hf => ?_)
    obtain ⟨h6, hf⟩ := chk_some hf
    refine at_if_ne hO h6 dX9_write_11 17 rfl 14 rfl hf (fun hf => ?_) (fun hf => ?_)
    · refine at_aload_n hO 0 rfl rfl dX9_write_17 18 rfl ?_
      refine at_getR hO fl_X9_7 rfl rfl dX9_write_18 21 rfl ?_
      refine at_iload_n hO 2 rfl rfl dX9_write_21 22 rfl ?_
      obtain ⟨h7, hf⟩ := chk_some hf
      refine at_iaload hO rfl (Nat.le_of_ble_eq_true rfl) h7 (p2.toNat) rfl dX9_write_22 23 rfl ?_
      obtain ⟨h8, hf⟩ := chk_some hf
      refine at_if_ge hO h8 dX9_write_23 32 rfl 26 rfl hf (fun hf => ?_) (fun hf => ?_)
      · refine at_aload_n hO 0 rfl rfl dX9_write_32 33 rfl ?_
        refine at_getR hO fl_X9_13 rfl rfl dX9_write_33 36 rfl ?_
        refine at_iload_n hO 2 rfl rfl dX9_write_36 37 rfl ?_
        refine at_iaload hO rfl (Nat.le_of_ble_eq_true rfl) h7 (p2.toNat) rfl dX9_write_37 38 rfl ?_
        refine at_aload_n hO 0 rfl rfl dX9_write_38 39 rfl ?_
        refine at_callV1 (As := []) (st := [vi (s5 60 p2.toNat)]) hO (c_X9_yards _ G hO.g s5 ) mb_X9_yards mi_X9_yards lk_X9_95 rfl ⟨_, rfl, rfl⟩ rfl ⟨(Nat.le_of_ble_eq_true rfl), (Nat.le_of_ble_eq_true rfl)⟩ (Nat.le_of_ble_eq_true rfl) rfl dX9_write_39 42 rfl hf (fun r9 s10 hf => ?_)
        refine at_callS1 (As := [vi (s5 60 p2.toNat), vi r9]) (st := []) hO (c_X9_lesser _ G hO.g s10 (s5 60 p2.toNat) r9) mb_X9_lesser ms_X9_lesser lk_X9_148 rfl ⟨(Nat.le_of_ble_eq_true rfl), (Nat.le_of_ble_eq_true rfl)⟩ (Nat.le_of_ble_eq_true rfl) rfl dX9_write_42 45 rfl hf (fun r11 s12 hf => ?_)
        refine at_istore_n hO (lv' := [(3, vi r11), (0, vr G 58), (1, vi p1), (2, vi p2)]) rfl (Nat.le_of_ble_eq_true rfl) rfl dX9_write_45 46 rfl ?_
        refine at_iconst hO dX9_write_46 47 rfl ?_
        refine at_istore hO (lv' := [(4, vi 0), (3, vi r11), (0, vr G 58), (1, vi p1), (2, vi p2)]) (Nat.le_of_ble_eq_true rfl) rfl dX9_write_47 49 rfl ?_
        exact at_sub (fun ls h => lv_sub h [2, 3, 4, 1, 0] rfl) (wL_X9_write_49 hO FU s12 p1 p2 r11 0 hf)
      · refine at_aload_n hO 0 rfl rfl dX9_write_26 27 rfl ?_
        refine at_iconst hO dX9_write_27 28 rfl ?_
        refine at_callV1 (As := [vi 1]) (st := []) hO (c_X9_met _ G hO.g s5 1) mb_X9_met mi_X9_met lk_X9_65 rfl ⟨_, rfl, rfl⟩ rfl ⟨(Nat.le_of_ble_eq_true rfl), (Nat.le_of_ble_eq_true rfl)⟩ (Nat.le_of_ble_eq_true rfl) rfl dX9_write_28 31 rfl hf (fun r13 s14 hf => ?_)
        exact at_ireturn hO dX9_write_31 hf
    · refine at_bipush hO (by decide) dX9_write_14 16 rfl ?_
      exact at_ireturn hO dX9_write_16 hf

def S_X9_count_72 (rec72 : St → Int → Int → Option Rt) (s : St) (v2 v3 : Int) : Option Rt := chk (in32 v3) ((if 8 ≤ v3 then some (v2, s) else chk (ix (4 * v3) 32) (rec72 s (v2 + (s 69 (4 * v3).toNat)) (v3 + 1))))
def L_X9_count_72 : Nat → St → Int → Int → Option Rt
  | 0, _, _, _ => none
  | n + 1, s, v2, v3 => S_X9_count_72 (L_X9_count_72 n) s v2 v3
set_option maxRecDepth 100000 in
set_option maxHeartbeats 4000000 in
theorem wS_X9_count_72 {X : CX} {G : Ge} {Z : Rt} {rec72 : St → Int → Int → Option Rt} (hO : rr_OK X G cX9_count 4 RX9 (some .int) 4 88) (hrec72 : ∀ (s : St) (v2 v3 : Int), rec72 s v2 v3 = some Z → rr_AT X G 4 1 Z 72 [(0, vr G 58), (2, vi v2), (3, vi v3)] [] s) (s : St) (v2 v3 : Int) (hf : S_X9_count_72 rec72 s v2 v3 = some Z) : rr_AT X G 4 1 Z 72 [(0, vr G 58), (2, vi v2), (3, vi v3)] [] s := by
  unfold S_X9_count_72 at hf
  refine at_iload_n hO 2 rfl rfl dX9_count_72 73 rfl ?_
  refine at_bipush hO (by decide) dX9_count_73 75 rfl ?_
  obtain ⟨h1, hf⟩ := chk_some hf
  refine at_icmp_ge hO h1 (by decide) dX9_count_75 95 rfl 78 rfl hf (fun hf => ?_) (fun hf => ?_)
  · refine at_iload_n hO 1 rfl rfl dX9_count_95 96 rfl ?_
    exact at_ireturn hO dX9_count_96 hf
  · refine at_iload_n hO 1 rfl rfl dX9_count_78 79 rfl ?_
    refine at_aload_n hO 0 rfl rfl dX9_count_79 80 rfl ?_
    refine at_getR hO fl_X9_41 rfl rfl dX9_count_80 83 rfl ?_
    refine at_iconst hO dX9_count_83 84 rfl ?_
    refine at_iload_n hO 2 rfl rfl dX9_count_84 85 rfl ?_
    refine at_imul hO dX9_count_85 86 rfl ?_
    obtain ⟨h2, hf⟩ := chk_some hf
    refine at_iaload hO rfl (Nat.le_of_ble_eq_true rfl) h2 ((4 * v3).toNat) rfl dX9_count_86 87 rfl ?_
    refine at_iadd hO dX9_count_87 88 rfl ?_
    refine at_istore_n hO (lv' := [(2, vi (v2 + (s 69 (4 * v3).toNat))), (0, vr G 58), (3, vi v3)]) rfl (Nat.le_of_ble_eq_true rfl) rfl dX9_count_88 89 rfl ?_
    refine at_iinc hO (lv' := [(3, vi (v3 + 1)), (2, vi (v2 + (s 69 (4 * v3).toNat))), (0, vr G 58)]) 2 rfl (Nat.le_of_ble_eq_true rfl) rfl dX9_count_89 92 rfl ?_
    refine at_goto hO dX9_count_92 72 rfl ?_
    exact at_sub (fun ls h => lv_sub h [2, 1, 0] rfl) (hrec72 s (v2 + (s 69 (4 * v3).toNat)) (v3 + 1) hf)
theorem wL_X9_count_72 {X : CX} {G : Ge} {Z : Rt} (hO : rr_OK X G cX9_count 4 RX9 (some .int) 4 88) : ∀ (n : Nat) (s : St) (v2 v3 : Int), L_X9_count_72 n s v2 v3 = some Z → rr_AT X G 4 1 Z 72 [(0, vr G 58), (2, vi v2), (3, vi v3)] [] s := by
  intro n
  induction n with
  | zero =>
    intro s v2 v3 hf
    cases hf
  | succ n ih =>
    intro s v2 v3 hf
    exact wS_X9_count_72 hO ih s v2 v3 hf
def f_X9_count (s : St) (p1 : Int) : Option Rt := chk (in32 p1) ((if p1 = 0 then cll (f_X9_yards s) (fun r2 s3 => some (r2, s3)) else (if p1 = 1 then cll (f_X9_figures s (p1 - 1)) (fun r4 s5 => some (r4, s5)) else (if p1 = 2 then cll (f_X9_figures s (p1 - 1)) (fun r6 s7 => some (r6, s7)) else (if p1 = 3 then cll (f_X9_figures s (p1 - 1)) (fun r8 s9 => some (r8, s9)) else (if p1 = 4 then some ((s 58 9), s) else (if p1 = 5 then L_X9_count_72 FU s 0 0 else (if p1 = 6 then some ((s 58 17), s) else (if p1 = 7 then cll (f_X9_weight s 7) (fun r10 s11 => some (r10, s11)) else (if p1 = 8 then some ((s 58 4), s) else some ((-2), s)))))))))))
set_option maxRecDepth 100000 in
set_option maxHeartbeats 4000000 in
theorem c_X9_count (l : Launch) (G : Ge) (hG : rr_GD G) (s : St) (p1 : Int) : rr_Ct l G yX9_count cX9_count 4 (some .int) 4 88 1 [vr G 58, vi p1] s (f_X9_count s p1) := by
  refine rr_mk (lv := [(0, vr G 58), (1, vi p1)]) RX9 (by decide) rfl hG (Nat.le_of_ble_eq_true rfl) rfl ?_
  intro X Z hO hf
  unfold f_X9_count at hf
  refine at_iconst hO dX9_count_0 1 rfl ?_
  refine at_istore_n hO (lv' := [(2, vi 0), (0, vr G 58), (1, vi p1)]) rfl (Nat.le_of_ble_eq_true rfl) rfl dX9_count_1 2 rfl ?_
  refine at_iload_n hO 2 rfl rfl dX9_count_2 3 rfl ?_
  obtain ⟨h1, hf⟩ := chk_some hf
  by_cases e20 : p1 = 0
  · rw [if_pos e20] at hf
    refine at_tsIn hO 0 dX9_count_3 (by omega) (by decide) (by decide) rfl 52 rfl ?_
    refine at_aload_n hO 1 rfl rfl dX9_count_52 53 rfl ?_
    refine at_callV1 (As := []) (st := []) hO (c_X9_yards _ G hO.g s ) mb_X9_yards mi_X9_yards lk_X9_95 rfl ⟨_, rfl, rfl⟩ rfl ⟨(Nat.le_of_ble_eq_true rfl), (Nat.le_of_ble_eq_true rfl)⟩ (Nat.le_of_ble_eq_true rfl) rfl dX9_count_53 56 rfl hf (fun r2 s3 hf => ?_)
    exact at_ireturn hO dX9_count_56 hf
  · rw [if_neg e20] at hf
    by_cases e19 : p1 = 1
    · rw [if_pos e19] at hf
      refine at_tsIn hO 1 dX9_count_3 (by omega) (by decide) (by decide) rfl 57 rfl ?_
      refine at_aload_n hO 1 rfl rfl dX9_count_57 58 rfl ?_
      refine at_iload_n hO 2 rfl rfl dX9_count_58 59 rfl ?_
      refine at_iconst hO dX9_count_59 60 rfl ?_
      refine at_isub hO dX9_count_60 61 rfl ?_
      refine at_callV1 (As := [vi (p1 - 1)]) (st := []) hO (c_X9_figures _ G hO.g s (p1 - 1)) mb_X9_figures mi_X9_figures lk_X9_92 rfl ⟨_, rfl, rfl⟩ rfl ⟨(Nat.le_of_ble_eq_true rfl), (Nat.le_of_ble_eq_true rfl)⟩ (Nat.le_of_ble_eq_true rfl) rfl dX9_count_61 64 rfl hf (fun r4 s5 hf => ?_)
      exact at_ireturn hO dX9_count_64 hf
    · rw [if_neg e19] at hf
      by_cases e18 : p1 = 2
      · rw [if_pos e18] at hf
        refine at_tsIn hO 2 dX9_count_3 (by omega) (by decide) (by decide) rfl 57 rfl ?_
        refine at_aload_n hO 1 rfl rfl dX9_count_57 58 rfl ?_
        refine at_iload_n hO 2 rfl rfl dX9_count_58 59 rfl ?_
        refine at_iconst hO dX9_count_59 60 rfl ?_
        refine at_isub hO dX9_count_60 61 rfl ?_
        refine at_callV1 (As := [vi (p1 - 1)]) (st := []) hO (c_X9_figures _ G hO.g s (p1 - 1)) mb_X9_figures mi_X9_figures lk_X9_92 rfl ⟨_, rfl, rfl⟩ rfl ⟨(Nat.le_of_ble_eq_true rfl), (Nat.le_of_ble_eq_true rfl)⟩ (Nat.le_of_ble_eq_true rfl) rfl dX9_count_61 64 rfl hf (fun r6 s7 hf => ?_)
        exact at_ireturn hO dX9_count_64 hf
      · rw [if_neg e18] at hf
        by_cases e17 : p1 = 3
        · rw [if_pos e17] at hf
          refine at_tsIn hO 3 dX9_count_3 (by omega) (by decide) (by decide) rfl 57 rfl ?_
          refine at_aload_n hO 1 rfl rfl dX9_count_57 58 rfl ?_
          refine at_iload_n hO 2 rfl rfl dX9_count_58 59 rfl ?_
          refine at_iconst hO dX9_count_59 60 rfl ?_
          refine at_isub hO dX9_count_60 61 rfl ?_
          refine at_callV1 (As := [vi (p1 - 1)]) (st := []) hO (c_X9_figures _ G hO.g s (p1 - 1)) mb_X9_figures mi_X9_figures lk_X9_92 rfl ⟨_, rfl, rfl⟩ rfl ⟨(Nat.le_of_ble_eq_true rfl), (Nat.le_of_ble_eq_true rfl)⟩ (Nat.le_of_ble_eq_true rfl) rfl dX9_count_61 64 rfl hf (fun r8 s9 hf => ?_)
          exact at_ireturn hO dX9_count_64 hf
        · rw [if_neg e17] at hf
          by_cases e16 : p1 = 4
          · rw [if_pos e16] at hf
            refine at_tsIn hO 4 dX9_count_3 (by omega) (by decide) (by decide) rfl 65 rfl ?_
            refine at_aload_n hO 1 rfl rfl dX9_count_65 66 rfl ?_
            refine at_getI hO fl_X9_123 rfl rfl dX9_count_66 69 rfl ?_
            exact at_ireturn hO dX9_count_69 hf
          · rw [if_neg e16] at hf
            by_cases e15 : p1 = 5
            · rw [if_pos e15] at hf
              refine at_tsIn hO 5 dX9_count_3 (by omega) (by decide) (by decide) rfl 70 rfl ?_
              refine at_iconst hO dX9_count_70 71 rfl ?_
              refine at_istore_n hO (lv' := [(3, vi 0), (2, vi 0), (0, vr G 58), (1, vi p1)]) rfl (Nat.le_of_ble_eq_true rfl) rfl dX9_count_71 72 rfl ?_
              exact at_sub (fun ls h => lv_sub h [2, 1, 0] rfl) (wL_X9_count_72 hO FU s 0 0 hf)
            · rw [if_neg e15] at hf
              by_cases e14 : p1 = 6
              · rw [if_pos e14] at hf
                refine at_tsIn hO 6 dX9_count_3 (by omega) (by decide) (by decide) rfl 97 rfl ?_
                refine at_aload_n hO 1 rfl rfl dX9_count_97 98 rfl ?_
                refine at_getI hO fl_X9_242 rfl rfl dX9_count_98 101 rfl ?_
                exact at_ireturn hO dX9_count_101 hf
              · rw [if_neg e14] at hf
                by_cases e13 : p1 = 7
                · rw [if_pos e13] at hf
                  refine at_tsIn hO 7 dX9_count_3 (by omega) (by decide) (by decide) rfl 102 rfl ?_
                  refine at_aload_n hO 1 rfl rfl dX9_count_102 103 rfl ?_
                  refine at_bipush hO (by decide) dX9_count_103 105 rfl ?_
                  refine at_callV2 (As := [vi 7]) (st := []) hO (c_X9_weight _ G hO.g s 7) mb_X9_weight mi_X9_weight lk_X9_166 rfl ⟨_, rfl, rfl⟩ rfl ⟨(Nat.le_of_ble_eq_true rfl), (Nat.le_of_ble_eq_true rfl)⟩ (Nat.le_of_ble_eq_true rfl) rfl dX9_count_105 108 rfl hf (fun r10 s11 hf => ?_)
                  refine at_l2i hO dX9_count_108 109 rfl ?_
                  exact at_ireturn hO dX9_count_109 hf
                · rw [if_neg e13] at hf
                  by_cases e12 : p1 = 8
                  · rw [if_pos e12] at hf
                    refine at_tsIn hO 8 dX9_count_3 (by omega) (by decide) (by decide) rfl 110 rfl ?_
                    refine at_aload_n hO 1 rfl rfl dX9_count_110 111 rfl ?_
                    refine at_getI hO fl_X9_53 rfl rfl dX9_count_111 114 rfl ?_
                    exact at_ireturn hO dX9_count_114 hf
                  · rw [if_neg e12] at hf
                    refine at_tsOut hO h1 dX9_count_3 (by omega) 115 rfl ?_
                    refine at_bipush hO (by decide) dX9_count_115 117 rfl ?_
                    exact at_ireturn hO dX9_count_117 hf
