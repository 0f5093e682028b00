def f_X8_ridgeCost (s : St) (p1 p2 p3 : Int) : Option Rt := some ((p3 * ((p2 - p1) + 1)), s)
set_option maxRecDepth 100000 in
set_option maxHeartbeats 4000000 in
theorem c_X8_ridgeCost (l : Launch) (G : Ge) (hG : rr_GD G) (s : St) (p1 p2 p3 : Int) : rr_Ct l G yX8_ridgeCost cX8_ridgeCost 3 (some .int) 0 0 1 [vi p1, vi p2, vi p3] s (f_X8_ridgeCost s p1 p2 p3) := by
  refine rr_mk (lv := [(0, vi p1), (1, vi p2), (2, vi p3)]) RX8 (by decide) rfl hG (Nat.le_of_ble_eq_true rfl) rfl ?_
  intro X Z hO hf
  unfold f_X8_ridgeCost at hf
  refine at_iload_n hO 2 rfl rfl dX8_ridgeCost_0 1 rfl ?_
  refine at_iload_n hO 1 rfl rfl dX8_ridgeCost_1 2 rfl ?_
  refine at_iload_n hO 0 rfl rfl dX8_ridgeCost_2 3 rfl ?_
  refine at_isub hO dX8_ridgeCost_3 4 rfl ?_
  refine at_iconst hO dX8_ridgeCost_4 5 rfl ?_
  refine at_iadd hO dX8_ridgeCost_5 6 rfl ?_
  refine at_imul hO dX8_ridgeCost_6 7 rfl ?_
  exact at_ireturn hO dX8_ridgeCost_7 hf

def B_X7_choose_103 (s : St) (v1 v7 v8 t0 t1 : Int) : Option Rt := chk (t0 = 0 ∨ t0 = 1) (chk (ix t1 3) (chk (ix v1 3) (chk (in32 ((su s 35 t1.toNat t0) 35 v1.toNat)) ((if ((su s 35 t1.toNat t0) 35 v1.toNat) = 0 then some (0, (su (su s 35 t1.toNat t0) 33 v1.toNat v8)) else some (0, (su (su s 35 t1.toNat t0) 33 v1.toNat v7)))))))
set_option maxRecDepth 100000 in
set_option maxHeartbeats 4000000 in
theorem wB_X7_choose_103 {X : CX} {G : Ge} {Z : Rt} (hO : rr_OK X G cX7_choose 9 RX7 none 2 43) (s : St) (v1 v7 v8 t0 t1 : Int) (hf : B_X7_choose_103 s v1 v7 v8 t0 t1 = some Z) : rr_AT X G 9 0 Z 103 [(0, vr G 28), (1, vi v1), (7, vi v7), (8, vi v8)] [vi t0, vi t1, vr G 35] s := by
  unfold B_X7_choose_103 at hf
  obtain ⟨h1, hf⟩ := chk_some hf
  obtain ⟨h2, hf⟩ := chk_some hf
  refine at_zastore hO h1 rfl (Nat.le_of_ble_eq_true rfl) h2 (t1.toNat) rfl dX7_choose_103 104 rfl ?_
  refine at_aload_n hO 0 rfl rfl dX7_choose_104 105 rfl ?_
  refine at_getR hO fl_X7_16 rfl rfl dX7_choose_105 108 rfl ?_
  refine at_iload_n hO 1 rfl rfl dX7_choose_108 109 rfl ?_
  refine at_aload_n hO 0 rfl rfl dX7_choose_109 110 rfl ?_
  refine at_getR hO fl_X7_23 rfl rfl dX7_choose_110 113 rfl ?_
  refine at_iload_n hO 1 rfl rfl dX7_choose_113 114 rfl ?_
  obtain ⟨h3, hf⟩ := chk_some hf
  refine at_zaload hO rfl (Nat.le_of_ble_eq_true rfl) h3 (v1.toNat) rfl dX7_choose_114 115 rfl ?_
  obtain ⟨h4, hf⟩ := chk_some hf
  refine at_if_eq hO h4 dX7_choose_115 123 rfl 118 rfl hf (fun hf => ?_) (fun hf => ?_)
  · refine at_iload hO 3 rfl dX7_choose_123 125 rfl ?_
    refine at_iastore hO rfl (Nat.le_of_ble_eq_true rfl) h3 (v1.toNat) rfl dX7_choose_125 126 rfl ?_
    exact at_return hO dX7_choose_126 hf
  · refine at_iload hO 2 rfl dX7_choose_118 120 rfl ?_
    refine at_goto hO dX7_choose_120 125 rfl ?_
    refine at_iastore hO rfl (Nat.le_of_ble_eq_true rfl) h3 (v1.toNat) rfl dX7_choose_125 126 rfl ?_
    exact at_return hO dX7_choose_126 hf
def f_X7_choose (s : St) (p1 p2 p3 p4 : Int) : Option Rt := cll (f_X7_sumOfAlike 11 s p1 p2) (fun r1 s2 => cll (f_X6_wetYards s2 p1 p2) (fun r3 s4 => cll (f_X8_roadCost s4 r3 p3 p4 (s4 10 2)) (fun r5 s6 => cll (f_X8_ridgeCost s6 p3 p4 (s6 10 3)) (fun r7 s8 => chk (in32 r5) (chk (in32 r7) (cll (f_X7_sumOfAlike 34 s8 p1 p2) (fun r11 s12 => chk (in32 p2) ((if p2 = 29 then B_X7_choose_103 s12 p1 (r1 * (min r5 r7)) ((r1 * (s8 10 6)) + r11) 1 p1 else chk (in32 (r1 * (min r5 r7))) (chk (in32 ((r1 * (s8 10 6)) + r11)) ((if ((r1 * (s8 10 6)) + r11) < (r1 * (min r5 r7)) then B_X7_choose_103 s12 p1 (r1 * (min r5 r7)) ((r1 * (s8 10 6)) + r11) 0 p1 else B_X7_choose_103 s12 p1 (r1 * (min r5 r7)) ((r1 * (s8 10 6)) + r11) 1 p1))))))))))))
set_option maxRecDepth 100000 in
set_option maxHeartbeats 4000000 in
theorem c_X7_choose (l : Launch) (G : Ge) (hG : rr_GD G) (s : St) (p1 p2 p3 p4 : Int) : rr_Ct l G yX7_choose cX7_choose 9 none 2 43 0 [vr G 28, vi p1, vi p2, vi p3, vi p4] s (f_X7_choose s p1 p2 p3 p4) := by
  refine rr_mk (lv := [(0, vr G 28), (1, vi p1), (2, vi p2), (3, vi p3), (4, vi p4)]) RX7 (by decide) rfl hG (Nat.le_of_ble_eq_true rfl) rfl ?_
  intro X Z hO hf
  unfold f_X7_choose at hf
  refine at_aload_n hO 0 rfl rfl dX7_choose_0 1 rfl ?_
  refine at_aload_n hO 0 rfl rfl dX7_choose_1 2 rfl ?_
  refine at_getR hO fl_X7_34 rfl rfl dX7_choose_2 5 rfl ?_
  refine at_iload_n hO 1 rfl rfl dX7_choose_5 6 rfl ?_
  refine at_iload_n hO 2 rfl rfl dX7_choose_6 7 rfl ?_
  refine at_callV1 (As := [vr G 11, vi p1, vi p2]) (st := []) hO (c_X7_sumOfAlike _ G hO.g 11 rfl s p1 p2) mb_X7_sumOfAlike mi_X7_sumOfAlike lk_X7_52 rfl ⟨_, rfl, rfl⟩ rfl ⟨(Nat.le_of_ble_eq_true rfl), (Nat.le_of_ble_eq_true rfl)⟩ (Nat.le_of_ble_eq_true rfl) rfl dX7_choose_7 10 rfl hf (fun r1 s2 hf => ?_)
  refine at_istore hO (lv' := [(5, vi r1), (0, vr G 28), (1, vi p1), (2, vi p2), (3, vi p3), (4, vi p4)]) (Nat.le_of_ble_eq_true rfl) rfl dX7_choose_10 12 rfl ?_
  refine at_aload_n hO 1 rfl rfl dX7_choose_12 13 rfl ?_
  refine at_getR hO fl_X7_27 rfl rfl dX7_choose_13 16 rfl ?_
  refine at_iload_n hO 2 rfl rfl dX7_choose_16 17 rfl ?_
  refine at_iload_n hO 3 rfl rfl dX7_choose_17 18 rfl ?_
  refine at_callV1 (As := [vi p1, vi p2]) (st := []) hO (c_X6_wetYards _ G hO.g s2 p1 p2) mb_X6_wetYards mi_X6_wetYards lk_X7_56 rfl ⟨_, rfl, rfl⟩ rfl ⟨(Nat.le_of_ble_eq_true rfl), (Nat.le_of_ble_eq_true rfl)⟩ (Nat.le_of_ble_eq_true rfl) rfl dX7_choose_18 21 rfl hf (fun r3 s4 hf => ?_)
  refine at_iload_n hO 4 rfl rfl dX7_choose_21 22 rfl ?_
  refine at_iload hO 5 rfl dX7_choose_22 24 rfl ?_
  refine at_aload_n hO 1 rfl rfl dX7_choose_24 25 rfl ?_
  refine at_getR hO fl_X7_31 rfl rfl dX7_choose_25 28 rfl ?_
  refine at_iconst hO dX7_choose_28 29 rfl ?_
  refine at_iaload hO rfl (Nat.le_of_ble_eq_true rfl) (by decide) (2) rfl dX7_choose_29 30 rfl ?_
  refine at_callSN1 (As := [vi r3, vi p3, vi p4, vi (s4 10 2)]) (st := []) hO (c_X8_roadCost _ G hO.g s4 r3 p3 p4 (s4 10 2)) mb_X8_roadCost ms_X8_roadCost lk_X7_62 rfl ⟨(Nat.le_of_ble_eq_true rfl), (Nat.le_of_ble_eq_true rfl)⟩ (Nat.le_of_ble_eq_true rfl) rfl dX7_choose_30 33 rfl hf (fun r5 s6 hf => ?_)
  refine at_istore hO (lv' := [(6, vi r5), (5, vi r1), (0, vr G 28), (1, vi p1), (2, vi p2), (3, vi p3), (4, vi p4)]) (Nat.le_of_ble_eq_true rfl) rfl dX7_choose_33 35 rfl ?_
  refine at_iload hO 1 rfl dX7_choose_35 37 rfl ?_
  refine at_iload hO 0 rfl dX7_choose_37 39 rfl ?_
  refine at_iload_n hO 5 rfl rfl dX7_choose_39 40 rfl ?_
  refine at_iload hO 6 rfl dX7_choose_40 42 rfl ?_
  refine at_aload_n hO 2 rfl rfl dX7_choose_42 43 rfl ?_
  refine at_getR hO fl_X7_31 rfl rfl dX7_choose_43 46 rfl ?_
  refine at_iconst hO dX7_choose_46 47 rfl ?_
  refine at_iaload hO rfl (Nat.le_of_ble_eq_true rfl) (by decide) (3) rfl dX7_choose_47 48 rfl ?_
  refine at_callSN1 (As := [vi p3, vi p4, vi (s6 10 3)]) (st := [vi r5, vi r1]) hO (c_X8_ridgeCost _ G hO.g s6 p3 p4 (s6 10 3)) mb_X8_ridgeCost ms_X8_ridgeCost lk_X7_66 rfl ⟨(Nat.le_of_ble_eq_true rfl), (Nat.le_of_ble_eq_true rfl)⟩ (Nat.le_of_ble_eq_true rfl) rfl dX7_choose_48 51 rfl hf (fun r7 s8 hf => ?_)
  obtain ⟨h9, hf⟩ := chk_some hf
  obtain ⟨h10, hf⟩ := chk_some hf
  refine at_mmin hO h9 h10 lk_X7_70 ⟨(Nat.le_of_ble_eq_true rfl), (Nat.le_of_ble_eq_true rfl)⟩ dX7_choose_51 54 rfl ?_
  refine at_imul hO dX7_choose_54 55 rfl ?_
  refine at_istore hO (lv' := [(7, vi (r1 * (min r5 r7))), (6, vi r5), (5, vi r1), (0, vr G 28), (1, vi p1), (2, vi p2), (3, vi p3), (4, vi p4)]) (Nat.le_of_ble_eq_true rfl) rfl dX7_choose_55 57 rfl ?_
  refine at_iload hO 2 rfl dX7_choose_57 59 rfl ?_
  refine at_aload_n hO 3 rfl rfl dX7_choose_59 60 rfl ?_
  refine at_getR hO fl_X7_31 rfl rfl dX7_choose_60 63 rfl ?_
  refine at_bipush hO (by decide) dX7_choose_63 65 rfl ?_
  refine at_iaload hO rfl (Nat.le_of_ble_eq_true rfl) (by decide) (6) rfl dX7_choose_65 66 rfl ?_
  refine at_imul hO dX7_choose_66 67 rfl ?_
  refine at_aload_n hO 3 rfl rfl dX7_choose_67 68 rfl ?_
  refine at_aload_n hO 3 rfl rfl dX7_choose_68 69 rfl ?_
  refine at_getR hO fl_X7_20 rfl rfl dX7_choose_69 72 rfl ?_
  refine at_iload_n hO 4 rfl rfl dX7_choose_72 73 rfl ?_
  refine at_iload_n hO 5 rfl rfl dX7_choose_73 74 rfl ?_
  refine at_callV1 (As := [vr G 34, vi p1, vi p2]) (st := [vi (r1 * (s8 10 6))]) hO (c_X7_sumOfAlike _ G hO.g 34 rfl s8 p1 p2) mb_X7_sumOfAlike mi_X7_sumOfAlike lk_X7_52 rfl ⟨_, rfl, rfl⟩ rfl ⟨(Nat.le_of_ble_eq_true rfl), (Nat.le_of_ble_eq_true rfl)⟩ (Nat.le_of_ble_eq_true rfl) rfl dX7_choose_74 77 rfl hf (fun r11 s12 hf => ?_)
  refine at_iadd hO dX7_choose_77 78 rfl ?_
  refine at_istore hO (lv' := [(8, vi ((r1 * (s8 10 6)) + r11)), (7, vi (r1 * (min r5 r7))), (6, vi r5), (5, vi r1), (0, vr G 28), (1, vi p1), (2, vi p2), (3, vi p3), (4, vi p4)]) (Nat.le_of_ble_eq_true rfl) rfl dX7_choose_78 80 rfl ?_
  refine at_aload_n hO 4 rfl rfl dX7_choose_80 81 rfl ?_
  refine at_getR hO fl_X7_23 rfl rfl dX7_choose_81 84 rfl ?_
  refine at_iload_n hO 5 rfl rfl dX7_choose_84 85 rfl ?_
  refine at_iload_n hO 6 rfl rfl dX7_choose_85 86 rfl ?_
  refine at_bipush hO (by decide) dX7_choose_86 88 rfl ?_
  obtain ⟨h13, hf⟩ := chk_some hf
  refine at_icmp_eq hO h13 (by decide) dX7_choose_88 98 rfl 91 rfl hf (fun hf => ?_) (fun hf => ?_)
  · refine at_iconst hO dX7_choose_98 99 rfl ?_
    refine at_goto hO dX7_choose_99 103 rfl ?_
    exact at_sub (fun ls h => lv_sub h [4, 5, 1, 0] rfl) (wB_X7_choose_103 hO s12 p1 (r1 * (min r5 r7)) ((r1 * (s8 10 6)) + r11) 1 p1 hf)
  · refine at_iload hO 1 rfl dX7_choose_91 93 rfl ?_
    refine at_iload hO 0 rfl dX7_choose_93 95 rfl ?_
    obtain ⟨h14, hf⟩ := chk_some hf
    obtain ⟨h15, hf⟩ := chk_some hf
    refine at_icmp_gt hO h14 h15 dX7_choose_95 102 rfl 98 rfl hf (fun hf => ?_) (fun hf => ?_)
    · refine at_iconst hO dX7_choose_102 103 rfl ?_
      exact at_sub (fun ls h => lv_sub h [4, 5, 1, 0] rfl) (wB_X7_choose_103 hO s12 p1 (r1 * (min r5 r7)) ((r1 * (s8 10 6)) + r11) 0 p1 hf)
    · refine at_iconst hO dX7_choose_98 99 rfl ?_
      refine at_goto hO dX7_choose_99 103 rfl ?_
      exact at_sub (fun ls h => lv_sub h [4, 5, 1, 0] rfl) (wB_X7_choose_103 hO s12 p1 (r1 * (min r5 r7)) ((r1 * (s8 10 6)) + r11) 1 p1 hf)

def S_X7_reckon_30 (rec8 : St → Int → Int → Int → Int → Option Rt) (rec30 : St → Int → Int → Int → Int → Int → Option Rt) (s : St) (v1 v2 v3 v4 v5 : Int) : Option Rt := chk (in32 v5) ((if 3 ≤ v5 then rec8 s v1 v2 v3 (v4 + (-1)) else cll (f_X7_choose s v5 v4 v2 v3) (fun _ s3 => rec30 s3 v1 v2 v3 v4 (v5 + 1))))
def L_X7_reckon_30 (rec8 : St → Int → Int → Int → Int → Option Rt) : Nat → St → Int → Int → Int → Int → Int → Option Rt
  | 0, _, _, _, _, _, _ => none
  | n + 1, s, v1, v2, v3, v4, v5 => S_X7_reckon_30 rec8 (L_X7_reckon_30 rec8 n) s v1 v2 v3 v4 v5
set_option maxRecDepth 100000 in
set_option maxHeartbeats 4000000 in
theorem wS_X7_reckon_30 {X : CX} {G : Ge} {Z : Rt} {rec8 : St → Int → Int → Int → Int → Option Rt} {rec30 : St → Int → Int → Int → Int → Int → Option Rt} (hO : rr_OK X G cX7_reckon 6 RX7 none 3 71) (hrec8 : ∀ (s : St) (v1 v2 v3 v4 : Int), rec8 s v1 v2 v3 v4 = some Z → rr_AT X G 6 0 Z 8 [(0, vr G 28), (1, vi v1), (2, vi v2), (3, vi v3), (4, vi v4)] [] s) (hrec30 : ∀ (s : St) (v1 v2 v3 v4 v5 : Int), rec30 s v1 v2 v3 v4 v5 = some Z → rr_AT X G 6 0 Z 30 [(0, vr G 28), (1, vi v1), (2, vi v2), (3, vi v3), (4, vi v4), (5, vi v5)] [] s) (s : St) (v1 v2 v3 v4 v5 : Int) (hf : S_X7_reckon_30 rec8 rec30 s v1 v2 v3 v4 v5 = some Z) : rr_AT X G 6 0 Z 30 [(0, vr G 28), (1, vi v1), (2, vi v2), (3, vi v3), (4, vi v4), (5, vi v5)] [] s := by
  unfold S_X7_reckon_30 at hf
  refine at_iload hO 5 rfl dX7_reckon_30 32 rfl ?_
  refine at_iconst hO dX7_reckon_32 33 rfl ?_
  obtain ⟨h1, hf⟩ := chk_some hf
  refine at_icmp_ge hO h1 (by decide) dX7_reckon_33 52 rfl 36 rfl hf (fun hf => ?_) (fun hf => ?_)
  · refine at_iinc hO (lv' := [(4, vi (v4 + (-1))), (0, vr G 28), (1, vi v1), (2, vi v2), (3, vi v3), (5, vi v5)]) 4 rfl (Nat.le_of_ble_eq_true rfl) rfl dX7_reckon_52 55 rfl ?_
    refine at_goto hO dX7_reckon_55 8 rfl ?_
    exact at_sub (fun ls h => lv_sub h [1, 2, 3, 4, 0] rfl) (hrec8 s v1 v2 v3 (v4 + (-1)) hf)
  · refine at_aload_n hO 0 rfl rfl dX7_reckon_36 37 rfl ?_
    refine at_iload hO 5 rfl dX7_reckon_37 39 rfl ?_
    refine at_iload hO 4 rfl dX7_reckon_39 41 rfl ?_
    refine at_iload_n hO 2 rfl rfl dX7_reckon_41 42 rfl ?_
    refine at_iload_n hO 3 rfl rfl dX7_reckon_42 43 rfl ?_
    refine at_callV0 (As := [vi v5, vi v4, vi v2, vi v3]) (st := []) hO (c_X7_choose _ G hO.g s v5 v4 v2 v3) mb_X7_choose mi_X7_choose lk_X7_44 rfl ⟨_, rfl, rfl⟩ rfl ⟨(Nat.le_of_ble_eq_true rfl), (Nat.le_of_ble_eq_true rfl)⟩ (Nat.le_of_ble_eq_true rfl) rfl dX7_reckon_43 46 rfl hf (fun r2 s3 hf => ?_)
    refine at_iinc hO (lv' := [(5, vi (v5 + 1)), (0, vr G 28), (1, vi v1), (2, vi v2), (3, vi v3), (4, vi v4)]) 5 rfl (Nat.le_of_ble_eq_true rfl) rfl dX7_reckon_46 49 rfl ?_
    refine at_goto hO dX7_reckon_49 30 rfl ?_
    exact at_sub (fun ls h => lv_sub h [1, 2, 3, 4, 5, 0] rfl) (hrec30 s3 v1 v2 v3 v4 (v5 + 1) hf)
theorem wL_X7_reckon_30 {X : CX} {G : Ge} {Z : Rt} {rec8 : St → Int → Int → Int → Int → Option Rt} (hO : rr_OK X G cX7_reckon 6 RX7 none 3 71) (hrec8 : ∀ (s : St) (v1 v2 v3 v4 : Int), rec8 s v1 v2 v3 v4 = some Z → rr_AT X G 6 0 Z 8 [(0, vr G 28), (1, vi v1), (2, vi v2), (3, vi v3), (4, vi v4)] [] s) : ∀ (n : Nat) (s : St) (v1 v2 v3 v4 v5 : Int), L_X7_reckon_30 rec8 n s v1 v2 v3 v4 v5 = some Z → rr_AT X G 6 0 Z 30 [(0, vr G 28), (1, vi v1), (2, vi v2), (3, vi v3), (4, vi v4), (5, vi v5)] [] s := by
  intro n
  induction n with
  | zero =>
    intro s v1 v2 v3 v4 v5 hf
    cases hf
  | succ n ih =>
    intro s v1 v2 v3 v4 v5 hf
    exact wS_X7_reckon_30 hO hrec8 ih s v1 v2 v3 v4 v5 hf
def S_X7_reckon_8 (rec8 : St → Int → Int → Int → Int → Option Rt) (s : St) (v1 v2 v3 v4 : Int) : Option Rt := chk (in32 v4) (chk (in32 v1) ((if v4 < v1 then some (0, s) else (if v4 < 0 then some (0, s) else cll (f_X7_fillNextCases s (v4 + 1)) (fun _ s4 => L_X7_reckon_30 rec8 FU s4 v1 v2 v3 v4 0)))))
def L_X7_reckon_8 : Nat → St → Int → Int → Int → Int → Option Rt
  | 0, _, _, _, _, _ => none
  | n + 1, s, v1, v2, v3, v4 => S_X7_reckon_8 (L_X7_reckon_8 n) s v1 v2 v3 v4
set_option maxRecDepth 100000 in
set_option maxHeartbeats 4000000 in
theorem wS_X7_reckon_8 {X : CX} {G : Ge} {Z : Rt} {rec8 : St → Int → Int → Int → Int → Option Rt} (hO : rr_OK X G cX7_reckon 6 RX7 none 3 71) (hrec8 : ∀ (s : St) (v1 v2 v3 v4 : Int), rec8 s v1 v2 v3 v4 = some Z → rr_AT X G 6 0 Z 8 [(0, vr G 28), (1, vi v1), (2, vi v2), (3, vi v3), (4, vi v4)] [] s) (s : St) (v1 v2 v3 v4 : Int) (hf : S_X7_reckon_8 rec8 s v1 v2 v3 v4 = some Z) : rr_AT X G 6 0 Z 8 [(0, vr G 28), (1, vi v1), (2, vi v2), (3, vi v3), (4, vi v4)] [] s := by
  unfold S_X7_reckon_8 at hf
  refine at_iload hO 4 rfl dX7_reckon_8 10 rfl ?_
  refine at_iload_n hO 1 rfl rfl dX7_reckon_10 11 rfl ?_
  obtain ⟨h1, hf⟩ := chk_some hf
  obtain ⟨h2, hf⟩ := chk_some hf
  refine at_icmp_lt hO h1 h2 dX7_reckon_11 58 rfl 14 rfl hf (fun hf => ?_) (fun hf => ?_)
  · exact at_return hO dX7_reckon_58 hf
  · refine at_iload hO 4 rfl dX7_reckon_14 16 rfl ?_
    refine at_if_lt hO h1 dX7_reckon_16 58 rfl 19 rfl hf (fun hf => ?_) (fun hf => ?_)
    · exact at_return hO dX7_reckon_58 hf
    · refine at_aload_n hO 0 rfl rfl dX7_reckon_19 20 rfl ?_
      refine at_iload hO 4 rfl dX7_reckon_20 22 rfl ?_
      refine at_iconst hO dX7_reckon_22 23 rfl ?_
      refine at_iadd hO dX7_reckon_23 24 rfl ?_
      refine at_callV0 (As := [vi (v4 + 1)]) (st := []) hO (c_X7_fillNextCases _ G hO.g s (v4 + 1)) mb_X7_fillNextCases mi_X7_fillNextCases lk_X7_40 rfl ⟨_, rfl, rfl⟩ rfl ⟨(Nat.le_of_ble_eq_true rfl), (Nat.le_of_ble_eq_true rfl)⟩ (Nat.le_of_ble_eq_true rfl) rfl dX7_reckon_24 27 rfl hf (fun r3 s4 hf => ?_)
      refine at_iconst hO dX7_reckon_27 28 rfl ?_
      refine at_istore hO (lv' := [(5, vi 0), (0, vr G 28), (1, vi v1), (2, vi v2), (3, vi v3), (4, vi v4)]) (Nat.le_of_ble_eq_true rfl) rfl dX7_reckon_28 30 rfl ?_
      exact at_sub (fun ls h => lv_sub h [1, 2, 3, 4, 5, 0] rfl) (wL_X7_reckon_30 hO hrec8 FU s4 v1 v2 v3 v4 0 hf)
theorem wL_X7_reckon_8 {X : CX} {G : Ge} {Z : Rt} (hO : rr_OK X G cX7_reckon 6 RX7 none 3 71) : ∀ (n : Nat) (s : St) (v1 v2 v3 v4 : Int), L_X7_reckon_8 n s v1 v2 v3 v4 = some Z → rr_AT X G 6 0 Z 8 [(0, vr G 28), (1, vi v1), (2, vi v2), (3, vi v3), (4, vi v4)] [] s := by
  intro n
  induction n with
  | zero =>
    intro s v1 v2 v3 v4 hf
    cases hf
  | succ n ih =>
    intro s v1 v2 v3 v4 hf
    exact wS_X7_reckon_8 hO ih s v1 v2 v3 v4 hf
def f_X7_reckon (s : St) (p1 p2 p3 : Int) : Option Rt := cll (f_X7_fillPartings s) (fun _ s2 => L_X7_reckon_8 FU s2 p1 p2 p3 29)
set_option maxRecDepth 100000 in
set_option maxHeartbeats 4000000 in
theorem c_X7_reckon (l : Launch) (G : Ge) (hG : rr_GD G) (s : St) (p1 p2 p3 : Int) : rr_Ct l G yX7_reckon cX7_reckon 6 none 3 71 0 [vr G 28, vi p1, vi p2, vi p3] s (f_X7_reckon s p1 p2 p3) := by
  refine rr_mk (lv := [(0, vr G 28), (1, vi p1), (2, vi p2), (3, vi p3)]) RX7 (by decide) rfl hG (Nat.le_of_ble_eq_true rfl) rfl ?_
  intro X Z hO hf
  unfold f_X7_reckon at hf
  refine at_aload_n hO 0 rfl rfl dX7_reckon_0 1 rfl ?_
  refine at_callV0 (As := []) (st := []) hO (c_X7_fillPartings _ G hO.g s ) mb_X7_fillPartings mi_X7_fillPartings lk_X7_37 rfl ⟨_, rfl, rfl⟩ rfl ⟨(Nat.le_of_ble_eq_true rfl), (Nat.le_of_ble_eq_true rfl)⟩ (Nat.le_of_ble_eq_true rfl) rfl dX7_reckon_1 4 rfl hf (fun r1 s2 hf => ?_)
  refine at_bipush hO (by decide) dX7_reckon_4 6 rfl ?_
  refine at_istore hO (lv' := [(4, vi 29), (0, vr G 28), (1, vi p1), (2, vi p2), (3, vi p3)]) (Nat.le_of_ble_eq_true rfl) rfl dX7_reckon_6 8 rfl ?_
  exact at_sub (fun ls h => lv_sub h [1, 2, 3, 4, 0] rfl) (wL_X7_reckon_8 hO FU s2 p1 p2 p3 29 hf)

def f_X7_weightedCost (s : St) (p1 : Int) : Option Rt := cll (f_X8_inside s p1 3) (fun r1 s2 => chk (in32 r1) ((if r1 = 0 then some (0, s2) else chk (ix p1 3) (some ((s2 33 p1.toNat), s2)))))
set_option maxRecDepth 100000 in
set_option maxHeartbeats 4000000 in
theorem c_X7_weightedCost (l : Launch) (G : Ge) (hG : rr_GD G) (s : St) (p1 : Int) : rr_Ct l G yX7_weightedCost cX7_weightedCost 2 (some .int) 1 21 1 [vr G 28, vi p1] s (f_X7_weightedCost s p1) := by
  refine rr_mk (lv := [(0, vr G 28), (1, vi p1)]) RX7 (by decide) rfl hG (Nat.le_of_ble_eq_true rfl) rfl ?_
  intro X Z hO hf
  unfold f_X7_weightedCost at hf
  refine at_iload_n hO 1 rfl rfl dX7_weightedCost_0 1 rfl ?_
  refine at_iconst hO dX7_weightedCost_1 2 rfl ?_
  refine at_callSN1 (As := [vi p1, vi 3]) (st := []) hO (c_X8_inside _ G hO.g s p1 3) mb_X8_inside ms_X8_inside lk_X7_48 rfl ⟨(Nat.le_of_ble_eq_true rfl), (Nat.le_of_ble_eq_true rfl)⟩ (Nat.le_of_ble_eq_true rfl) rfl dX7_weightedCost_2 5 rfl hf (fun r1 s2 hf => ?_)
  obtain ⟨h3, hf⟩ := chk_some hf
  refine at_if_eq hO h3 dX7_weightedCost_5 17 rfl 8 rfl hf (fun hf => ?_) (fun hf => ?_)
  · refine at_iconst hO dX7_weightedCost_17 18 rfl ?_
    exact at_ireturn hO dX7_weightedCost_18 hf
  · refine at_aload_n hO 0 rfl rfl dX7_weightedCost_8 9 rfl ?_
    refine at_getR hO fl_X7_16 rfl rfl dX7_weightedCost_9 12 rfl ?_
    refine at_iload_n hO 1 rfl rfl dX7_weightedCost_12 13 rfl ?_
    obtain ⟨h4, hf⟩ := chk_some hf
    refine at_iaload hO rfl (Nat.le_of_ble_eq_true rfl) h4 (p1.toNat) rfl dX7_weightedCost_13 14 rfl ?_
    refine at_goto hO dX7_weightedCost_14 18 rfl ?_
    exact at_ireturn hO dX7_weightedCost_18 hf

def f_X7_isBestAtOnce (s : St) (p1 : Int) : Option Rt := cll (f_X8_inside s p1 3) (fun r1 s2 => chk (in32 r1) ((if r1 = 0 then some (0, s2) else chk (ix p1 3) (chk (in32 (s2 35 p1.toNat)) ((if (s2 35 p1.toNat) = 0 then some (0, s2) else some (1, s2)))))))
set_option maxRecDepth 100000 in
set_option maxHeartbeats 4000000 in
theorem c_X7_isBestAtOnce (l : Launch) (G : Ge) (hG : rr_GD G) (s : St) (p1 : Int) : rr_Ct l G yX7_isBestAtOnce cX7_isBestAtOnce 2 (some .boolean) 1 21 1 [vr G 28, vi p1] s (f_X7_isBestAtOnce s p1) := by
  refine rr_mk (lv := [(0, vr G 28), (1, vi p1)]) RX7 (by decide) rfl hG (Nat.le_of_ble_eq_true rfl) rfl ?_
  intro X Z hO hf
  unfold f_X7_isBestAtOnce at hf
  refine at_iload_n hO 1 rfl rfl dX7_isBestAtOnce_0 1 rfl ?_
  refine at_iconst hO dX7_isBestAtOnce_1 2 rfl ?_
  refine at_callSN1 (As := [vi p1, vi 3]) (st := []) hO (c_X8_inside _ G hO.g s p1 3) mb_X8_inside ms_X8_inside lk_X7_48 rfl ⟨(Nat.le_of_ble_eq_true rfl), (Nat.le_of_ble_eq_true rfl)⟩ (Nat.le_of_ble_eq_true rfl) rfl dX7_isBestAtOnce_2 5 rfl hf (fun r1 s2 hf => ?_)
  obtain ⟨h3, hf⟩ := chk_some hf
  refine at_if_eq hO h3 dX7_isBestAtOnce_5 21 rfl 8 rfl hf (fun hf => ?_) (fun hf => ?_)
  · refine at_iconst hO dX7_isBestAtOnce_21 22 rfl ?_
    exact at_zreturn hO (Or.inl rfl) dX7_isBestAtOnce_22 hf
  · refine at_aload_n hO 0 rfl rfl dX7_isBestAtOnce_8 9 rfl ?_
    refine at_getR hO fl_X7_23 rfl rfl dX7_isBestAtOnce_9 12 rfl ?_
    refine at_iload_n hO 1 rfl rfl dX7_isBestAtOnce_12 13 rfl ?_
    obtain ⟨h4, hf⟩ := chk_some hf
    refine at_zaload hO rfl (Nat.le_of_ble_eq_true rfl) h4 (p1.toNat) rfl dX7_isBestAtOnce_13 14 rfl ?_
    obtain ⟨h5, hf⟩ := chk_some hf
    refine at_if_eq hO h5 dX7_isBestAtOnce_14 21 rfl 17 rfl hf (fun hf => ?_) (fun hf => ?_)
    · refine at_iconst hO dX7_isBestAtOnce_21 22 rfl ?_
      exact at_zreturn hO (Or.inl rfl) dX7_isBestAtOnce_22 hf
    · refine at_iconst hO dX7_isBestAtOnce_17 18 rfl ?_
      refine at_goto hO dX7_isBestAtOnce_18 22 rfl ?_
      exact at_zreturn hO (Or.inr rfl) dX7_isBestAtOnce_22 hf

def f_X7_weightOf (s : St) (p1 p2 : Int) : Option Rt := cll (f_X8_inside s p1 3) (fun r1 s2 => chk (in32 r1) ((if r1 = 0 then some (0, s2) else cll (f_X7_sumOfAlike 11 s2 p1 p2) (fun r4 s5 => some (r4, s5)))))
set_option maxRecDepth 100000 in
set_option maxHeartbeats 4000000 in
theorem c_X7_weightOf (l : Launch) (G : Ge) (hG : rr_GD G) (s : St) (p1 p2 : Int) : rr_Ct l G yX7_weightOf cX7_weightOf 3 (some .int) 1 25 1 [vr G 28, vi p1, vi p2] s (f_X7_weightOf s p1 p2) := by
  refine rr_mk (lv := [(0, vr G 28), (1, vi p1), (2, vi p2)]) RX7 (by decide) rfl hG (Nat.le_of_ble_eq_true rfl) rfl ?_
  intro X Z hO hf
  unfold f_X7_weightOf at hf
  refine at_iload_n hO 1 rfl rfl dX7_weightOf_0 1 rfl ?_
  refine at_iconst hO dX7_weightOf_1 2 rfl ?_
  refine at_callSN1 (As := [vi p1, vi 3]) (st := []) hO (c_X8_inside _ G hO.g s p1 3) mb_X8_inside ms_X8_inside lk_X7_48 rfl ⟨(Nat.le_of_ble_eq_true rfl), (Nat.le_of_ble_eq_true rfl)⟩ (Nat.le_of_ble_eq_true rfl) rfl dX7_weightOf_2 5 rfl hf (fun r1 s2 hf => ?_)
  obtain ⟨h3, hf⟩ := chk_some hf
  refine at_if_eq hO h3 dX7_weightOf_5 21 rfl 8 rfl hf (fun hf => ?_) (fun hf => ?_)
  · refine at_iconst hO dX7_weightOf_21 22 rfl ?_
    exact at_ireturn hO dX7_weightOf_22 hf
  · refine at_aload_n hO 0 rfl rfl dX7_weightOf_8 9 rfl ?_
    refine at_aload_n hO 0 rfl rfl dX7_weightOf_9 10 rfl ?_
    refine at_getR hO fl_X7_34 rfl rfl dX7_weightOf_10 13 rfl ?_
    refine at_iload_n hO 1 rfl rfl dX7_weightOf_13 14 rfl ?_
    refine at_iload_n hO 2 rfl rfl dX7_weightOf_14 15 rfl ?_
    refine at_callV1 (As := [vr G 11, vi p1, vi p2]) (st := []) hO (c_X7_sumOfAlike _ G hO.g 11 rfl s2 p1 p2) mb_X7_sumOfAlike mi_X7_sumOfAlike lk_X7_52 rfl ⟨_, rfl, rfl⟩ rfl ⟨(Nat.le_of_ble_eq_true rfl), (Nat.le_of_ble_eq_true rfl)⟩ (Nat.le_of_ble_eq_true rfl) rfl dX7_weightOf_15 18 rfl hf (fun r4 s5 hf => ?_)
    refine at_goto hO dX7_weightOf_18 22 rfl ?_
    exact at_ireturn hO dX7_weightOf_22 hf

def f_X8_type (s : St) (p1 p2 : Int) : Option Rt := cll (f_X8_inside s p1 4) (fun r1 s2 => chk (in32 r1) ((if r1 = 0 then some ((-2), s2) else cll (f_X8_inside s2 p2 256) (fun r4 s5 => chk (in32 r4) ((if r4 = 0 then some ((-2), s5) else chk (ix p1 4) (cll (f_X5_isFull p1.toNat s5) (fun r8 s9 => chk (in32 r8) ((if r8 = 0 then cll (f_X5_append p1.toNat s9 p2) (fun _ s12 => cll (f_X6_change s12) (fun _ s14 => some ((s14 (2 + p1.toNat) 1), s14))) else some ((-4), s9)))))))))))
set_option maxRecDepth 100000 in
set_option maxHeartbeats 4000000 in
theorem c_X8_type (l : Launch) (G : Ge) (hG : rr_GD G) (s : St) (p1 p2 : Int) : rr_Ct l G yX8_type cX8_type 3 (some .int) 2 42 1 [vr G 0, vi p1, vi p2] s (f_X8_type s p1 p2) := by
  refine rr_mk (lv := [(0, vr G 0), (1, vi p1), (2, vi p2)]) RX8 (by decide) rfl hG (Nat.le_of_ble_eq_true rfl) rfl ?_
  intro X Z hO hf
  unfold f_X8_type at hf
  refine at_iload_n hO 1 rfl rfl dX8_type_0 1 rfl ?_
  refine at_iconst hO dX8_type_1 2 rfl ?_
  refine at_callS1 (As := [vi p1, vi 4]) (st := []) hO (c_X8_inside _ G hO.g s p1 4) mb_X8_inside ms_X8_inside lk_X8_89 rfl ⟨(Nat.le_of_ble_eq_true rfl), (Nat.le_of_ble_eq_true rfl)⟩ (Nat.le_of_ble_eq_true rfl) rfl dX8_type_2 5 rfl hf (fun r1 s2 hf => ?_)
  obtain ⟨h3, hf⟩ := chk_some hf
  refine at_if_eq hO h3 dX8_type_5 18 rfl 8 rfl hf (fun hf => ?_) (fun hf => ?_)
  · refine at_bipush hO (by decide) dX8_type_18 20 rfl ?_
    exact at_ireturn hO dX8_type_20 hf
  · refine at_iload_n hO 2 rfl rfl dX8_type_8 9 rfl ?_
    refine at_sipush hO (by decide) dX8_type_9 12 rfl ?_
    refine at_callS1 (As := [vi p2, vi 256]) (st := []) hO (c_X8_inside _ G hO.g s2 p2 256) mb_X8_inside ms_X8_inside lk_X8_89 rfl ⟨(Nat.le_of_ble_eq_true rfl), (Nat.le_of_ble_eq_true rfl)⟩ (Nat.le_of_ble_eq_true rfl) rfl dX8_type_12 15 rfl hf (fun r4 s5 hf => ?_)
    obtain ⟨h6, hf⟩ := chk_some hf
    refine at_if_ne hO h6 dX8_type_15 21 rfl 18 rfl hf (fun hf => ?_) (fun hf => ?_)
    · refine at_aload_n hO 0 rfl rfl dX8_type_21 22 rfl ?_
      refine at_getR hO fl_X8_11 rfl rfl dX8_type_22 25 rfl ?_
      refine at_iload_n hO 1 rfl rfl dX8_type_25 26 rfl ?_
      obtain ⟨h7, hf⟩ := chk_some hf
      refine at_aaload3 hO rfl (Nat.le_of_ble_eq_true rfl) h7 (2 + p1.toNat) rfl dX8_type_26 27 rfl ?_
      refine at_callV1 (As := []) (st := []) hO (c_X5_isFull _ G hO.g p1.toNat (ix_nat h7) s5 ) mb_X5_isFull mi_X5_isFull lk_X8_93 (tb_text (ix_nat h7)) ⟨_, rfl, rfl⟩ rfl ⟨(Nat.le_of_ble_eq_true rfl), (Nat.le_of_ble_eq_true rfl)⟩ (Nat.le_of_ble_eq_true rfl) rfl dX8_type_27 30 rfl hf (fun r8 s9 hf => ?_)
      obtain ⟨h10, hf⟩ := chk_some hf
      refine at_if_eq hO h10 dX8_type_30 36 rfl 33 rfl hf (fun hf => ?_) (fun hf => ?_)
      · refine at_aload_n hO 0 rfl rfl dX8_type_36 37 rfl ?_
        refine at_getR hO fl_X8_11 rfl rfl dX8_type_37 40 rfl ?_
        refine at_iload_n hO 1 rfl rfl dX8_type_40 41 rfl ?_
        refine at_aaload3 hO rfl (Nat.le_of_ble_eq_true rfl) h7 (2 + p1.toNat) rfl dX8_type_41 42 rfl ?_
        refine at_iload_n hO 2 rfl rfl dX8_type_42 43 rfl ?_
        refine at_callV0 (As := [vi p2]) (st := []) hO (c_X5_append _ G hO.g p1.toNat (ix_nat h7) s9 p2) mb_X5_append mi_X5_append lk_X8_97 (tb_text (ix_nat h7)) ⟨_, rfl, rfl⟩ rfl ⟨(Nat.le_of_ble_eq_true rfl), (Nat.le_of_ble_eq_true rfl)⟩ (Nat.le_of_ble_eq_true rfl) rfl dX8_type_43 46 rfl hf (fun r11 s12 hf => ?_)
        refine at_aload_n hO 0 rfl rfl dX8_type_46 47 rfl ?_
        refine at_getR hO fl_X8_34 rfl rfl dX8_type_47 50 rfl ?_
        refine at_callV0 (As := []) (st := []) hO (c_X6_change _ G hO.g s12 ) mb_X6_change mi_X6_change lk_X8_100 rfl ⟨_, rfl, rfl⟩ rfl ⟨(Nat.le_of_ble_eq_true rfl), (Nat.le_of_ble_eq_true rfl)⟩ (Nat.le_of_ble_eq_true rfl) rfl dX8_type_50 53 rfl hf (fun r13 s14 hf => ?_)
        refine at_aload_n hO 0 rfl rfl dX8_type_53 54 rfl ?_
        refine at_getR hO fl_X8_11 rfl rfl dX8_type_54 57 rfl ?_
        refine at_iload_n hO 1 rfl rfl dX8_type_57 58 rfl ?_
        refine at_aaload3 hO rfl (Nat.le_of_ble_eq_true rfl) h7 (2 + p1.toNat) rfl dX8_type_58 59 rfl ?_
        refine at_getIN hO fl_X8_103 (tb_text (ix_nat h7)) rfl dX8_type_59 62 rfl ?_
        exact at_ireturn hO dX8_type_62 hf
      · refine at_bipush hO (by decide) dX8_type_33 35 rfl ?_
        exact at_ireturn hO dX8_type_35 hf
    · refine at_bipush hO (by decide) dX8_type_18 20 rfl ?_
      exact at_ireturn hO dX8_type_20 hf

def f_X8_undo (s : St) (p1 : Int) : Option Rt := cll (f_X8_inside s p1 4) (fun r1 s2 => chk (in32 r1) ((if r1 = 0 then some ((-2), s2) else chk (ix p1 4) (chk (in32 (s2 (2 + p1.toNat) 1)) ((if (s2 (2 + p1.toNat) 1) = 0 then some ((-3), s2) else cll (f_X5_dropLast p1.toNat s2) (fun _ s7 => cll (f_X6_change s7) (fun _ s9 => some ((s9 (2 + p1.toNat) 1), s9)))))))))
set_option maxRecDepth 100000 in
set_option maxHeartbeats 4000000 in
theorem c_X8_undo (l : Launch) (G : Ge) (hG : rr_GD G) (s : St) (p1 : Int) : rr_Ct l G yX8_undo cX8_undo 2 (some .int) 2 41 1 [vr G 0, vi p1] s (f_X8_undo s p1) := by
  refine rr_mk (lv := [(0, vr G 0), (1, vi p1)]) RX8 (by decide) rfl hG (Nat.le_of_ble_eq_true rfl) rfl ?_
  intro X Z hO hf
  unfold f_X8_undo at hf
  refine at_iload_n hO 1 rfl rfl dX8_undo_0 1 rfl ?_
  refine at_iconst hO dX8_undo_1 2 rfl ?_
  refine at_callS1 (As := [vi p1, vi 4]) (st := []) hO (c_X8_inside _ G hO.g s p1 4) mb_X8_inside ms_X8_inside lk_X8_89 rfl ⟨(Nat.le_of_ble_eq_true rfl), (Nat.le_of_ble_eq_true rfl)⟩ (Nat.le_of_ble_eq_true rfl) rfl dX8_undo_2 5 rfl hf (fun r1 s2 hf => ?_)
  obtain ⟨h3, hf⟩ := chk_some hf
  refine at_if_ne hO h3 dX8_undo_5 11 rfl 8 rfl hf (fun hf => ?_) (fun hf => ?_)
  · refine at_aload_n hO 0 rfl rfl dX8_undo_11 12 rfl ?_
    refine at_getR hO fl_X8_11 rfl rfl dX8_undo_12 15 rfl ?_
    refine at_iload_n hO 1 rfl rfl dX8_undo_15 16 rfl ?_
    obtain ⟨h4, hf⟩ := chk_some hf
    refine at_aaload3 hO rfl (Nat.le_of_ble_eq_true rfl) h4 (2 + p1.toNat) rfl dX8_undo_16 17 rfl ?_
    refine at_getIN hO fl_X8_103 (tb_text (ix_nat h4)) rfl dX8_undo_17 20 rfl ?_
    obtain ⟨h5, hf⟩ := chk_some hf
    refine at_if_ne hO h5 dX8_undo_20 26 rfl 23 rfl hf (fun hf => ?_) (fun hf => ?_)
    · refine at_aload_n hO 0 rfl rfl dX8_undo_26 27 rfl ?_
      refine at_getR hO fl_X8_11 rfl rfl dX8_undo_27 30 rfl ?_
      refine at_iload_n hO 1 rfl rfl dX8_undo_30 31 rfl ?_
      refine at_aaload3 hO rfl (Nat.le_of_ble_eq_true rfl) h4 (2 + p1.toNat) rfl dX8_undo_31 32 rfl ?_
      refine at_callV0 (As := []) (st := []) hO (c_X5_dropLast _ G hO.g p1.toNat (ix_nat h4) s2 ) mb_X5_dropLast mi_X5_dropLast lk_X8_106 (tb_text (ix_nat h4)) ⟨_, rfl, rfl⟩ rfl ⟨(Nat.le_of_ble_eq_true rfl), (Nat.le_of_ble_eq_true rfl)⟩ (Nat.le_of_ble_eq_true rfl) rfl dX8_undo_32 35 rfl hf (fun r6 s7 hf => ?_)
      refine at_aload_n hO 0 rfl rfl dX8_undo_35 36 rfl ?_
      refine at_getR hO fl_X8_34 rfl rfl dX8_undo_36 39 rfl ?_
      refine at_callV0 (As := []) (st := []) hO (c_X6_change _ G hO.g s7 ) mb_X6_change mi_X6_change lk_X8_100 rfl ⟨_, rfl, rfl⟩ rfl ⟨(Nat.le_of_ble_eq_true rfl), (Nat.le_of_ble_eq_true rfl)⟩ (Nat.le_of_ble_eq_true rfl) rfl dX8_undo_39 42 rfl hf (fun r8 s9 hf => ?_)
      refine at_aload_n hO 0 rfl rfl dX8_undo_42 43 rfl ?_
      refine at_getR hO fl_X8_11 rfl rfl dX8_undo_43 46 rfl ?_
      refine at_iload_n hO 1 rfl rfl dX8_undo_46 47 rfl ?_
      refine at_aaload3 hO rfl (Nat.le_of_ble_eq_true rfl) h4 (2 + p1.toNat) rfl dX8_undo_47 48 rfl ?_
      refine at_getIN hO fl_X8_103 (tb_text (ix_nat h4)) rfl dX8_undo_48 51 rfl ?_
      exact at_ireturn hO dX8_undo_51 hf
    · refine at_bipush hO (by decide) dX8_undo_23 25 rfl ?_
      exact at_ireturn hO dX8_undo_25 hf
  · refine at_bipush hO (by decide) dX8_undo_8 10 rfl ?_
    exact at_ireturn hO dX8_undo_10 hf

def f_X8_wipe (s : St) (p1 : Int) : Option Rt := cll (f_X8_inside s p1 4) (fun r1 s2 => chk (in32 r1) ((if r1 = 0 then some ((-2), s2) else chk (ix p1 4) (cll (f_X5_clear p1.toNat s2) (fun _ s6 => cll (f_X6_change s6) (fun _ s8 => some ((s2 (2 + p1.toNat) 1), s8)))))))
set_option maxRecDepth 100000 in
set_option maxHeartbeats 4000000 in
theorem c_X8_wipe (l : Launch) (G : Ge) (hG : rr_GD G) (s : St) (p1 : Int) : rr_Ct l G yX8_wipe cX8_wipe 3 (some .int) 1 21 1 [vr G 0, vi p1] s (f_X8_wipe s p1) := by
  refine rr_mk (lv := [(0, vr G 0), (1, vi p1)]) RX8 (by decide) rfl hG (Nat.le_of_ble_eq_true rfl) rfl ?_
  intro X Z hO hf
  unfold f_X8_wipe at hf
  refine at_iload_n hO 1 rfl rfl dX8_wipe_0 1 rfl ?_
  refine at_iconst hO dX8_wipe_1 2 rfl ?_
  refine at_callS1 (As := [vi p1, vi 4]) (st := []) hO (c_X8_inside _ G hO.g s p1 4) mb_X8_inside ms_X8_inside lk_X8_89 rfl ⟨(Nat.le_of_ble_eq_true rfl), (Nat.le_of_ble_eq_true rfl)⟩ (Nat.le_of_ble_eq_true rfl) rfl dX8_wipe_2 5 rfl hf (fun r1 s2 hf => ?_)
  obtain ⟨h3, hf⟩ := chk_some hf
  refine at_if_ne hO h3 dX8_wipe_5 11 rfl 8 rfl hf (fun hf => ?_) (fun hf => ?_)
  · refine at_aload_n hO 0 rfl rfl dX8_wipe_11 12 rfl ?_
    refine at_getR hO fl_X8_11 rfl rfl dX8_wipe_12 15 rfl ?_
    refine at_iload_n hO 1 rfl rfl dX8_wipe_15 16 rfl ?_
    obtain ⟨h4, hf⟩ := chk_some hf
    refine at_aaload3 hO rfl (Nat.le_of_ble_eq_true rfl) h4 (2 + p1.toNat) rfl dX8_wipe_16 17 rfl ?_
    refine at_getIN hO fl_X8_103 (tb_text (ix_nat h4)) rfl dX8_wipe_17 20 rfl ?_
    refine at_istore_n hO (lv' := [(2, vi (s2 (2 + p1.toNat) 1)), (0, vr G 0), (1, vi p1)]) rfl (Nat.le_of_ble_eq_true rfl) rfl dX8_wipe_20 21 rfl ?_
    refine at_aload_n hO 1 rfl rfl dX8_wipe_21 22 rfl ?_
    refine at_getR hO fl_X8_11 rfl rfl dX8_wipe_22 25 rfl ?_
    refine at_iload_n hO 2 rfl rfl dX8_wipe_25 26 rfl ?_
    refine at_aaload3 hO rfl (Nat.le_of_ble_eq_true rfl) h4 (2 + p1.toNat) rfl dX8_wipe_26 27 rfl ?_
    refine at_callV0 (As := []) (st := []) hO (c_X5_clear _ G hO.g p1.toNat (ix_nat h4) s2 ) mb_X5_clear mi_X5_clear lk_X8_109 (tb_text (ix_nat h4)) ⟨_, rfl, rfl⟩ rfl ⟨(Nat.le_of_ble_eq_true rfl), (Nat.le_of_ble_eq_true rfl)⟩ (Nat.le_of_ble_eq_true rfl) rfl dX8_wipe_27 30 rfl hf (fun r5 s6 hf => ?_)
    refine at_aload_n hO 1 rfl rfl dX8_wipe_30 31 rfl ?_
    refine at_getR hO fl_X8_34 rfl rfl dX8_wipe_31 34 rfl ?_
    refine at_callV0 (As := []) (st := []) hO (c_X6_change _ G hO.g s6 ) mb_X6_change mi_X6_change lk_X8_100 rfl ⟨_, rfl, rfl⟩ rfl ⟨(Nat.le_of_ble_eq_true rfl), (Nat.le_of_ble_eq_true rfl)⟩ (Nat.le_of_ble_eq_true rfl) rfl dX8_wipe_34 37 rfl hf (fun r7 s8 hf => ?_)
    refine at_iload_n hO 0 rfl rfl dX8_wipe_37 38 rfl ?_
    exact at_ireturn hO dX8_wipe_38 hf
  · refine at_bipush hO (by decide) dX8_wipe_8 10 rfl ?_
    exact at_ireturn hO dX8_wipe_10 hf

def f_X8_fault (s : St) (p1 : Int) : Option Rt := cll (f_X8_inside s p1 4) (fun r1 s2 => chk (in32 r1) ((if r1 = 0 then some ((-2), s2) else chk (ix p1 4) (cll (f_X5_firstFault p1.toNat s2) (fun r5 s6 => some (r5, s6))))))
set_option maxRecDepth 100000 in
set_option maxHeartbeats 4000000 in
theorem c_X8_fault (l : Launch) (G : Ge) (hG : rr_GD G) (s : St) (p1 : Int) : rr_Ct l G yX8_fault cX8_fault 2 (some .int) 1 21 1 [vr G 0, vi p1] s (f_X8_fault s p1) := by
  refine rr_mk (lv := [(0, vr G 0), (1, vi p1)]) RX8 (by decide) rfl hG (Nat.le_of_ble_eq_true rfl) rfl ?_
  intro X Z hO hf
  unfold f_X8_fault at hf
  refine at_iload_n hO 1 rfl rfl dX8_fault_0 1 rfl ?_
  refine at_iconst hO dX8_fault_1 2 rfl ?_
  refine at_callS1 (As := [vi p1, vi 4]) (st := []) hO (c_X8_inside _ G hO.g s p1 4) mb_X8_inside ms_X8_inside lk_X8_89 rfl ⟨(Nat.le_of_ble_eq_true rfl), (Nat.le_of_ble_eq_true rfl)⟩ (Nat.le_of_ble_eq_true rfl) rfl dX8_fault_2 5 rfl hf (fun r1 s2 hf => ?_)
  obtain ⟨h3, hf⟩ := chk_some hf
  refine at_if_eq hO h3 dX8_fault_5 20 rfl 8 rfl hf (fun hf => ?_) (fun hf => ?_)
  · refine at_bipush hO (by decide) dX8_fault_20 22 rfl ?_
    exact at_ireturn hO dX8_fault_22 hf
  · refine at_aload_n hO 0 rfl rfl dX8_fault_8 9 rfl ?_
    refine at_getR hO fl_X8_11 rfl rfl dX8_fault_9 12 rfl ?_
    refine at_iload_n hO 1 rfl rfl dX8_fault_12 13 rfl ?_
    obtain ⟨h4, hf⟩ := chk_some hf
    refine at_aaload3 hO rfl (Nat.le_of_ble_eq_true rfl) h4 (2 + p1.toNat) rfl dX8_fault_13 14 rfl ?_
    refine at_callV1 (As := []) (st := []) hO (c_X5_firstFault _ G hO.g p1.toNat (ix_nat h4) s2 ) mb_X5_firstFault mi_X5_firstFault lk_X8_112 (tb_text (ix_nat h4)) ⟨_, rfl, rfl⟩ rfl ⟨(Nat.le_of_ble_eq_true rfl), (Nat.le_of_ble_eq_true rfl)⟩ (Nat.le_of_ble_eq_true rfl) rfl dX8_fault_14 17 rfl hf (fun r5 s6 hf => ?_)
    refine at_goto hO dX8_fault_17 22 rfl ?_
    exact at_ireturn hO dX8_fault_22 hf

def f_X8_isYard (s : St) (p1 : Int) : Option Rt := cll (f_X5_told 3 s) (fun r1 s2 => cll (f_X8_inside s2 p1 r1) (fun r3 s4 => chk (r3 = 0 ∨ r3 = 1) (some (r3, s4))))
set_option maxRecDepth 100000 in
set_option maxHeartbeats 4000000 in
theorem c_X8_isYard (l : Launch) (G : Ge) (hG : rr_GD G) (s : St) (p1 : Int) : rr_Ct l G yX8_isYard cX8_isYard 2 (some .boolean) 2 41 1 [vr G 0, vi p1] s (f_X8_isYard s p1) := by
  refine rr_mk (lv := [(0, vr G 0), (1, vi p1)]) RX8 (by decide) rfl hG (Nat.le_of_ble_eq_true rfl) rfl ?_
  intro X Z hO hf
  unfold f_X8_isYard at hf
  refine at_iload_n hO 1 rfl rfl dX8_isYard_0 1 rfl ?_
  refine at_aload_n hO 0 rfl rfl dX8_isYard_1 2 rfl ?_
  refine at_getR hO fl_X8_11 rfl rfl dX8_isYard_2 5 rfl ?_
  refine at_iconst hO dX8_isYard_5 6 rfl ?_
  refine at_aaload3 hO rfl (Nat.le_of_ble_eq_true rfl) (by decide) 5 rfl dX8_isYard_6 7 rfl ?_
  refine at_callV1 (As := []) (st := [vi p1]) hO (c_X5_told _ G hO.g 3 (by decide) s ) mb_X5_told mi_X5_told lk_X8_262 rfl ⟨_, rfl, rfl⟩ rfl ⟨(Nat.le_of_ble_eq_true rfl), (Nat.le_of_ble_eq_true rfl)⟩ (Nat.le_of_ble_eq_true rfl) rfl dX8_isYard_7 10 rfl hf (fun r1 s2 hf => ?_)
  refine at_callS1 (As := [vi p1, vi r1]) (st := []) hO (c_X8_inside _ G hO.g s2 p1 r1) mb_X8_inside ms_X8_inside lk_X8_89 rfl ⟨(Nat.le_of_ble_eq_true rfl), (Nat.le_of_ble_eq_true rfl)⟩ (Nat.le_of_ble_eq_true rfl) rfl dX8_isYard_10 13 rfl hf (fun r3 s4 hf => ?_)
  obtain ⟨h5, hf⟩ := chk_some hf
  exact at_zreturn hO h5 dX8_isYard_13 hf

def f_X8_height (s : St) (p1 : Int) : Option Rt := cll (f_X8_isYard s p1) (fun r1 s2 => chk (in32 r1) ((if r1 = 0 then some ((-2), s2) else cll (f_X5_figure 3 s2 p1) (fun r4 s5 => some (r4, s5)))))
set_option maxRecDepth 100000 in
set_option maxHeartbeats 4000000 in
theorem c_X8_height (l : Launch) (G : Ge) (hG : rr_GD G) (s : St) (p1 : Int) : rr_Ct l G yX8_height cX8_height 2 (some .int) 3 62 1 [vr G 0, vi p1] s (f_X8_height s p1) := by
  refine rr_mk (lv := [(0, vr G 0), (1, vi p1)]) RX8 (by decide) rfl hG (Nat.le_of_ble_eq_true rfl) rfl ?_
  intro X Z hO hf
  unfold f_X8_height at hf
  refine at_aload_n hO 0 rfl rfl dX8_height_0 1 rfl ?_
  refine at_iload_n hO 1 rfl rfl dX8_height_1 2 rfl ?_
  refine at_callV1 (As := [vi p1]) (st := []) hO (c_X8_isYard _ G hO.g s p1) mb_X8_isYard mi_X8_isYard lk_X8_116 rfl ⟨_, rfl, rfl⟩ rfl ⟨(Nat.le_of_ble_eq_true rfl), (Nat.le_of_ble_eq_true rfl)⟩ (Nat.le_of_ble_eq_true rfl) rfl dX8_height_2 5 rfl hf (fun r1 s2 hf => ?_)
  obtain ⟨h3, hf⟩ := chk_some hf
  refine at_if_eq hO h3 dX8_height_5 21 rfl 8 rfl hf (fun hf => ?_) (fun hf => ?_)
  · refine at_bipush hO (by decide) dX8_height_21 23 rfl ?_
    exact at_ireturn hO dX8_height_23 hf
  · refine at_aload_n hO 0 rfl rfl dX8_height_8 9 rfl ?_
    refine at_getR hO fl_X8_11 rfl rfl dX8_height_9 12 rfl ?_
    refine at_iconst hO dX8_height_12 13 rfl ?_
    refine at_aaload3 hO rfl (Nat.le_of_ble_eq_true rfl) (by decide) 5 rfl dX8_height_13 14 rfl ?_
    refine at_iload_n hO 1 rfl rfl dX8_height_14 15 rfl ?_
    refine at_callV1 (As := [vi p1]) (st := []) hO (c_X5_figure _ G hO.g 3 (by decide) s2 p1) mb_X5_figure mi_X5_figure lk_X8_120 rfl ⟨_, rfl, rfl⟩ rfl ⟨(Nat.le_of_ble_eq_true rfl), (Nat.le_of_ble_eq_true rfl)⟩ (Nat.le_of_ble_eq_true rfl) rfl dX8_height_15 18 rfl hf (fun r4 s5 hf => ?_)
    refine at_goto hO dX8_height_18 23 rfl ?_
    exact at_ireturn hO dX8_height_23 hf

def f_X8_level (s : St) (p1 p2 : Int) : Option Rt := cll (f_X8_isSpringDay s p1 p2) (fun r1 s2 => chk (in32 r1) ((if r1 = 0 then some ((-2), s2) else cll (f_X6_refresh s2) (fun _ s5 => cll (f_X6_levelOn s5 p1 p2) (fun r6 s7 => some (r6, s7))))))
set_option maxRecDepth 100000 in
set_option maxHeartbeats 4000000 in
theorem c_X8_level (l : Launch) (G : Ge) (hG : rr_GD G) (s : St) (p1 p2 : Int) : rr_Ct l G yX8_level cX8_level 3 (some .int) 4 87 1 [vr G 0, vi p1, vi p2] s (f_X8_level s p1 p2) := by
  refine rr_mk (lv := [(0, vr G 0), (1, vi p1), (2, vi p2)]) RX8 (by decide) rfl hG (Nat.le_of_ble_eq_true rfl) rfl ?_
  intro X Z hO hf
  unfold f_X8_level at hf
  refine at_iload_n hO 1 rfl rfl dX8_level_0 1 rfl ?_
  refine at_iload_n hO 2 rfl rfl dX8_level_1 2 rfl ?_
  refine at_callS1 (As := [vi p1, vi p2]) (st := []) hO (c_X8_isSpringDay _ G hO.g s p1 p2) mb_X8_isSpringDay ms_X8_isSpringDay lk_X8_124 rfl ⟨(Nat.le_of_ble_eq_true rfl), (Nat.le_of_ble_eq_true rfl)⟩ (Nat.le_of_ble_eq_true rfl) rfl dX8_level_2 5 rfl hf (fun r1 s2 hf => ?_)
  obtain ⟨h3, hf⟩ := chk_some hf
  refine at_if_ne hO h3 dX8_level_5 11 rfl 8 rfl hf (fun hf => ?_) (fun hf => ?_)
  · refine at_aload_n hO 0 rfl rfl dX8_level_11 12 rfl ?_
    refine at_getR hO fl_X8_34 rfl rfl dX8_level_12 15 rfl ?_
    refine at_callV0 (As := []) (st := []) hO (c_X6_refresh _ G hO.g s2 ) mb_X6_refresh mi_X6_refresh lk_X8_127 rfl ⟨_, rfl, rfl⟩ rfl ⟨(Nat.le_of_ble_eq_true rfl), (Nat.le_of_ble_eq_true rfl)⟩ (Nat.le_of_ble_eq_true rfl) rfl dX8_level_15 18 rfl hf (fun r4 s5 hf => ?_)
    refine at_aload_n hO 0 rfl rfl dX8_level_18 19 rfl ?_
    refine at_getR hO fl_X8_34 rfl rfl dX8_level_19 22 rfl ?_
    refine at_iload_n hO 1 rfl rfl dX8_level_22 23 rfl ?_
    refine at_iload_n hO 2 rfl rfl dX8_level_23 24 rfl ?_
    refine at_callV1 (As := [vi p1, vi p2]) (st := []) hO (c_X6_levelOn _ G hO.g s5 p1 p2) mb_X6_levelOn mi_X6_levelOn lk_X8_130 rfl ⟨_, rfl, rfl⟩ rfl ⟨(Nat.le_of_ble_eq_true rfl), (Nat.le_of_ble_eq_true rfl)⟩ (Nat.le_of_ble_eq_true rfl) rfl dX8_level_24 27 rfl hf (fun r6 s7 hf => ?_)
    exact at_ireturn hO dX8_level_27 hf
  · refine at_bipush hO (by decide) dX8_level_8 10 rfl ?_
    exact at_ireturn hO dX8_level_10 hf

def f_X8_set (s : St) (p1 p2 : Int) : Option Rt := cll (f_X8_inside s p1 7) (fun r1 s2 => chk (in32 r1) ((if r1 = 0 then some ((-2), s2) else chk (ix p1 7) (chk (in32 p2) (chk (in32 (rr_TL p1.toNat)) ((if p2 < (rr_TL p1.toNat) then some ((-2), s2) else chk (in32 (rr_TM p1.toNat)) ((if p2 ≤ (rr_TM p1.toNat) then cll (f_X6_change (su s2 10 p1.toNat p2)) (fun _ s9 => some ((s2 10 p1.toNat), s9)) else some ((-2), s2))))))))))
set_option maxRecDepth 100000 in
set_option maxHeartbeats 4000000 in
theorem c_X8_set (l : Launch) (G : Ge) (hG : rr_GD G) (s : St) (p1 p2 : Int) : rr_Ct l G yX8_set cX8_set 4 (some .int) 1 21 1 [vr G 0, vi p1, vi p2] s (f_X8_set s p1 p2) := by
  refine rr_mk (lv := [(0, vr G 0), (1, vi p1), (2, vi p2)]) RX8 (by decide) rfl hG (Nat.le_of_ble_eq_true rfl) rfl ?_
  intro X Z hO hf
  unfold f_X8_set at hf
  refine at_iload_n hO 1 rfl rfl dX8_set_0 1 rfl ?_
  refine at_bipush hO (by decide) dX8_set_1 3 rfl ?_
  refine at_callS1 (As := [vi p1, vi 7]) (st := []) hO (c_X8_inside _ G hO.g s p1 7) mb_X8_inside ms_X8_inside lk_X8_89 rfl ⟨(Nat.le_of_ble_eq_true rfl), (Nat.le_of_ble_eq_true rfl)⟩ (Nat.le_of_ble_eq_true rfl) rfl dX8_set_3 6 rfl hf (fun r1 s2 hf => ?_)
  obtain ⟨h3, hf⟩ := chk_some hf
  refine at_if_eq hO h3 dX8_set_6 27 rfl 9 rfl hf (fun hf => ?_) (fun hf => ?_)
  · refine at_bipush hO (by decide) dX8_set_27 29 rfl ?_
    exact at_ireturn hO dX8_set_29 hf
  · refine at_iload_n hO 2 rfl rfl dX8_set_9 10 rfl ?_
    refine at_getsTL hO ls_X8_134 dX8_set_10 13 rfl ?_
    refine at_iload_n hO 1 rfl rfl dX8_set_13 14 rfl ?_
    obtain ⟨h4, hf⟩ := chk_some hf
    refine at_aldTL hO h4 (p1.toNat) rfl dX8_set_14 15 rfl ?_
    obtain ⟨h5, hf⟩ := chk_some hf
    obtain ⟨h6, hf⟩ := chk_some hf
    refine at_icmp_lt hO h5 h6 dX8_set_15 27 rfl 18 rfl hf (fun hf => ?_) (fun hf => ?_)
    · refine at_bipush hO (by decide) dX8_set_27 29 rfl ?_
      exact at_ireturn hO dX8_set_29 hf
    · refine at_iload_n hO 2 rfl rfl dX8_set_18 19 rfl ?_
      refine at_getsTM hO ls_X8_137 dX8_set_19 22 rfl ?_
      refine at_iload_n hO 1 rfl rfl dX8_set_22 23 rfl ?_
      refine at_aldTM hO h4 (p1.toNat) rfl dX8_set_23 24 rfl ?_
      obtain ⟨h7, hf⟩ := chk_some hf
      refine at_icmp_le hO h5 h7 dX8_set_24 30 rfl 27 rfl hf (fun hf => ?_) (fun hf => ?_)
      · refine at_aload_n hO 0 rfl rfl dX8_set_30 31 rfl ?_
        refine at_getR hO fl_X8_15 rfl rfl dX8_set_31 34 rfl ?_
        refine at_iload_n hO 1 rfl rfl dX8_set_34 35 rfl ?_
        refine at_iaload hO rfl (Nat.le_of_ble_eq_true rfl) h4 (p1.toNat) rfl dX8_set_35 36 rfl ?_
        refine at_istore_n hO (lv' := [(3, vi (s2 10 p1.toNat)), (0, vr G 0), (1, vi p1), (2, vi p2)]) rfl (Nat.le_of_ble_eq_true rfl) rfl dX8_set_36 37 rfl ?_
        refine at_aload_n hO 1 rfl rfl dX8_set_37 38 rfl ?_
        refine at_getR hO fl_X8_15 rfl rfl dX8_set_38 41 rfl ?_
        refine at_iload_n hO 2 rfl rfl dX8_set_41 42 rfl ?_
        refine at_iload_n hO 3 rfl rfl dX8_set_42 43 rfl ?_
        refine at_iastore hO rfl (Nat.le_of_ble_eq_true rfl) h4 (p1.toNat) rfl dX8_set_43 44 rfl ?_
        refine at_aload_n hO 1 rfl rfl dX8_set_44 45 rfl ?_
        refine at_getR hO fl_X8_34 rfl rfl dX8_set_45 48 rfl ?_
        refine at_callV0 (As := []) (st := []) hO (c_X6_change _ G hO.g (su s2 10 p1.toNat p2) ) mb_X6_change mi_X6_change lk_X8_100 rfl ⟨_, rfl, rfl⟩ rfl ⟨(Nat.le_of_ble_eq_true rfl), (Nat.le_of_ble_eq_true rfl)⟩ (Nat.le_of_ble_eq_true rfl) rfl dX8_set_48 51 rfl hf (fun r8 s9 hf => ?_)
        refine at_iload_n hO 0 rfl rfl dX8_set_51 52 rfl ?_
        exact at_ireturn hO dX8_set_52 hf
      · refine at_bipush hO (by decide) dX8_set_27 29 rfl ?_
        exact at_ireturn hO dX8_set_29 hf

def f_X8_odds (s : St) (p1 p2 : Int) : Option Rt := cll (f_X8_inside s p1 3) (fun r1 s2 => chk (in32 r1) ((if r1 = 0 then some ((-2), s2) else cll (f_X8_inside s2 p2 100) (fun r4 s5 => chk (in32 r4) ((if r4 = 0 then some ((-2), s5) else chk (ix p1 3) (some ((s5 11 p1.toNat), (su s5 11 p1.toNat p2)))))))))
set_option maxRecDepth 100000 in
set_option maxHeartbeats 4000000 in
theorem c_X8_odds (l : Launch) (G : Ge) (hG : rr_GD G) (s : St) (p1 p2 : Int) : rr_Ct l G yX8_odds cX8_odds 4 (some .int) 1 21 1 [vr G 0, vi p1, vi p2] s (f_X8_odds s p1 p2) := by
  refine rr_mk (lv := [(0, vr G 0), (1, vi p1), (2, vi p2)]) RX8 (by decide) rfl hG (Nat.le_of_ble_eq_true rfl) rfl ?_
  intro X Z hO hf
  unfold f_X8_odds at hf
  refine at_iload_n hO 1 rfl rfl dX8_odds_0 1 rfl ?_
  refine at_iconst hO dX8_odds_1 2 rfl ?_
  refine at_callS1 (As := [vi p1, vi 3]) (st := []) hO (c_X8_inside _ G hO.g s p1 3) mb_X8_inside ms_X8_inside lk_X8_89 rfl ⟨(Nat.le_of_ble_eq_true rfl), (Nat.le_of_ble_eq_true rfl)⟩ (Nat.le_of_ble_eq_true rfl) rfl dX8_odds_2 5 rfl hf (fun r1 s2 hf => ?_)
  obtain ⟨h3, hf⟩ := chk_some hf
  refine at_if_eq hO h3 dX8_odds_5 17 rfl 8 rfl hf (fun hf => ?_) (fun hf => ?_)
  · refine at_bipush hO (by decide) dX8_odds_17 19 rfl ?_
    exact at_ireturn hO dX8_odds_19 hf
  · refine at_iload_n hO 2 rfl rfl dX8_odds_8 9 rfl ?_
    refine at_bipush hO (by decide) dX8_odds_9 11 rfl ?_
    refine at_callS1 (As := [vi p2, vi 100]) (st := []) hO (c_X8_inside _ G hO.g s2 p2 100) mb_X8_inside ms_X8_inside lk_X8_89 rfl ⟨(Nat.le_of_ble_eq_true rfl), (Nat.le_of_ble_eq_true rfl)⟩ (Nat.le_of_ble_eq_true rfl) rfl dX8_odds_11 14 rfl hf (fun r4 s5 hf => ?_)
    obtain ⟨h6, hf⟩ := chk_some hf
    refine at_if_ne hO h6 dX8_odds_14 20 rfl 17 rfl hf (fun hf => ?_) (fun hf => ?_)
    · refine at_aload_n hO 0 rfl rfl dX8_odds_20 21 rfl ?_
      refine at_getR hO fl_X8_19 rfl rfl dX8_odds_21 24 rfl ?_
      refine at_iload_n hO 1 rfl rfl dX8_odds_24 25 rfl ?_
      obtain ⟨h7, hf⟩ := chk_some hf
      refine at_iaload hO rfl (Nat.le_of_ble_eq_true rfl) h7 (p1.toNat) rfl dX8_odds_25 26 rfl ?_
      refine at_istore_n hO (lv' := [(3, vi (s5 11 p1.toNat)), (0, vr G 0), (1, vi p1), (2, vi p2)]) rfl (Nat.le_of_ble_eq_true rfl) rfl dX8_odds_26 27 rfl ?_
      refine at_aload_n hO 1 rfl rfl dX8_odds_27 28 rfl ?_
      refine at_getR hO fl_X8_19 rfl rfl dX8_odds_28 31 rfl ?_
      refine at_iload_n hO 2 rfl rfl dX8_odds_31 32 rfl ?_
      refine at_iload_n hO 3 rfl rfl dX8_odds_32 33 rfl ?_
      refine at_iastore hO rfl (Nat.le_of_ble_eq_true rfl) h7 (p1.toNat) rfl dX8_odds_33 34 rfl ?_
      refine at_iload_n hO 0 rfl rfl dX8_odds_34 35 rfl ?_
      exact at_ireturn hO dX8_odds_35 hf
    · refine at_bipush hO (by decide) dX8_odds_17 19 rfl ?_
      exact at_ireturn hO dX8_odds_19 hf

def f_X8_dike (s : St) (p1 p2 p3 : Int) : Option Rt := cll (f_X1_mayBe s p1 p2 p3) (fun r1 s2 => chk (in32 r1) ((if r1 = 0 then some ((-2), s2) else cll (f_X1_isFull s2) (fun r4 s5 => chk (in32 r4) ((if r4 = 0 then cll (f_X1_build s5 p1 p2 p3) (fun _ s8 => cll (f_X6_change s8) (fun _ s10 => some ((s10 12 3), s10))) else some ((-4), s5)))))))
set_option maxRecDepth 100000 in
set_option maxHeartbeats 4000000 in
theorem c_X8_dike (l : Launch) (G : Ge) (hG : rr_GD G) (s : St) (p1 p2 p3 : Int) : rr_Ct l G yX8_dike cX8_dike 4 (some .int) 2 44 1 [vr G 0, vi p1, vi p2, vi p3] s (f_X8_dike s p1 p2 p3) := by
  refine rr_mk (lv := [(0, vr G 0), (1, vi p1), (2, vi p2), (3, vi p3)]) RX8 (by decide) rfl hG (Nat.le_of_ble_eq_true rfl) rfl ?_
  intro X Z hO hf
  unfold f_X8_dike at hf
  refine at_aload_n hO 0 rfl rfl dX8_dike_0 1 rfl ?_
  refine at_getR hO fl_X8_25 rfl rfl dX8_dike_1 4 rfl ?_
  refine at_iload_n hO 1 rfl rfl dX8_dike_4 5 rfl ?_
  refine at_iload_n hO 2 rfl rfl dX8_dike_5 6 rfl ?_
  refine at_iload_n hO 3 rfl rfl dX8_dike_6 7 rfl ?_
  refine at_callV1 (As := [vi p1, vi p2, vi p3]) (st := []) hO (c_X1_mayBe _ G hO.g s p1 p2 p3) mb_X1_mayBe mi_X1_mayBe lk_X8_140 rfl ⟨_, rfl, rfl⟩ rfl ⟨(Nat.le_of_ble_eq_true rfl), (Nat.le_of_ble_eq_true rfl)⟩ (Nat.le_of_ble_eq_true rfl) rfl dX8_dike_7 10 rfl hf (fun r1 s2 hf => ?_)
  obtain ⟨h3, hf⟩ := chk_some hf
  refine at_if_ne hO h3 dX8_dike_10 16 rfl 13 rfl hf (fun hf => ?_) (fun hf => ?_)
  · refine at_aload_n hO 0 rfl rfl dX8_dike_16 17 rfl ?_
    refine at_getR hO fl_X8_25 rfl rfl dX8_dike_17 20 rfl ?_
    refine at_callV1 (As := []) (st := []) hO (c_X1_isFull _ G hO.g s2 ) mb_X1_isFull mi_X1_isFull lk_X8_144 rfl ⟨_, rfl, rfl⟩ rfl ⟨(Nat.le_of_ble_eq_true rfl), (Nat.le_of_ble_eq_true rfl)⟩ (Nat.le_of_ble_eq_true rfl) rfl dX8_dike_20 23 rfl hf (fun r4 s5 hf => ?_)
    obtain ⟨h6, hf⟩ := chk_some hf
    refine at_if_eq hO h6 dX8_dike_23 29 rfl 26 rfl hf (fun hf => ?_) (fun hf => ?_)
    · refine at_aload_n hO 0 rfl rfl dX8_dike_29 30 rfl ?_
      refine at_getR hO fl_X8_25 rfl rfl dX8_dike_30 33 rfl ?_
      refine at_iload_n hO 1 rfl rfl dX8_dike_33 34 rfl ?_
      refine at_iload_n hO 2 rfl rfl dX8_dike_34 35 rfl ?_
      refine at_iload_n hO 3 rfl rfl dX8_dike_35 36 rfl ?_
      refine at_callV0 (As := [vi p1, vi p2, vi p3]) (st := []) hO (c_X1_build _ G hO.g s5 p1 p2 p3) mb_X1_build mi_X1_build lk_X8_145 rfl ⟨_, rfl, rfl⟩ rfl ⟨(Nat.le_of_ble_eq_true rfl), (Nat.le_of_ble_eq_true rfl)⟩ (Nat.le_of_ble_eq_true rfl) rfl dX8_dike_36 39 rfl hf (fun r7 s8 hf => ?_)
      refine at_aload_n hO 0 rfl rfl dX8_dike_39 40 rfl ?_
      refine at_getR hO fl_X8_34 rfl rfl dX8_dike_40 43 rfl ?_
      refine at_callV0 (As := []) (st := []) hO (c_X6_change _ G hO.g s8 ) mb_X6_change mi_X6_change lk_X8_100 rfl ⟨_, rfl, rfl⟩ rfl ⟨(Nat.le_of_ble_eq_true rfl), (Nat.le_of_ble_eq_true rfl)⟩ (Nat.le_of_ble_eq_true rfl) rfl dX8_dike_43 46 rfl hf (fun r9 s10 hf => ?_)
      refine at_aload_n hO 0 rfl rfl dX8_dike_46 47 rfl ?_
      refine at_getR hO fl_X8_25 rfl rfl dX8_dike_47 50 rfl ?_
      refine at_getIN hO fl_X8_149 rfl rfl dX8_dike_50 53 rfl ?_
      exact at_ireturn hO dX8_dike_53 hf
    · refine at_bipush hO (by decide) dX8_dike_26 28 rfl ?_
      exact at_ireturn hO dX8_dike_28 hf
  · refine at_bipush hO (by decide) dX8_dike_13 15 rfl ?_
    exact at_ireturn hO dX8_dike_15 hf

def f_X8_find (s : St) (p1 : Int) : Option Rt := some (((-10) - p1), (su s 0 10 p1))
set_option maxRecDepth 100000 in
set_option maxHeartbeats 4000000 in
theorem c_X8_find (l : Launch) (G : Ge) (hG : rr_GD G) (s : St) (p1 : Int) : rr_Ct l G yX8_find cX8_find 2 (some .int) 0 0 1 [vr G 0, vi p1] s (f_X8_find s p1) := by
  refine rr_mk (lv := [(0, vr G 0), (1, vi p1)]) RX8 (by decide) rfl hG (Nat.le_of_ble_eq_true rfl) rfl ?_
  intro X Z hO hf
  unfold f_X8_find at hf
  refine at_aload_n hO 0 rfl rfl dX8_find_0 1 rfl ?_
  refine at_iload_n hO 1 rfl rfl dX8_find_1 2 rfl ?_
  refine at_putI hO fp_X8_78 rfl rfl dX8_find_2 5 rfl ?_
  refine at_bipush hO (by decide) dX8_find_5 7 rfl ?_
  refine at_iload_n hO 1 rfl rfl dX8_find_7 8 rfl ?_
  refine at_isub hO dX8_find_8 9 rfl ?_
  exact at_ireturn hO dX8_find_9 hf

def f_X8_read (s : St) (p1 : Int) : Option Rt := cll (f_X8_inside s p1 4) (fun r1 s2 => chk (in32 r1) ((if r1 = 0 then some ((-2), s2) else chk (ix p1 4) (cll (f_X4_isLost p1.toNat s2) (fun r5 s6 => chk (in32 r5) ((if r5 = 0 then cll (f_X1_buildFrom p1.toNat s6) (fun r8 s9 => cll (f_X6_change s9) (fun _ s11 => some (r8, s11))) else cll (f_X8_find s6 1) (fun r12 s13 => some (r12, s13)))))))))
set_option maxRecDepth 100000 in
set_option maxHeartbeats 4000000 in
theorem c_X8_read (l : Launch) (G : Ge) (hG : rr_GD G) (s : St) (p1 : Int) : rr_Ct l G yX8_read cX8_read 3 (some .int) 3 70 1 [vr G 0, vi p1] s (f_X8_read s p1) := by
  refine rr_mk (lv := [(0, vr G 0), (1, vi p1)]) RX8 (by decide) rfl hG (Nat.le_of_ble_eq_true rfl) rfl ?_
  intro X Z hO hf
  unfold f_X8_read at hf
  refine at_iload_n hO 1 rfl rfl dX8_read_0 1 rfl ?_
  refine at_iconst hO dX8_read_1 2 rfl ?_
  refine at_callS1 (As := [vi p1, vi 4]) (st := []) hO (c_X8_inside _ G hO.g s p1 4) mb_X8_inside ms_X8_inside lk_X8_89 rfl ⟨(Nat.le_of_ble_eq_true rfl), (Nat.le_of_ble_eq_true rfl)⟩ (Nat.le_of_ble_eq_true rfl) rfl dX8_read_2 5 rfl hf (fun r1 s2 hf => ?_)
  obtain ⟨h3, hf⟩ := chk_some hf
  refine at_if_ne hO h3 dX8_read_5 11 rfl 8 rfl hf (fun hf => ?_) (fun hf => ?_)
  · refine at_aload_n hO 0 rfl rfl dX8_read_11 12 rfl ?_
    refine at_getR hO fl_X8_74 rfl rfl dX8_read_12 15 rfl ?_
    refine at_iload_n hO 1 rfl rfl dX8_read_15 16 rfl ?_
    obtain ⟨h4, hf⟩ := chk_some hf
    refine at_aaload4 hO rfl (Nat.le_of_ble_eq_true rfl) h4 (50 + p1.toNat) rfl dX8_read_16 17 rfl ?_
    refine at_callV1 (As := []) (st := []) hO (c_X4_isLost _ G hO.g p1.toNat (ix_nat h4) s2 ) mb_X4_isLost mi_X4_isLost lk_X8_152 (tb_sheet (ix_nat h4)) ⟨_, rfl, rfl⟩ rfl ⟨(Nat.le_of_ble_eq_true rfl), (Nat.le_of_ble_eq_true rfl)⟩ (Nat.le_of_ble_eq_true rfl) rfl dX8_read_17 20 rfl hf (fun r5 s6 hf => ?_)
    obtain ⟨h7, hf⟩ := chk_some hf
    refine at_if_eq hO h7 dX8_read_20 29 rfl 23 rfl hf (fun hf => ?_) (fun hf => ?_)
    · refine at_aload_n hO 0 rfl rfl dX8_read_29 30 rfl ?_
      refine at_getR hO fl_X8_25 rfl rfl dX8_read_30 33 rfl ?_
      refine at_aload_n hO 0 rfl rfl dX8_read_33 34 rfl ?_
      refine at_getR hO fl_X8_74 rfl rfl dX8_read_34 37 rfl ?_
      refine at_iload_n hO 1 rfl rfl dX8_read_37 38 rfl ?_
      refine at_aaload4 hO rfl (Nat.le_of_ble_eq_true rfl) h4 (50 + p1.toNat) rfl dX8_read_38 39 rfl ?_
      refine at_callV1 (As := [vr G (50 + p1.toNat)]) (st := []) hO (c_X1_buildFrom _ G hO.g p1.toNat (ix_nat h4) s6 ) mb_X1_buildFrom mi_X1_buildFrom lk_X8_158 rfl ⟨_, rfl, rfl⟩ rfl ⟨(Nat.le_of_ble_eq_true rfl), (Nat.le_of_ble_eq_true rfl)⟩ (Nat.le_of_ble_eq_true rfl) rfl dX8_read_39 42 rfl hf (fun r8 s9 hf => ?_)
      refine at_istore_n hO (lv' := [(2, vi r8), (0, vr G 0), (1, vi p1)]) rfl (Nat.le_of_ble_eq_true rfl) rfl dX8_read_42 43 rfl ?_
      refine at_aload_n hO 1 rfl rfl dX8_read_43 44 rfl ?_
      refine at_getR hO fl_X8_34 rfl rfl dX8_read_44 47 rfl ?_
      refine at_callV0 (As := []) (st := []) hO (c_X6_change _ G hO.g s9 ) mb_X6_change mi_X6_change lk_X8_100 rfl ⟨_, rfl, rfl⟩ rfl ⟨(Nat.le_of_ble_eq_true rfl), (Nat.le_of_ble_eq_true rfl)⟩ (Nat.le_of_ble_eq_true rfl) rfl dX8_read_47 50 rfl hf (fun r10 s11 hf => ?_)
      refine at_iload_n hO 0 rfl rfl dX8_read_50 51 rfl ?_
      exact at_ireturn hO dX8_read_51 hf
    · refine at_aload_n hO 0 rfl rfl dX8_read_23 24 rfl ?_
      refine at_iconst hO dX8_read_24 25 rfl ?_
      refine at_callV1 (As := [vi 1]) (st := []) hO (c_X8_find _ G hO.g s6 1) mb_X8_find mi_X8_find lk_X8_155 rfl ⟨_, rfl, rfl⟩ rfl ⟨(Nat.le_of_ble_eq_true rfl), (Nat.le_of_ble_eq_true rfl)⟩ (Nat.le_of_ble_eq_true rfl) rfl dX8_read_25 28 rfl hf (fun r12 s13 hf => ?_)
      exact at_ireturn hO dX8_read_28 hf
  · refine at_bipush hO (by decide) dX8_read_8 10 rfl ?_
    exact at_ireturn hO dX8_read_10 hf

def f_X8_breaks (s : St) : Option Rt := chk (in32 (s 12 3)) ((if (s 12 3) = 0 then some ((-3), s) else cll (f_X1_dropLast s) (fun _ s3 => cll (f_X6_change s3) (fun _ s5 => some ((s5 12 3), s5)))))
set_option maxRecDepth 100000 in
set_option maxHeartbeats 4000000 in
theorem c_X8_breaks (l : Launch) (G : Ge) (hG : rr_GD G) (s : St) : rr_Ct l G yX8_breaks cX8_breaks 1 (some .int) 2 41 1 [vr G 0] s (f_X8_breaks s ) := by
  refine rr_mk (lv := [(0, vr G 0)]) RX8 (by decide) rfl hG (Nat.le_of_ble_eq_true rfl) rfl ?_
  intro X Z hO hf
  unfold f_X8_breaks at hf
  refine at_aload_n hO 0 rfl rfl dX8_breaks_0 1 rfl ?_
  refine at_getR hO fl_X8_25 rfl rfl dX8_breaks_1 4 rfl ?_
  refine at_getIN hO fl_X8_149 rfl rfl dX8_breaks_4 7 rfl ?_
  obtain ⟨h1, hf⟩ := chk_some hf
  refine at_if_ne hO h1 dX8_breaks_7 13 rfl 10 rfl hf (fun hf => ?_) (fun hf => ?_)
  · refine at_aload_n hO 0 rfl rfl dX8_breaks_13 14 rfl ?_
    refine at_getR hO fl_X8_25 rfl rfl dX8_breaks_14 17 rfl ?_
    refine at_callV0 (As := []) (st := []) hO (c_X1_dropLast _ G hO.g s ) mb_X1_dropLast mi_X1_dropLast lk_X8_162 rfl ⟨_, rfl, rfl⟩ rfl ⟨(Nat.le_of_ble_eq_true rfl), (Nat.le_of_ble_eq_true rfl)⟩ (Nat.le_of_ble_eq_true rfl) rfl dX8_breaks_17 20 rfl hf (fun r2 s3 hf => ?_)
    refine at_aload_n hO 0 rfl rfl dX8_breaks_20 21 rfl ?_
    refine at_getR hO fl_X8_34 rfl rfl dX8_breaks_21 24 rfl ?_
    refine at_callV0 (As := []) (st := []) hO (c_X6_change _ G hO.g s3 ) mb_X6_change mi_X6_change lk_X8_100 rfl ⟨_, rfl, rfl⟩ rfl ⟨(Nat.le_of_ble_eq_true rfl), (Nat.le_of_ble_eq_true rfl)⟩ (Nat.le_of_ble_eq_true rfl) rfl dX8_breaks_24 27 rfl hf (fun r4 s5 hf => ?_)
    refine at_aload_n hO 0 rfl rfl dX8_breaks_27 28 rfl ?_
    refine at_getR hO fl_X8_25 rfl rfl dX8_breaks_28 31 rfl ?_
    refine at_getIN hO fl_X8_149 rfl rfl dX8_breaks_31 34 rfl ?_
    exact at_ireturn hO dX8_breaks_34 hf
  · refine at_bipush hO (by decide) dX8_breaks_10 12 rfl ?_
    exact at_ireturn hO dX8_breaks_12 hf

def f_X8_possession (s : St) (p1 : Int) : Option Rt := cll (f_X8_inside s p1 3) (fun r1 s2 => chk (in32 r1) ((if r1 = 0 then some ((-2), s2) else cll (f_X6_refresh s2) (fun _ s5 => cll (f_X6_lentFrom s5 p1) (fun r6 s7 => some (r6, s7))))))
set_option maxRecDepth 100000 in
set_option maxHeartbeats 4000000 in
theorem c_X8_possession (l : Launch) (G : Ge) (hG : rr_GD G) (s : St) (p1 : Int) : rr_Ct l G yX8_possession cX8_possession 2 (some .int) 4 87 1 [vr G 0, vi p1] s (f_X8_possession s p1) := by
  refine rr_mk (lv := [(0, vr G 0), (1, vi p1)]) RX8 (by decide) rfl hG (Nat.le_of_ble_eq_true rfl) rfl ?_
  intro X Z hO hf
  unfold f_X8_possession at hf
  refine at_iload_n hO 1 rfl rfl dX8_possession_0 1 rfl ?_
  refine at_iconst hO dX8_possession_1 2 rfl ?_
  refine at_callS1 (As := [vi p1, vi 3]) (st := []) hO (c_X8_inside _ G hO.g s p1 3) mb_X8_inside ms_X8_inside lk_X8_89 rfl ⟨(Nat.le_of_ble_eq_true rfl), (Nat.le_of_ble_eq_true rfl)⟩ (Nat.le_of_ble_eq_true rfl) rfl dX8_possession_2 5 rfl hf (fun r1 s2 hf => ?_)
  obtain ⟨h3, hf⟩ := chk_some hf
  refine at_if_ne hO h3 dX8_possession_5 11 rfl 8 rfl hf (fun hf => ?_) (fun hf => ?_)
  · refine at_aload_n hO 0 rfl rfl dX8_possession_11 12 rfl ?_
    refine at_getR hO fl_X8_34 rfl rfl dX8_possession_12 15 rfl ?_
    refine at_callV0 (As := []) (st := []) hO (c_X6_refresh _ G hO.g s2 ) mb_X6_refresh mi_X6_refresh lk_X8_127 rfl ⟨_, rfl, rfl⟩ rfl ⟨(Nat.le_of_ble_eq_true rfl), (Nat.le_of_ble_eq_true rfl)⟩ (Nat.le_of_ble_eq_true rfl) rfl dX8_possession_15 18 rfl hf (fun r4 s5 hf => ?_)
    refine at_aload_n hO 0 rfl rfl dX8_possession_18 19 rfl ?_
    refine at_getR hO fl_X8_34 rfl rfl dX8_possession_19 22 rfl ?_
    refine at_iload_n hO 1 rfl rfl dX8_possession_22 23 rfl ?_
    refine at_callV1 (As := [vi p1]) (st := []) hO (c_X6_lentFrom _ G hO.g s5 p1) mb_X6_lentFrom mi_X6_lentFrom lk_X8_163 rfl ⟨_, rfl, rfl⟩ rfl ⟨(Nat.le_of_ble_eq_true rfl), (Nat.le_of_ble_eq_true rfl)⟩ (Nat.le_of_ble_eq_true rfl) rfl dX8_possession_23 26 rfl hf (fun r6 s7 hf => ?_)
    exact at_ireturn hO dX8_possession_26 hf
  · refine at_bipush hO (by decide) dX8_possession_8 10 rfl ?_
    exact at_ireturn hO dX8_possession_10 hf

def f_X8_wet (s : St) (p1 p2 p3 : Int) : Option Rt := cll (f_X8_isSpringDay s p1 p2) (fun r1 s2 => chk (in32 r1) ((if r1 = 0 then some ((-2), s2) else cll (f_X8_isYard s2 p3) (fun r4 s5 => chk (in32 r4) ((if r4 = 0 then some ((-2), s5) else cll (f_X6_refresh s5) (fun _ s8 => cll (f_X6_wetYards s8 p1 p2) (fun r9 s10 => some ((andZ (shrZ r9 p3) 1), s10)))))))))
set_option maxRecDepth 100000 in
set_option maxHeartbeats 4000000 in
theorem c_X8_wet (l : Launch) (G : Ge) (hG : rr_GD G) (s : St) (p1 p2 p3 : Int) : rr_Ct l G yX8_wet cX8_wet 4 (some .int) 4 87 1 [vr G 0, vi p1, vi p2, vi p3] s (f_X8_wet s p1 p2 p3) := by
  refine rr_mk (lv := [(0, vr G 0), (1, vi p1), (2, vi p2), (3, vi p3)]) RX8 (by decide) rfl hG (Nat.le_of_ble_eq_true rfl) rfl ?_
  intro X Z hO hf
  unfold f_X8_wet at hf
  refine at_iload_n hO 1 rfl rfl dX8_wet_0 1 rfl ?_
  refine at_iload_n hO 2 rfl rfl dX8_wet_1 2 rfl ?_
  refine at_callS1 (As := [vi p1, vi p2]) (st := []) hO (c_X8_isSpringDay _ G hO.g s p1 p2) mb_X8_isSpringDay ms_X8_isSpringDay lk_X8_124 rfl ⟨(Nat.le_of_ble_eq_true rfl), (Nat.le_of_ble_eq_true rfl)⟩ (Nat.le_of_ble_eq_true rfl) rfl dX8_wet_2 5 rfl hf (fun r1 s2 hf => ?_)
  obtain ⟨h3, hf⟩ := chk_some hf
  refine at_if_eq hO h3 dX8_wet_5 16 rfl 8 rfl hf (fun hf => ?_) (fun hf => ?_)
  · refine at_bipush hO (by decide) dX8_wet_16 18 rfl ?_
    exact at_ireturn hO dX8_wet_18 hf
  · refine at_aload_n hO 0 rfl rfl dX8_wet_8 9 rfl ?_
    refine at_iload_n hO 3 rfl rfl dX8_wet_9 10 rfl ?_
    refine at_callV1 (As := [vi p3]) (st := []) hO (c_X8_isYard _ G hO.g s2 p3) mb_X8_isYard mi_X8_isYard lk_X8_116 rfl ⟨_, rfl, rfl⟩ rfl ⟨(Nat.le_of_ble_eq_true rfl), (Nat.le_of_ble_eq_true rfl)⟩ (Nat.le_of_ble_eq_true rfl) rfl dX8_wet_10 13 rfl hf (fun r4 s5 hf => ?_)
    obtain ⟨h6, hf⟩ := chk_some hf
    refine at_if_ne hO h6 dX8_wet_13 19 rfl 16 rfl hf (fun hf => ?_) (fun hf => ?_)
    · refine at_aload_n hO 0 rfl rfl dX8_wet_19 20 rfl ?_
      refine at_getR hO fl_X8_34 rfl rfl dX8_wet_20 23 rfl ?_
      refine at_callV0 (As := []) (st := []) hO (c_X6_refresh _ G hO.g s5 ) mb_X6_refresh mi_X6_refresh lk_X8_127 rfl ⟨_, rfl, rfl⟩ rfl ⟨(Nat.le_of_ble_eq_true rfl), (Nat.le_of_ble_eq_true rfl)⟩ (Nat.le_of_ble_eq_true rfl) rfl dX8_wet_23 26 rfl hf (fun r7 s8 hf => ?_)
      refine at_aload_n hO 0 rfl rfl dX8_wet_26 27 rfl ?_
      refine at_getR hO fl_X8_34 rfl rfl dX8_wet_27 30 rfl ?_
      refine at_iload_n hO 1 rfl rfl dX8_wet_30 31 rfl ?_
      refine at_iload_n hO 2 rfl rfl dX8_wet_31 32 rfl ?_
      refine at_callV1 (As := [vi p1, vi p2]) (st := []) hO (c_X6_wetYards _ G hO.g s8 p1 p2) mb_X6_wetYards mi_X6_wetYards lk_X8_166 rfl ⟨_, rfl, rfl⟩ rfl ⟨(Nat.le_of_ble_eq_true rfl), (Nat.le_of_ble_eq_true rfl)⟩ (Nat.le_of_ble_eq_true rfl) rfl dX8_wet_32 35 rfl hf (fun r9 s10 hf => ?_)
      refine at_iload_n hO 3 rfl rfl dX8_wet_35 36 rfl ?_
      refine at_ishr hO dX8_wet_36 37 rfl ?_
      refine at_iconst hO dX8_wet_37 38 rfl ?_
      refine at_iand hO dX8_wet_38 39 rfl ?_
      exact at_ireturn hO dX8_wet_39 hf
    · refine at_bipush hO (by decide) dX8_wet_16 18 rfl ?_
      exact at_ireturn hO dX8_wet_18 hf
