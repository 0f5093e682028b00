def f_X8_islands (s : St) (p1 : Int) : Option Rt := some ((andZ (andZ (shlZ p1 1) (shrZ p1 1)) (xorZ p1 (-1))), s)
set_option maxRecDepth 100000 in
set_option maxHeartbeats 4000000 in
theorem c_X8_islands (l : Launch) (G : Ge) (hG : rr_GD G) (s : St) (p1 : Int) : rr_Ct l G yX8_islands cX8_islands 1 (some .int) 0 0 1 [vi p1] s (f_X8_islands s p1) := by
  refine rr_mk (lv := [(0, vi p1)]) RX8 (by decide) rfl hG (Nat.le_of_ble_eq_true rfl) rfl ?_
  intro X Z hO hf
  unfold f_X8_islands at hf
  refine at_iload_n hO 0 rfl rfl dX8_islands_0 1 rfl ?_
  refine at_iconst hO dX8_islands_1 2 rfl ?_
  refine at_ishl hO dX8_islands_2 3 rfl ?_
  refine at_iload_n hO 0 rfl rfl dX8_islands_3 4 rfl ?_
  refine at_iconst hO dX8_islands_4 5 rfl ?_
  refine at_ishr hO dX8_islands_5 6 rfl ?_
  refine at_iand hO dX8_islands_6 7 rfl ?_
  refine at_iload_n hO 0 rfl rfl dX8_islands_7 8 rfl ?_
  refine at_iconst hO dX8_islands_8 9 rfl ?_
  refine at_ixor hO dX8_islands_9 10 rfl ?_
  refine at_iand hO dX8_islands_10 11 rfl ?_
  exact at_ireturn hO dX8_islands_11 hf

def f_X8_water (s : St) (p1 p2 p3 : Int) : Option Rt := cll (f_X8_isSpringDay s p1 p2) (fun r1 s2 => chk (in32 r1) ((if r1 = 0 then some ((-2), s2) else cll (f_X8_inside s2 p3 2) (fun r4 s5 => chk (in32 r4) ((if r4 = 0 then some ((-2), s5) else cll (f_X6_refresh s5) (fun _ s8 => cll (f_X6_wetYards s8 p1 p2) (fun r9 s10 => chk (in32 p3) ((if p3 = 0 then some (r9, s10) else cll (f_X8_islands s10 r9) (fun r12 s13 => some (r12, s13))))))))))))
set_option maxRecDepth 100000 in
set_option maxHeartbeats 4000000 in
theorem c_X8_water (l : Launch) (G : Ge) (hG : rr_GD G) (s : St) (p1 p2 p3 : Int) : rr_Ct l G yX8_water cX8_water 5 (some .int) 4 87 1 [vr G 0, vi p1, vi p2, vi p3] s (f_X8_water s p1 p2 p3) := by
  refine rr_mk (lv := [(0, vr G 0), (1, vi p1), (2, vi p2), (3, vi p3)]) RX8 (by decide) rfl hG (Nat.le_of_ble_eq_true rfl) rfl ?_
  intro X Z hO hf
  unfold f_X8_water at hf
  refine at_iload_n hO 1 rfl rfl dX8_water_0 1 rfl ?_
  refine at_iload_n hO 2 rfl rfl dX8_water_1 2 rfl ?_
  refine at_callS1 (As := [vi p1, vi p2]) (st := []) hO (c_X8_isSpringDay _ G hO.g s p1 p2) mb_X8_isSpringDay ms_X8_isSpringDay lk_X8_124 rfl ⟨(Nat.le_of_ble_eq_true rfl), (Nat.le_of_ble_eq_true rfl)⟩ (Nat.le_of_ble_eq_true rfl) rfl dX8_water_2 5 rfl hf (fun r1 s2 hf => ?_)
  obtain ⟨h3, hf⟩ := chk_some hf
  refine at_if_eq hO h3 dX8_water_5 16 rfl 8 rfl hf (fun hf => ?_) (fun hf => ?_)
  · refine at_bipush hO (by decide) dX8_water_16 18 rfl ?_
    exact at_ireturn hO dX8_water_18 hf
  · refine at_iload_n hO 3 rfl rfl dX8_water_8 9 rfl ?_
    refine at_iconst hO dX8_water_9 10 rfl ?_
    refine at_callS1 (As := [vi p3, vi 2]) (st := []) hO (c_X8_inside _ G hO.g s2 p3 2) mb_X8_inside ms_X8_inside lk_X8_89 rfl ⟨(Nat.le_of_ble_eq_true rfl), (Nat.le_of_ble_eq_true rfl)⟩ (Nat.le_of_ble_eq_true rfl) rfl dX8_water_10 13 rfl hf (fun r4 s5 hf => ?_)
    obtain ⟨h6, hf⟩ := chk_some hf
    refine at_if_ne hO h6 dX8_water_13 19 rfl 16 rfl hf (fun hf => ?_) (fun hf => ?_)
    · refine at_aload_n hO 0 rfl rfl dX8_water_19 20 rfl ?_
      refine at_getR hO fl_X8_34 rfl rfl dX8_water_20 23 rfl ?_
      refine at_callV0 (As := []) (st := []) hO (c_X6_refresh _ G hO.g s5 ) mb_X6_refresh mi_X6_refresh lk_X8_127 rfl ⟨_, rfl, rfl⟩ rfl ⟨(Nat.le_of_ble_eq_true rfl), (Nat.le_of_ble_eq_true rfl)⟩ (Nat.le_of_ble_eq_true rfl) rfl dX8_water_23 26 rfl hf (fun r7 s8 hf => ?_)
      refine at_aload_n hO 0 rfl rfl dX8_water_26 27 rfl ?_
      refine at_getR hO fl_X8_34 rfl rfl dX8_water_27 30 rfl ?_
      refine at_iload_n hO 1 rfl rfl dX8_water_30 31 rfl ?_
      refine at_iload_n hO 2 rfl rfl dX8_water_31 32 rfl ?_
      refine at_callV1 (As := [vi p1, vi p2]) (st := []) hO (c_X6_wetYards _ G hO.g s8 p1 p2) mb_X6_wetYards mi_X6_wetYards lk_X8_166 rfl ⟨_, rfl, rfl⟩ rfl ⟨(Nat.le_of_ble_eq_true rfl), (Nat.le_of_ble_eq_true rfl)⟩ (Nat.le_of_ble_eq_true rfl) rfl dX8_water_32 35 rfl hf (fun r9 s10 hf => ?_)
      refine at_istore hO (lv' := [(4, vi r9), (0, vr G 0), (1, vi p1), (2, vi p2), (3, vi p3)]) (Nat.le_of_ble_eq_true rfl) rfl dX8_water_35 37 rfl ?_
      refine at_iload_n hO 4 rfl rfl dX8_water_37 38 rfl ?_
      obtain ⟨h11, hf⟩ := chk_some hf
      refine at_if_ne hO h11 dX8_water_38 46 rfl 41 rfl hf (fun hf => ?_) (fun hf => ?_)
      · refine at_iload hO 0 rfl dX8_water_46 48 rfl ?_
        refine at_callS1 (As := [vi r9]) (st := []) hO (c_X8_islands _ G hO.g s10 r9) mb_X8_islands ms_X8_islands lk_X8_169 rfl ⟨(Nat.le_of_ble_eq_true rfl), (Nat.le_of_ble_eq_true rfl)⟩ (Nat.le_of_ble_eq_true rfl) rfl dX8_water_48 51 rfl hf (fun r12 s13 hf => ?_)
        exact at_ireturn hO dX8_water_51 hf
      · refine at_iload hO 0 rfl dX8_water_41 43 rfl ?_
        refine at_goto hO dX8_water_43 51 rfl ?_
        exact at_ireturn hO dX8_water_51 hf
    · refine at_bipush hO (by decide) dX8_water_16 18 rfl ?_
      exact at_ireturn hO dX8_water_18 hf

def f_X8_cost (s : St) (p1 p2 p3 p4 p5 : Int) : Option Rt := cll (f_X8_isSpringDay s p1 p2) (fun r1 s2 => chk (in32 r1) ((if r1 = 0 then some ((-2), s2) else cll (f_X8_isYard s2 p3) (fun r4 s5 => chk (in32 r4) ((if r4 = 0 then some ((-2), s5) else cll (f_X8_isYard s5 p4) (fun r7 s8 => chk (in32 r7) ((if r7 = 0 then some ((-2), s8) else cll (f_X8_inside s8 p5 3) (fun r10 s11 => chk (in32 r10) ((if r10 = 0 then some ((-2), s11) else cll (f_X6_refresh s11) (fun _ s14 => chk (in32 p3) (chk (in32 p4) (cll (f_X6_wetYards s14 p1 p2) (fun r17 s18 => cll (f_X8_roadCost s18 r17 (min p3 p4) (max p3 p4) (s18 10 2)) (fun r19 s20 => cll (f_X8_ridgeCost s20 (min p3 p4) (max p3 p4) (s20 10 3)) (fun r21 s22 => chk (in32 p5) ((if p5 = 0 then chk (in32 r19) (chk (in32 r21) (some ((min r19 r21), s22))) else (if p5 = 1 then some (r19, s22) else some (r21, s22))))))))))))))))))))))
set_option maxRecDepth 100000 in
set_option maxHeartbeats 4000000 in
theorem c_X8_cost (l : Launch) (G : Ge) (hG : rr_GD G) (s : St) (p1 p2 p3 p4 p5 : Int) : rr_Ct l G yX8_cost cX8_cost 10 (some .int) 4 87 1 [vr G 0, vi p1, vi p2, vi p3, vi p4, vi p5] s (f_X8_cost s p1 p2 p3 p4 p5) := by
  refine rr_mk (lv := [(0, vr G 0), (1, vi p1), (2, vi p2), (3, vi p3), (4, vi p4), (5, vi p5)]) RX8 (by decide) rfl hG (Nat.le_of_ble_eq_true rfl) rfl ?_
  intro X Z hO hf
  unfold f_X8_cost at hf
  refine at_iload_n hO 1 rfl rfl dX8_cost_0 1 rfl ?_
  refine at_iload_n hO 2 rfl rfl dX8_cost_1 2 rfl ?_
  refine at_callS1 (As := [vi p1, vi p2]) (st := []) hO (c_X8_isSpringDay _ G hO.g s p1 p2) mb_X8_isSpringDay ms_X8_isSpringDay lk_X8_124 rfl ⟨(Nat.le_of_ble_eq_true rfl), (Nat.le_of_ble_eq_true rfl)⟩ (Nat.le_of_ble_eq_true rfl) rfl dX8_cost_2 5 rfl hf (fun r1 s2 hf => ?_)
  obtain ⟨h3, hf⟩ := chk_some hf
  refine at_if_eq hO h3 dX8_cost_5 34 rfl 8 rfl hf (fun hf => ?_) (fun hf => ?_)
  · refine at_bipush hO (by decide) dX8_cost_34 36 rfl ?_
    exact at_ireturn hO dX8_cost_36 hf
  · refine at_aload_n hO 0 rfl rfl dX8_cost_8 9 rfl ?_
    refine at_iload_n hO 3 rfl rfl dX8_cost_9 10 rfl ?_
    refine at_callV1 (As := [vi p3]) (st := []) hO (c_X8_isYard _ G hO.g s2 p3) mb_X8_isYard mi_X8_isYard lk_X8_116 rfl ⟨_, rfl, rfl⟩ rfl ⟨(Nat.le_of_ble_eq_true rfl), (Nat.le_of_ble_eq_true rfl)⟩ (Nat.le_of_ble_eq_true rfl) rfl dX8_cost_10 13 rfl hf (fun r4 s5 hf => ?_)
    obtain ⟨h6, hf⟩ := chk_some hf
    refine at_if_eq hO h6 dX8_cost_13 34 rfl 16 rfl hf (fun hf => ?_) (fun hf => ?_)
    · refine at_bipush hO (by decide) dX8_cost_34 36 rfl ?_
      exact at_ireturn hO dX8_cost_36 hf
    · refine at_aload_n hO 0 rfl rfl dX8_cost_16 17 rfl ?_
      refine at_iload hO 4 rfl dX8_cost_17 19 rfl ?_
      refine at_callV1 (As := [vi p4]) (st := []) hO (c_X8_isYard _ G hO.g s5 p4) mb_X8_isYard mi_X8_isYard lk_X8_116 rfl ⟨_, rfl, rfl⟩ rfl ⟨(Nat.le_of_ble_eq_true rfl), (Nat.le_of_ble_eq_true rfl)⟩ (Nat.le_of_ble_eq_true rfl) rfl dX8_cost_19 22 rfl hf (fun r7 s8 hf => ?_)
      obtain ⟨h9, hf⟩ := chk_some hf
      refine at_if_eq hO h9 dX8_cost_22 34 rfl 25 rfl hf (fun hf => ?_) (fun hf => ?_)
      · refine at_bipush hO (by decide) dX8_cost_34 36 rfl ?_
        exact at_ireturn hO dX8_cost_36 hf
      · refine at_iload hO 5 rfl dX8_cost_25 27 rfl ?_
        refine at_iconst hO dX8_cost_27 28 rfl ?_
        refine at_callS1 (As := [vi p5, vi 3]) (st := []) hO (c_X8_inside _ G hO.g s8 p5 3) mb_X8_inside ms_X8_inside lk_X8_89 rfl ⟨(Nat.le_of_ble_eq_true rfl), (Nat.le_of_ble_eq_true rfl)⟩ (Nat.le_of_ble_eq_true rfl) rfl dX8_cost_28 31 rfl hf (fun r10 s11 hf => ?_)
        obtain ⟨h12, hf⟩ := chk_some hf
        refine at_if_ne hO h12 dX8_cost_31 37 rfl 34 rfl hf (fun hf => ?_) (fun hf => ?_)
        · refine at_aload_n hO 0 rfl rfl dX8_cost_37 38 rfl ?_
          refine at_getR hO fl_X8_34 rfl rfl dX8_cost_38 41 rfl ?_
          refine at_callV0 (As := []) (st := []) hO (c_X6_refresh _ G hO.g s11 ) mb_X6_refresh mi_X6_refresh lk_X8_127 rfl ⟨_, rfl, rfl⟩ rfl ⟨(Nat.le_of_ble_eq_true rfl), (Nat.le_of_ble_eq_true rfl)⟩ (Nat.le_of_ble_eq_true rfl) rfl dX8_cost_41 44 rfl hf (fun r13 s14 hf => ?_)
          refine at_iload_n hO 3 rfl rfl dX8_cost_44 45 rfl ?_
          refine at_iload hO 4 rfl dX8_cost_45 47 rfl ?_
          obtain ⟨h15, hf⟩ := chk_some hf
          obtain ⟨h16, hf⟩ := chk_some hf
          refine at_mmin hO h15 h16 lk_X8_172 ⟨(Nat.le_of_ble_eq_true rfl), (Nat.le_of_ble_eq_true rfl)⟩ dX8_cost_47 50 rfl ?_
          refine at_istore hO (lv' := [(6, vi (min p3 p4)), (0, vr G 0), (1, vi p1), (2, vi p2), (3, vi p3), (4, vi p4), (5, vi p5)]) (Nat.le_of_ble_eq_true rfl) rfl dX8_cost_50 52 rfl ?_
          refine at_iload_n hO 4 rfl rfl dX8_cost_52 53 rfl ?_
          refine at_iload hO 5 rfl dX8_cost_53 55 rfl ?_
          refine at_mmax hO h15 h16 lk_X8_177 ⟨(Nat.le_of_ble_eq_true rfl), (Nat.le_of_ble_eq_true rfl)⟩ dX8_cost_55 58 rfl ?_
          refine at_istore hO (lv' := [(7, vi (max p3 p4)), (6, vi (min p3 p4)), (0, vr G 0), (1, vi p1), (2, vi p2), (3, vi p3), (4, vi p4), (5, vi p5)]) (Nat.le_of_ble_eq_true rfl) rfl dX8_cost_58 60 rfl ?_
          refine at_aload_n hO 2 rfl rfl dX8_cost_60 61 rfl ?_
          refine at_getR hO fl_X8_34 rfl rfl dX8_cost_61 64 rfl ?_
          refine at_iload_n hO 3 rfl rfl dX8_cost_64 65 rfl ?_
          refine at_iload_n hO 4 rfl rfl dX8_cost_65 66 rfl ?_
          refine at_callV1 (As := [vi p1, vi p2]) (st := []) hO (c_X6_wetYards _ G hO.g s14 p1 p2) mb_X6_wetYards mi_X6_wetYards lk_X8_166 rfl ⟨_, rfl, rfl⟩ rfl ⟨(Nat.le_of_ble_eq_true rfl), (Nat.le_of_ble_eq_true rfl)⟩ (Nat.le_of_ble_eq_true rfl) rfl dX8_cost_66 69 rfl hf (fun r17 s18 hf => ?_)
          refine at_iload hO 1 rfl dX8_cost_69 71 rfl ?_
          refine at_iload hO 0 rfl dX8_cost_71 73 rfl ?_
          refine at_aload_n hO 2 rfl rfl dX8_cost_73 74 rfl ?_
          refine at_getR hO fl_X8_15 rfl rfl dX8_cost_74 77 rfl ?_
          refine at_iconst hO dX8_cost_77 78 rfl ?_
          refine at_iaload hO rfl (Nat.le_of_ble_eq_true rfl) (by decide) (2) rfl dX8_cost_78 79 rfl ?_
          refine at_callS1 (As := [vi r17, vi (min p3 p4), vi (max p3 p4), vi (s18 10 2)]) (st := []) hO (c_X8_roadCost _ G hO.g s18 r17 (min p3 p4) (max p3 p4) (s18 10 2)) mb_X8_roadCost ms_X8_roadCost lk_X8_180 rfl ⟨(Nat.le_of_ble_eq_true rfl), (Nat.le_of_ble_eq_true rfl)⟩ (Nat.le_of_ble_eq_true rfl) rfl dX8_cost_79 82 rfl hf (fun r19 s20 hf => ?_)
          refine at_istore hO (lv' := [(8, vi r19), (7, vi (max p3 p4)), (6, vi (min p3 p4)), (0, vr G 0), (1, vi p1), (2, vi p2), (3, vi p3), (4, vi p4), (5, vi p5)]) (Nat.le_of_ble_eq_true rfl) rfl dX8_cost_82 84 rfl ?_
          refine at_iload hO 2 rfl dX8_cost_84 86 rfl ?_
          refine at_iload hO 1 rfl dX8_cost_86 88 rfl ?_
          refine at_aload_n hO 3 rfl rfl dX8_cost_88 89 rfl ?_
          refine at_getR hO fl_X8_15 rfl rfl dX8_cost_89 92 rfl ?_
          refine at_iconst hO dX8_cost_92 93 rfl ?_
          refine at_iaload hO rfl (Nat.le_of_ble_eq_true rfl) (by decide) (3) rfl dX8_cost_93 94 rfl ?_
          refine at_callS1 (As := [vi (min p3 p4), vi (max p3 p4), vi (s20 10 3)]) (st := []) hO (c_X8_ridgeCost _ G hO.g s20 (min p3 p4) (max p3 p4) (s20 10 3)) mb_X8_ridgeCost ms_X8_ridgeCost lk_X8_184 rfl ⟨(Nat.le_of_ble_eq_true rfl), (Nat.le_of_ble_eq_true rfl)⟩ (Nat.le_of_ble_eq_true rfl) rfl dX8_cost_94 97 rfl hf (fun r21 s22 hf => ?_)
          refine at_istore hO (lv' := [(9, vi r21), (8, vi r19), (7, vi (max p3 p4)), (6, vi (min p3 p4)), (0, vr G 0), (1, vi p1), (2, vi p2), (3, vi p3), (4, vi p4), (5, vi p5)]) (Nat.le_of_ble_eq_true rfl) rfl dX8_cost_97 99 rfl ?_
          refine at_iload hO 9 rfl dX8_cost_99 101 rfl ?_
          obtain ⟨h23, hf⟩ := chk_some hf
          refine at_if_ne hO h23 dX8_cost_101 112 rfl 104 rfl hf (fun hf => ?_) (fun hf => ?_)
          · refine at_iload hO 9 rfl dX8_cost_112 114 rfl ?_
            refine at_iconst hO dX8_cost_114 115 rfl ?_
            refine at_icmp_ne hO h23 (by decide) dX8_cost_115 123 rfl 118 rfl hf (fun hf => ?_) (fun hf => ?_)
            · refine at_iload hO 0 rfl dX8_cost_123 125 rfl ?_
              exact at_ireturn hO dX8_cost_125 hf
            · refine at_iload hO 1 rfl dX8_cost_118 120 rfl ?_
              refine at_goto hO dX8_cost_120 125 rfl ?_
              exact at_ireturn hO dX8_cost_125 hf
          · refine at_iload hO 1 rfl dX8_cost_104 106 rfl ?_
            refine at_iload hO 0 rfl dX8_cost_106 108 rfl ?_
            obtain ⟨h24, hf⟩ := chk_some hf
            obtain ⟨h25, hf⟩ := chk_some hf
            refine at_mmin hO h24 h25 lk_X8_172 ⟨(Nat.le_of_ble_eq_true rfl), (Nat.le_of_ble_eq_true rfl)⟩ dX8_cost_108 111 rfl ?_
            exact at_ireturn hO dX8_cost_111 hf
        · refine at_bipush hO (by decide) dX8_cost_34 36 rfl ?_
          exact at_ireturn hO dX8_cost_36 hf

def f_X8_closed (s : St) (p1 p2 : Int) : Option Rt := cll (f_X8_inside s p1 3) (fun r1 s2 => chk (in32 r1) ((if r1 = 0 then some ((-2), s2) else cll (f_X8_isYard s2 p2) (fun r4 s5 => chk (in32 r4) ((if r4 = 0 then some ((-2), s5) else cll (f_X6_refresh s5) (fun _ s8 => cll (f_X6_closedDays s8 p1 p2) (fun r9 s10 => some (r9, s10)))))))))
set_option maxRecDepth 100000 in
set_option maxHeartbeats 4000000 in
theorem c_X8_closed (l : Launch) (G : Ge) (hG : rr_GD G) (s : St) (p1 p2 : Int) : rr_Ct l G yX8_closed cX8_closed 3 (some .int) 4 87 1 [vr G 0, vi p1, vi p2] s (f_X8_closed s p1 p2) := by
  refine rr_mk (lv := [(0, vr G 0), (1, vi p1), (2, vi p2)]) RX8 (by decide) rfl hG (Nat.le_of_ble_eq_true rfl) rfl ?_
  intro X Z hO hf
  unfold f_X8_closed at hf
  refine at_iload_n hO 1 rfl rfl dX8_closed_0 1 rfl ?_
  refine at_iconst hO dX8_closed_1 2 rfl ?_
  refine at_callS1 (As := [vi p1, vi 3]) (st := []) hO (c_X8_inside _ G hO.g s p1 3) mb_X8_inside ms_X8_inside lk_X8_89 rfl ⟨(Nat.le_of_ble_eq_true rfl), (Nat.le_of_ble_eq_true rfl)⟩ (Nat.le_of_ble_eq_true rfl) rfl dX8_closed_2 5 rfl hf (fun r1 s2 hf => ?_)
  obtain ⟨h3, hf⟩ := chk_some hf
  refine at_if_eq hO h3 dX8_closed_5 16 rfl 8 rfl hf (fun hf => ?_) (fun hf => ?_)
  · refine at_bipush hO (by decide) dX8_closed_16 18 rfl ?_
    exact at_ireturn hO dX8_closed_18 hf
  · refine at_aload_n hO 0 rfl rfl dX8_closed_8 9 rfl ?_
    refine at_iload_n hO 2 rfl rfl dX8_closed_9 10 rfl ?_
    refine at_callV1 (As := [vi p2]) (st := []) hO (c_X8_isYard _ G hO.g s2 p2) mb_X8_isYard mi_X8_isYard lk_X8_116 rfl ⟨_, rfl, rfl⟩ rfl ⟨(Nat.le_of_ble_eq_true rfl), (Nat.le_of_ble_eq_true rfl)⟩ (Nat.le_of_ble_eq_true rfl) rfl dX8_closed_10 13 rfl hf (fun r4 s5 hf => ?_)
    obtain ⟨h6, hf⟩ := chk_some hf
    refine at_if_ne hO h6 dX8_closed_13 19 rfl 16 rfl hf (fun hf => ?_) (fun hf => ?_)
    · refine at_aload_n hO 0 rfl rfl dX8_closed_19 20 rfl ?_
      refine at_getR hO fl_X8_34 rfl rfl dX8_closed_20 23 rfl ?_
      refine at_callV0 (As := []) (st := []) hO (c_X6_refresh _ G hO.g s5 ) mb_X6_refresh mi_X6_refresh lk_X8_127 rfl ⟨_, rfl, rfl⟩ rfl ⟨(Nat.le_of_ble_eq_true rfl), (Nat.le_of_ble_eq_true rfl)⟩ (Nat.le_of_ble_eq_true rfl) rfl dX8_closed_23 26 rfl hf (fun r7 s8 hf => ?_)
      refine at_aload_n hO 0 rfl rfl dX8_closed_26 27 rfl ?_
      refine at_getR hO fl_X8_34 rfl rfl dX8_closed_27 30 rfl ?_
      refine at_iload_n hO 1 rfl rfl dX8_closed_30 31 rfl ?_
      refine at_iload_n hO 2 rfl rfl dX8_closed_31 32 rfl ?_
      refine at_callV1 (As := [vi p1, vi p2]) (st := []) hO (c_X6_closedDays _ G hO.g s8 p1 p2) mb_X6_closedDays mi_X6_closedDays lk_X8_188 rfl ⟨_, rfl, rfl⟩ rfl ⟨(Nat.le_of_ble_eq_true rfl), (Nat.le_of_ble_eq_true rfl)⟩ (Nat.le_of_ble_eq_true rfl) rfl dX8_closed_32 35 rfl hf (fun r9 s10 hf => ?_)
      exact at_ireturn hO dX8_closed_35 hf
    · refine at_bipush hO (by decide) dX8_closed_16 18 rfl ?_
      exact at_ireturn hO dX8_closed_18 hf

def f_J6_bitCount_0f7a4 (s : St) (p1 : Int) : Option Rt := some ((andZ (((andZ (((andZ (p1 - (andZ (ushrZ p1 1) 1431655765)) 858993459) + (andZ (ushrZ (p1 - (andZ (ushrZ p1 1) 1431655765)) 2) 858993459)) + (ushrZ ((andZ (p1 - (andZ (ushrZ p1 1) 1431655765)) 858993459) + (andZ (ushrZ (p1 - (andZ (ushrZ p1 1) 1431655765)) 2) 858993459)) 4)) 252645135) + (ushrZ (andZ (((andZ (p1 - (andZ (ushrZ p1 1) 1431655765)) 858993459) + (andZ (ushrZ (p1 - (andZ (ushrZ p1 1) 1431655765)) 2) 858993459)) + (ushrZ ((andZ (p1 - (andZ (ushrZ p1 1) 1431655765)) 858993459) + (andZ (ushrZ (p1 - (andZ (ushrZ p1 1) 1431655765)) 2) 858993459)) 4)) 252645135) 8)) + (ushrZ ((andZ (((andZ (p1 - (andZ (ushrZ p1 1) 1431655765)) 858993459) + (andZ (ushrZ (p1 - (andZ (ushrZ p1 1) 1431655765)) 2) 858993459)) + (ushrZ ((andZ (p1 - (andZ (ushrZ p1 1) 1431655765)) 858993459) + (andZ (ushrZ (p1 - (andZ (ushrZ p1 1) 1431655765)) 2) 858993459)) 4)) 252645135) + (ushrZ (andZ (((andZ (p1 - (andZ (ushrZ p1 1) 1431655765)) 858993459) + (andZ (ushrZ (p1 - (andZ (ushrZ p1 1) 1431655765)) 2) 858993459)) + (ushrZ ((andZ (p1 - (andZ (ushrZ p1 1) 1431655765)) 858993459) + (andZ (ushrZ (p1 - (andZ (ushrZ p1 1) 1431655765)) 2) 858993459)) 4)) 252645135) 8)) 16)) 63), s)
set_option maxRecDepth 100000 in
set_option maxHeartbeats 4000000 in
theorem c_J6_bitCount_0f7a4 (l : Launch) (G : Ge) (hG : rr_GD G) (s : St) (p1 : Int) : rr_Ct l G yJ6_bitCount_0f7a4 cJ6_bitCount_0f7a4 1 (some .int) 0 0 1 [vi p1] s (f_J6_bitCount_0f7a4 s p1) := by
  refine rr_mk (lv := [(0, vi p1)]) RJ6 (by decide) rfl hG (Nat.le_of_ble_eq_true rfl) rfl ?_
  intro X Z hO hf
  unfold f_J6_bitCount_0f7a4 at hf
  refine at_iload_n hO 0 rfl rfl dJ6_bitCount_0f7a4_0 1 rfl ?_
  refine at_iload_n hO 0 rfl rfl dJ6_bitCount_0f7a4_1 2 rfl ?_
  refine at_iconst hO dJ6_bitCount_0f7a4_2 3 rfl ?_
  refine at_iushr hO dJ6_bitCount_0f7a4_3 4 rfl ?_
  refine at_ldc_w (n := 1431655765) hO lc_J6_265 (by decide) dJ6_bitCount_0f7a4_4 7 rfl ?_
  refine at_iand hO dJ6_bitCount_0f7a4_7 8 rfl ?_
  refine at_isub hO dJ6_bitCount_0f7a4_8 9 rfl ?_
  refine at_istore_n hO (lv' := [(0, vi (p1 - (andZ (ushrZ p1 1) 1431655765)))]) rfl (Nat.le_of_ble_eq_true rfl) rfl dJ6_bitCount_0f7a4_9 10 rfl ?_
  refine at_iload_n hO 0 rfl rfl dJ6_bitCount_0f7a4_10 11 rfl ?_
  refine at_ldc_w (n := 858993459) hO lc_J6_266 (by decide) dJ6_bitCount_0f7a4_11 14 rfl ?_
  refine at_iand hO dJ6_bitCount_0f7a4_14 15 rfl ?_
  refine at_iload_n hO 0 rfl rfl dJ6_bitCount_0f7a4_15 16 rfl ?_
  refine at_iconst hO dJ6_bitCount_0f7a4_16 17 rfl ?_
  refine at_iushr hO dJ6_bitCount_0f7a4_17 18 rfl ?_
  refine at_ldc_w (n := 858993459) hO lc_J6_266 (by decide) dJ6_bitCount_0f7a4_18 21 rfl ?_
  refine at_iand hO dJ6_bitCount_0f7a4_21 22 rfl ?_
  refine at_iadd hO dJ6_bitCount_0f7a4_22 23 rfl ?_
  refine at_istore_n hO (lv' := [(0, vi ((andZ (p1 - (andZ (ushrZ p1 1) 1431655765)) 858993459) + (andZ (ushrZ (p1 - (andZ (ushrZ p1 1) 1431655765)) 2) 858993459)))]) rfl (Nat.le_of_ble_eq_true rfl) rfl dJ6_bitCount_0f7a4_23 24 rfl ?_
  refine at_iload_n hO 0 rfl rfl dJ6_bitCount_0f7a4_24 25 rfl ?_
  refine at_iload_n hO 0 rfl rfl dJ6_bitCount_0f7a4_25 26 rfl ?_
  refine at_iconst hO dJ6_bitCount_0f7a4_26 27 rfl ?_
  refine at_iushr hO dJ6_bitCount_0f7a4_27 28 rfl ?_
  refine at_iadd hO dJ6_bitCount_0f7a4_28 29 rfl ?_
  refine at_ldc_w (n := 252645135) hO lc_J6_267 (by decide) dJ6_bitCount_0f7a4_29 32 rfl ?_
  refine at_iand hO dJ6_bitCount_0f7a4_32 33 rfl ?_
  refine at_istore_n hO (lv' := [(0, vi (andZ (((andZ (p1 - (andZ (ushrZ p1 1) 1431655765)) 858993459) + (andZ (ushrZ (p1 - (andZ (ushrZ p1 1) 1431655765)) 2) 858993459)) + (ushrZ ((andZ (p1 - (andZ (ushrZ p1 1) 1431655765)) 858993459) + (andZ (ushrZ (p1 - (andZ (ushrZ p1 1) 1431655765)) 2) 858993459)) 4)) 252645135))]) rfl (Nat.le_of_ble_eq_true rfl) rfl dJ6_bitCount_0f7a4_33 34 rfl ?_
  refine at_iload_n hO 0 rfl rfl dJ6_bitCount_0f7a4_34 35 rfl ?_
  refine at_iload_n hO 0 rfl rfl dJ6_bitCount_0f7a4_35 36 rfl ?_
  refine at_bipush hO (by decide) dJ6_bitCount_0f7a4_36 38 rfl ?_
  refine at_iushr hO dJ6_bitCount_0f7a4_38 39 rfl ?_
  refine at_iadd hO dJ6_bitCount_0f7a4_39 40 rfl ?_
  refine at_istore_n hO (lv' := [(0, vi ((andZ (((andZ (p1 - (andZ (ushrZ p1 1) 1431655765)) 858993459) + (andZ (ushrZ (p1 - (andZ (ushrZ p1 1) 1431655765)) 2) 858993459)) + (ushrZ ((andZ (p1 - (andZ (ushrZ p1 1) 1431655765)) 858993459) + (andZ (ushrZ (p1 - (andZ (ushrZ p1 1) 1431655765)) 2) 858993459)) 4)) 252645135) + (ushrZ (andZ (((andZ (p1 - (andZ (ushrZ p1 1) 1431655765)) 858993459) + (andZ (ushrZ (p1 - (andZ (ushrZ p1 1) 1431655765)) 2) 858993459)) + (ushrZ ((andZ (p1 - (andZ (ushrZ p1 1) 1431655765)) 858993459) + (andZ (ushrZ (p1 - (andZ (ushrZ p1 1) 1431655765)) 2) 858993459)) 4)) 252645135) 8)))]) rfl (Nat.le_of_ble_eq_true rfl) rfl dJ6_bitCount_0f7a4_40 41 rfl ?_
  refine at_iload_n hO 0 rfl rfl dJ6_bitCount_0f7a4_41 42 rfl ?_
  refine at_iload_n hO 0 rfl rfl dJ6_bitCount_0f7a4_42 43 rfl ?_
  refine at_bipush hO (by decide) dJ6_bitCount_0f7a4_43 45 rfl ?_
  refine at_iushr hO dJ6_bitCount_0f7a4_45 46 rfl ?_
  refine at_iadd hO dJ6_bitCount_0f7a4_46 47 rfl ?_
  refine at_istore_n hO (lv' := [(0, vi (((andZ (((andZ (p1 - (andZ (ushrZ p1 1) 1431655765)) 858993459) + (andZ (ushrZ (p1 - (andZ (ushrZ p1 1) 1431655765)) 2) 858993459)) + (ushrZ ((andZ (p1 - (andZ (ushrZ p1 1) 1431655765)) 858993459) + (andZ (ushrZ (p1 - (andZ (ushrZ p1 1) 1431655765)) 2) 858993459)) 4)) 252645135) + (ushrZ (andZ (((andZ (p1 - (andZ (ushrZ p1 1) 1431655765)) 858993459) + (andZ (ushrZ (p1 - (andZ (ushrZ p1 1) 1431655765)) 2) 858993459)) + (ushrZ ((andZ (p1 - (andZ (ushrZ p1 1) 1431655765)) 858993459) + (andZ (ushrZ (p1 - (andZ (ushrZ p1 1) 1431655765)) 2) 858993459)) 4)) 252645135) 8)) + (ushrZ ((andZ (((andZ (p1 - (andZ (ushrZ p1 1) 1431655765)) 858993459) + (andZ (ushrZ (p1 - (andZ (ushrZ p1 1) 1431655765)) 2) 858993459)) + (ushrZ ((andZ (p1 - (andZ (ushrZ p1 1) 1431655765)) 858993459) + (andZ (ushrZ (p1 - (andZ (ushrZ p1 1) 1431655765)) 2) 858993459)) 4)) 252645135) + (ushrZ (andZ (((andZ (p1 - (andZ (ushrZ p1 1) 1431655765)) 858993459) + (andZ (ushrZ (p1 - (andZ (ushrZ p1 1) 1431655765)) 2) 858993459)) + (ushrZ ((andZ (p1 - (andZ (ushrZ p1 1) 1431655765)) 858993459) + (andZ (ushrZ (p1 - (andZ (ushrZ p1 1) 1431655765)) 2) 858993459)) 4)) 252645135) 8)) 16)))]) rfl (Nat.le_of_ble_eq_true rfl) rfl dJ6_bitCount_0f7a4_47 48 rfl ?_
  refine at_iload_n hO 0 rfl rfl dJ6_bitCount_0f7a4_48 49 rfl ?_
  refine at_bipush hO (by decide) dJ6_bitCount_0f7a4_49 51 rfl ?_
  refine at_iand hO dJ6_bitCount_0f7a4_51 52 rfl ?_
  exact at_ireturn hO dJ6_bitCount_0f7a4_52 hf

def S_X8_deed_34 (rec34 : St → Int → Int → Int → Int → Int → Option Rt) (s : St) (v1 v2 v3 v4 v5 : Int) : Option Rt := chk (in32 v5) ((if 30 ≤ v5 then chk (in32 v2) ((if v2 = 0 then some (v3, s) else (if v2 = 1 then some (v4, s) else some ((((s 10 4) * v3) - ((s 10 5) * v4)), s)))) else cll (f_X6_wetYards s v1 v5) (fun r3 s4 => cll (f_J6_bitCount_0f7a4 s4 r3) (fun r5 s6 => chk (in32 r3) ((if r3 = 0 then rec34 s6 v1 v2 (v3 + r5) (v4 + 0) (v5 + 1) else rec34 s6 v1 v2 (v3 + r5) (v4 + 1) (v5 + 1)))))))
def L_X8_deed_34 : Nat → St → Int → Int → Int → Int → Int → Option Rt
  | 0, _, _, _, _, _, _ => none
  | n + 1, s, v1, v2, v3, v4, v5 => S_X8_deed_34 (L_X8_deed_34 n) s v1 v2 v3 v4 v5
set_option maxRecDepth 100000 in
set_option maxHeartbeats 4000000 in
theorem wS_X8_deed_34 {X : CX} {G : Ge} {Z : Rt} {rec34 : St → Int → Int → Int → Int → Int → Option Rt} (hO : rr_OK X G cX8_deed 7 RX8 (some .int) 4 87) (hrec34 : ∀ (s : St) (v1 v2 v3 v4 v5 : Int), rec34 s v1 v2 v3 v4 v5 = some Z → rr_AT X G 7 1 Z 34 [(0, vr G 0), (1, vi v1), (2, vi v2), (3, vi v3), (4, vi v4), (5, vi v5)] [] s) (s : St) (v1 v2 v3 v4 v5 : Int) (hf : S_X8_deed_34 rec34 s v1 v2 v3 v4 v5 = some Z) : rr_AT X G 7 1 Z 34 [(0, vr G 0), (1, vi v1), (2, vi v2), (3, vi v3), (4, vi v4), (5, vi v5)] [] s := by
  unfold S_X8_deed_34 at hf
  refine at_iload hO 5 rfl dX8_deed_34 36 rfl ?_
  refine at_bipush hO (by decide) dX8_deed_36 38 rfl ?_
  obtain ⟨h1, hf⟩ := chk_some hf
  refine at_icmp_ge hO h1 (by decide) dX8_deed_38 82 rfl 41 rfl hf (fun hf => ?_) (fun hf => ?_)
  · refine at_iload_n hO 2 rfl rfl dX8_deed_82 83 rfl ?_
    obtain ⟨h2, hf⟩ := chk_some hf
    refine at_if_ne hO h2 dX8_deed_83 88 rfl 86 rfl hf (fun hf => ?_) (fun hf => ?_)
    · refine at_iload_n hO 2 rfl rfl dX8_deed_88 89 rfl ?_
      refine at_iconst hO dX8_deed_89 90 rfl ?_
      refine at_icmp_ne hO h2 (by decide) dX8_deed_90 98 rfl 93 rfl hf (fun hf => ?_) (fun hf => ?_)
      · refine at_aload_n hO 0 rfl rfl dX8_deed_98 99 rfl ?_
        refine at_getR hO fl_X8_15 rfl rfl dX8_deed_99 102 rfl ?_
        refine at_iconst hO dX8_deed_102 103 rfl ?_
        refine at_iaload hO rfl (Nat.le_of_ble_eq_true rfl) (by decide) (4) rfl dX8_deed_103 104 rfl ?_
        refine at_iload_n hO 3 rfl rfl dX8_deed_104 105 rfl ?_
        refine at_imul hO dX8_deed_105 106 rfl ?_
        refine at_aload_n hO 0 rfl rfl dX8_deed_106 107 rfl ?_
        refine at_getR hO fl_X8_15 rfl rfl dX8_deed_107 110 rfl ?_
        refine at_iconst hO dX8_deed_110 111 rfl ?_
        refine at_iaload hO rfl (Nat.le_of_ble_eq_true rfl) (by decide) (5) rfl dX8_deed_111 112 rfl ?_
        refine at_iload hO 4 rfl dX8_deed_112 114 rfl ?_
        refine at_imul hO dX8_deed_114 115 rfl ?_
        refine at_isub hO dX8_deed_115 116 rfl ?_
        exact at_ireturn hO dX8_deed_116 hf
      · refine at_iload hO 4 rfl dX8_deed_93 95 rfl ?_
        refine at_goto hO dX8_deed_95 116 rfl ?_
        exact at_ireturn hO dX8_deed_116 hf
    · refine at_iload_n hO 3 rfl rfl dX8_deed_86 87 rfl ?_
      exact at_ireturn hO dX8_deed_87 hf
  · refine at_aload_n hO 0 rfl rfl dX8_deed_41 42 rfl ?_
    refine at_getR hO fl_X8_34 rfl rfl dX8_deed_42 45 rfl ?_
    refine at_iload_n hO 1 rfl rfl dX8_deed_45 46 rfl ?_
    refine at_iload hO 5 rfl dX8_deed_46 48 rfl ?_
    refine at_callV1 (As := [vi v1, vi v5]) (st := []) hO (c_X6_wetYards _ G hO.g s v1 v5) mb_X6_wetYards mi_X6_wetYards lk_X8_166 rfl ⟨_, rfl, rfl⟩ rfl ⟨(Nat.le_of_ble_eq_true rfl), (Nat.le_of_ble_eq_true rfl)⟩ (Nat.le_of_ble_eq_true rfl) rfl dX8_deed_48 51 rfl hf (fun r3 s4 hf => ?_)
    refine at_istore hO (lv' := [(6, vi r3), (0, vr G 0), (1, vi v1), (2, vi v2), (3, vi v3), (4, vi v4), (5, vi v5)]) (Nat.le_of_ble_eq_true rfl) rfl dX8_deed_51 53 rfl ?_
    refine at_iload_n hO 4 rfl rfl dX8_deed_53 54 rfl ?_
    refine at_iload hO 0 rfl dX8_deed_54 56 rfl ?_
    refine at_callS1 (As := [vi r3]) (st := [vi v3]) hO (c_J6_bitCount_0f7a4 _ G hO.g s4 r3) mb_J6_bitCount_0f7a4 ms_J6_bitCount_0f7a4 lk_X8_192 rfl ⟨(Nat.le_of_ble_eq_true rfl), (Nat.le_of_ble_eq_true rfl)⟩ (Nat.le_of_ble_eq_true rfl) rfl dX8_deed_56 59 rfl hf (fun r5 s6 hf => ?_)
    refine at_iadd hO dX8_deed_59 60 rfl ?_
    refine at_istore_n hO (lv' := [(3, vi (v3 + r5)), (6, vi r3), (0, vr G 0), (1, vi v1), (2, vi v2), (4, vi v4), (5, vi v5)]) rfl (Nat.le_of_ble_eq_true rfl) rfl dX8_deed_60 61 rfl ?_
    refine at_iload hO 5 rfl dX8_deed_61 63 rfl ?_
    refine at_iload hO 1 rfl dX8_deed_63 65 rfl ?_
    obtain ⟨h7, hf⟩ := chk_some hf
    refine at_if_ne hO h7 dX8_deed_65 72 rfl 68 rfl hf (fun hf => ?_) (fun hf => ?_)
    · refine at_iconst hO dX8_deed_72 73 rfl ?_
      refine at_iadd hO dX8_deed_73 74 rfl ?_
      refine at_istore hO (lv' := [(4, vi (v4 + 1)), (3, vi (v3 + r5)), (6, vi r3), (0, vr G 0), (1, vi v1), (2, vi v2), (5, vi v5)]) (Nat.le_of_ble_eq_true rfl) rfl dX8_deed_74 76 rfl ?_
      refine at_iinc hO (lv' := [(5, vi (v5 + 1)), (4, vi (v4 + 1)), (3, vi (v3 + r5)), (6, vi r3), (0, vr G 0), (1, vi v1), (2, vi v2)]) 6 rfl (Nat.le_of_ble_eq_true rfl) rfl dX8_deed_76 79 rfl ?_
      refine at_goto hO dX8_deed_79 34 rfl ?_
      exact at_sub (fun ls h => lv_sub h [4, 5, 6, 2, 1, 0] rfl) (hrec34 s6 v1 v2 (v3 + r5) (v4 + 1) (v5 + 1) hf)
    · refine at_iconst hO dX8_deed_68 69 rfl ?_
      refine at_goto hO dX8_deed_69 73 rfl ?_
      refine at_iadd hO dX8_deed_73 74 rfl ?_
      refine at_istore hO (lv' := [(4, vi (v4 + 0)), (3, vi (v3 + r5)), (6, vi r3), (0, vr G 0), (1, vi v1), (2, vi v2), (5, vi v5)]) (Nat.le_of_ble_eq_true rfl) rfl dX8_deed_74 76 rfl ?_
      refine at_iinc hO (lv' := [(5, vi (v5 + 1)), (4, vi (v4 + 0)), (3, vi (v3 + r5)), (6, vi r3), (0, vr G 0), (1, vi v1), (2, vi v2)]) 6 rfl (Nat.le_of_ble_eq_true rfl) rfl dX8_deed_76 79 rfl ?_
      refine at_goto hO dX8_deed_79 34 rfl ?_
      exact at_sub (fun ls h => lv_sub h [4, 5, 6, 2, 1, 0] rfl) (hrec34 s6 v1 v2 (v3 + r5) (v4 + 0) (v5 + 1) hf)
theorem wL_X8_deed_34 {X : CX} {G : Ge} {Z : Rt} (hO : rr_OK X G cX8_deed 7 RX8 (some .int) 4 87) : ∀ (n : Nat) (s : St) (v1 v2 v3 v4 v5 : Int), L_X8_deed_34 n s v1 v2 v3 v4 v5 = some Z → rr_AT X G 7 1 Z 34 [(0, vr G 0), (1, vi v1), (2, vi v2), (3, vi v3), (4, vi v4), (5, vi v5)] [] s := by
  intro n
  induction n with
  | zero =>
    intro s v1 v2 v3 v4 v5 hf
    cases hf
  | succ n ih =>
    intro s v1 v2 v3 v4 v5 hf
    exact wS_X8_deed_34 hO ih s v1 v2 v3 v4 v5 hf
def f_X8_deed (s : St) (p1 p2 : Int) : Option Rt := cll (f_X8_inside s p1 3) (fun r1 s2 => chk (in32 r1) ((if r1 = 0 then some ((-100002), s2) else cll (f_X8_inside s2 p2 3) (fun r4 s5 => chk (in32 r4) ((if r4 = 0 then some ((-100002), s5) else cll (f_X6_refresh s5) (fun _ s8 => L_X8_deed_34 FU s8 p1 p2 0 0 0)))))))
set_option maxRecDepth 100000 in
set_option maxHeartbeats 4000000 in
theorem c_X8_deed (l : Launch) (G : Ge) (hG : rr_GD G) (s : St) (p1 p2 : Int) : rr_Ct l G yX8_deed cX8_deed 7 (some .int) 4 87 1 [vr G 0, vi p1, vi p2] s (f_X8_deed s p1 p2) := by
  refine rr_mk (lv := [(0, vr G 0), (1, vi p1), (2, vi p2)]) RX8 (by decide) rfl hG (Nat.le_of_ble_eq_true rfl) rfl ?_
  intro X Z hO hf
  unfold f_X8_deed at hf
  refine at_iload_n hO 1 rfl rfl dX8_deed_0 1 rfl ?_
  refine at_iconst hO dX8_deed_1 2 rfl ?_
  refine at_callS1 (As := [vi p1, vi 3]) (st := []) hO (c_X8_inside _ G hO.g s p1 3) mb_X8_inside ms_X8_inside lk_X8_89 rfl ⟨(Nat.le_of_ble_eq_true rfl), (Nat.le_of_ble_eq_true rfl)⟩ (Nat.le_of_ble_eq_true rfl) rfl dX8_deed_2 5 rfl hf (fun r1 s2 hf => ?_)
  obtain ⟨h3, hf⟩ := chk_some hf
  refine at_if_eq hO h3 dX8_deed_5 16 rfl 8 rfl hf (fun hf => ?_) (fun hf => ?_)
  · refine at_ldc (n := (-100002)) hO lc_X8_191 (by decide) dX8_deed_16 18 rfl ?_
    exact at_ireturn hO dX8_deed_18 hf
  · refine at_iload_n hO 2 rfl rfl dX8_deed_8 9 rfl ?_
    refine at_iconst hO dX8_deed_9 10 rfl ?_
    refine at_callS1 (As := [vi p2, vi 3]) (st := []) hO (c_X8_inside _ G hO.g s2 p2 3) mb_X8_inside ms_X8_inside lk_X8_89 rfl ⟨(Nat.le_of_ble_eq_true rfl), (Nat.le_of_ble_eq_true rfl)⟩ (Nat.le_of_ble_eq_true rfl) rfl dX8_deed_10 13 rfl hf (fun r4 s5 hf => ?_)
    obtain ⟨h6, hf⟩ := chk_some hf
    refine at_if_ne hO h6 dX8_deed_13 19 rfl 16 rfl hf (fun hf => ?_) (fun hf => ?_)
    · refine at_aload_n hO 0 rfl rfl dX8_deed_19 20 rfl ?_
      refine at_getR hO fl_X8_34 rfl rfl dX8_deed_20 23 rfl ?_
      refine at_callV0 (As := []) (st := []) hO (c_X6_refresh _ G hO.g s5 ) mb_X6_refresh mi_X6_refresh lk_X8_127 rfl ⟨_, rfl, rfl⟩ rfl ⟨(Nat.le_of_ble_eq_true rfl), (Nat.le_of_ble_eq_true rfl)⟩ (Nat.le_of_ble_eq_true rfl) rfl dX8_deed_23 26 rfl hf (fun r7 s8 hf => ?_)
      refine at_iconst hO dX8_deed_26 27 rfl ?_
      refine at_istore_n hO (lv' := [(3, vi 0), (0, vr G 0), (1, vi p1), (2, vi p2)]) rfl (Nat.le_of_ble_eq_true rfl) rfl dX8_deed_27 28 rfl ?_
      refine at_iconst hO dX8_deed_28 29 rfl ?_
      refine at_istore hO (lv' := [(4, vi 0), (3, vi 0), (0, vr G 0), (1, vi p1), (2, vi p2)]) (Nat.le_of_ble_eq_true rfl) rfl dX8_deed_29 31 rfl ?_
      refine at_iconst hO dX8_deed_31 32 rfl ?_
      refine at_istore hO (lv' := [(5, vi 0), (4, vi 0), (3, vi 0), (0, vr G 0), (1, vi p1), (2, vi p2)]) (Nat.le_of_ble_eq_true rfl) rfl dX8_deed_32 34 rfl ?_
      exact at_sub (fun ls h => lv_sub h [3, 4, 5, 2, 1, 0] rfl) (wL_X8_deed_34 hO FU s8 p1 p2 0 0 0 hf)
    · refine at_ldc (n := (-100002)) hO lc_X8_191 (by decide) dX8_deed_16 18 rfl ?_
      exact at_ireturn hO dX8_deed_18 hf

def S_X8_commonDivisor_7 (rec7 : St → Int → Int → Int → Option Rt) (s : St) (v2 v3 v4 : Int) : Option Rt := chk (in32 v4) ((if 100 ≤ v4 then some (v2, s) else chk (in32 v3) ((if v3 = 0 then some (v2, s) else chk ((0 ≤ v2 ∧ in32 v2) ∧ (0 < v3 ∧ in32 v3)) (rec7 s v3 (v2 % v3) (v4 + 1))))))
def L_X8_commonDivisor_7 : Nat → St → Int → Int → Int → Option Rt
  | 0, _, _, _, _ => none
  | n + 1, s, v2, v3, v4 => S_X8_commonDivisor_7 (L_X8_commonDivisor_7 n) s v2 v3 v4
set_option maxRecDepth 100000 in
set_option maxHeartbeats 4000000 in
theorem wS_X8_commonDivisor_7 {X : CX} {G : Ge} {Z : Rt} {rec7 : St → Int → Int → Int → Option Rt} (hO : rr_OK X G cX8_commonDivisor 6 RX8 (some .int) 0 0) (hrec7 : ∀ (s : St) (v2 v3 v4 : Int), rec7 s v2 v3 v4 = some Z → rr_AT X G 6 1 Z 7 [(2, vi v2), (3, vi v3), (4, vi v4)] [] s) (s : St) (v2 v3 v4 : Int) (hf : S_X8_commonDivisor_7 rec7 s v2 v3 v4 = some Z) : rr_AT X G 6 1 Z 7 [(2, vi v2), (3, vi v3), (4, vi v4)] [] s := by
  unfold S_X8_commonDivisor_7 at hf
  refine at_iload hO 2 rfl dX8_commonDivisor_7 9 rfl ?_
  refine at_bipush hO (by decide) dX8_commonDivisor_9 11 rfl ?_
  obtain ⟨h1, hf⟩ := chk_some hf
  refine at_icmp_ge hO h1 (by decide) dX8_commonDivisor_11 34 rfl 14 rfl hf (fun hf => ?_) (fun hf => ?_)
  · refine at_iload_n hO 0 rfl rfl dX8_commonDivisor_34 35 rfl ?_
    exact at_ireturn hO dX8_commonDivisor_35 hf
  · refine at_iload_n hO 1 rfl rfl dX8_commonDivisor_14 15 rfl ?_
    obtain ⟨h2, hf⟩ := chk_some hf
    refine at_if_eq hO h2 dX8_commonDivisor_15 34 rfl 18 rfl hf (fun hf => ?_) (fun hf => ?_)
    · refine at_iload_n hO 0 rfl rfl dX8_commonDivisor_34 35 rfl ?_
      exact at_ireturn hO dX8_commonDivisor_35 hf
    · refine at_iload_n hO 0 rfl rfl dX8_commonDivisor_18 19 rfl ?_
      refine at_iload_n hO 1 rfl rfl dX8_commonDivisor_19 20 rfl ?_
      obtain ⟨h3, hf⟩ := chk_some hf
      refine at_irem hO h3.1.1 h3.1.2 h3.2.1 h3.2.2 dX8_commonDivisor_20 21 rfl ?_
      refine at_istore hO (lv' := [(5, vi (v2 % v3)), (2, vi v2), (3, vi v3), (4, vi v4)]) (Nat.le_of_ble_eq_true rfl) rfl dX8_commonDivisor_21 23 rfl ?_
      refine at_iload_n hO 2 rfl rfl dX8_commonDivisor_23 24 rfl ?_
      refine at_istore_n hO (lv' := [(2, vi v3), (5, vi (v2 % v3)), (3, vi v3), (4, vi v4)]) rfl (Nat.le_of_ble_eq_true rfl) rfl dX8_commonDivisor_24 25 rfl ?_
      refine at_iload hO 1 rfl dX8_commonDivisor_25 27 rfl ?_
      refine at_istore_n hO (lv' := [(3, vi (v2 % v3)), (2, vi v3), (5, vi (v2 % v3)), (4, vi v4)]) rfl (Nat.le_of_ble_eq_true rfl) rfl dX8_commonDivisor_27 28 rfl ?_
      refine at_iinc hO (lv' := [(4, vi (v4 + 1)), (3, vi (v2 % v3)), (2, vi v3), (5, vi (v2 % v3))]) 3 rfl (Nat.le_of_ble_eq_true rfl) rfl dX8_commonDivisor_28 31 rfl ?_
      refine at_goto hO dX8_commonDivisor_31 7 rfl ?_
      exact at_sub (fun ls h => lv_sub h [2, 1, 0] rfl) (hrec7 s v3 (v2 % v3) (v4 + 1) hf)
theorem wL_X8_commonDivisor_7 {X : CX} {G : Ge} {Z : Rt} (hO : rr_OK X G cX8_commonDivisor 6 RX8 (some .int) 0 0) : ∀ (n : Nat) (s : St) (v2 v3 v4 : Int), L_X8_commonDivisor_7 n s v2 v3 v4 = some Z → rr_AT X G 6 1 Z 7 [(2, vi v2), (3, vi v3), (4, vi v4)] [] s := by
  intro n
  induction n with
  | zero =>
    intro s v2 v3 v4 hf
    cases hf
  | succ n ih =>
    intro s v2 v3 v4 hf
    exact wS_X8_commonDivisor_7 hO ih s v2 v3 v4 hf
def f_X8_commonDivisor (s : St) (p1 p2 : Int) : Option Rt := L_X8_commonDivisor_7 FU s p1 p2 0
set_option maxRecDepth 100000 in
set_option maxHeartbeats 4000000 in
theorem c_X8_commonDivisor (l : Launch) (G : Ge) (hG : rr_GD G) (s : St) (p1 p2 : Int) : rr_Ct l G yX8_commonDivisor cX8_commonDivisor 6 (some .int) 0 0 1 [vi p1, vi p2] s (f_X8_commonDivisor s p1 p2) := by
  refine rr_mk (lv := [(0, vi p1), (1, vi p2)]) RX8 (by decide) rfl hG (Nat.le_of_ble_eq_true rfl) rfl ?_
  intro X Z hO hf
  unfold f_X8_commonDivisor at hf
  refine at_iload_n hO 0 rfl rfl dX8_commonDivisor_0 1 rfl ?_
  refine at_istore_n hO (lv' := [(2, vi p1), (0, vi p1), (1, vi p2)]) rfl (Nat.le_of_ble_eq_true rfl) rfl dX8_commonDivisor_1 2 rfl ?_
  refine at_iload_n hO 2 rfl rfl dX8_commonDivisor_2 3 rfl ?_
  refine at_istore_n hO (lv' := [(3, vi p2), (2, vi p1), (0, vi p1), (1, vi p2)]) rfl (Nat.le_of_ble_eq_true rfl) rfl dX8_commonDivisor_3 4 rfl ?_
  refine at_iconst hO dX8_commonDivisor_4 5 rfl ?_
  refine at_istore hO (lv' := [(4, vi 0), (3, vi p2), (2, vi p1), (0, vi p1), (1, vi p2)]) (Nat.le_of_ble_eq_true rfl) rfl dX8_commonDivisor_5 7 rfl ?_
  exact at_sub (fun ls h => lv_sub h [2, 1, 0] rfl) (wL_X8_commonDivisor_7 hO FU s p1 p2 0 hf)

def f_X8_fractionPart (s : St) (p1 p2 p3 : Int) : Option Rt := cll (f_X8_commonDivisor s p1 p2) (fun r1 s2 => chk (in32 r1) ((if r1 = 0 then chk (in32 p3) ((if p3 = 0 then some (0, s2) else some (1, s2))) else chk (in32 p3) ((if p3 = 0 then chk ((0 ≤ p1 ∧ in32 p1) ∧ (0 < r1 ∧ in32 r1)) (chk (in32 (p1 / r1)) (some ((p1 / r1), s2))) else chk ((0 ≤ p2 ∧ in32 p2) ∧ (0 < r1 ∧ in32 r1)) (chk (in32 (p2 / r1)) (some ((p2 / r1), s2))))))))
set_option maxRecDepth 100000 in
set_option maxHeartbeats 4000000 in
theorem c_X8_fractionPart (l : Launch) (G : Ge) (hG : rr_GD G) (s : St) (p1 p2 p3 : Int) : rr_Ct l G yX8_fractionPart cX8_fractionPart 4 (some .long) 1 25 2 [vi p1, vi p2, vi p3] s (f_X8_fractionPart s p1 p2 p3) := by
  refine rr_mk (lv := [(0, vi p1), (1, vi p2), (2, vi p3)]) RX8 (by decide) rfl hG (Nat.le_of_ble_eq_true rfl) rfl ?_
  intro X Z hO hf
  unfold f_X8_fractionPart at hf
  refine at_iload_n hO 0 rfl rfl dX8_fractionPart_0 1 rfl ?_
  refine at_iload_n hO 1 rfl rfl dX8_fractionPart_1 2 rfl ?_
  refine at_callS1 (As := [vi p1, vi p2]) (st := []) hO (c_X8_commonDivisor _ G hO.g s p1 p2) mb_X8_commonDivisor ms_X8_commonDivisor lk_X8_362 rfl ⟨(Nat.le_of_ble_eq_true rfl), (Nat.le_of_ble_eq_true rfl)⟩ (Nat.le_of_ble_eq_true rfl) rfl dX8_fractionPart_2 5 rfl hf (fun r1 s2 hf => ?_)
  refine at_istore_n hO (lv' := [(3, vi r1), (0, vi p1), (1, vi p2), (2, vi p3)]) rfl (Nat.le_of_ble_eq_true rfl) rfl dX8_fractionPart_5 6 rfl ?_
  refine at_iload_n hO 0 rfl rfl dX8_fractionPart_6 7 rfl ?_
  obtain ⟨h3, hf⟩ := chk_some hf
  refine at_if_ne hO h3 dX8_fractionPart_7 20 rfl 10 rfl hf (fun hf => ?_) (fun hf => ?_)
  · refine at_iload_n hO 3 rfl rfl dX8_fractionPart_20 21 rfl ?_
    obtain ⟨h4, hf⟩ := chk_some hf
    refine at_if_ne hO h4 dX8_fractionPart_21 31 rfl 24 rfl hf (fun hf => ?_) (fun hf => ?_)
    · refine at_iload_n hO 2 rfl rfl dX8_fractionPart_31 32 rfl ?_
      refine at_iload_n hO 0 rfl rfl dX8_fractionPart_32 33 rfl ?_
      obtain ⟨h5, hf⟩ := chk_some hf
      refine at_idiv hO h5.1.1 h5.1.2 h5.2.1 h5.2.2 dX8_fractionPart_33 34 rfl ?_
      obtain ⟨h6, hf⟩ := chk_some hf
      refine at_i2l hO h6 dX8_fractionPart_34 35 rfl ?_
      exact at_lreturn hO dX8_fractionPart_35 hf
    · refine at_iload_n hO 1 rfl rfl dX8_fractionPart_24 25 rfl ?_
      refine at_iload_n hO 0 rfl rfl dX8_fractionPart_25 26 rfl ?_
      obtain ⟨h7, hf⟩ := chk_some hf
      refine at_idiv hO h7.1.1 h7.1.2 h7.2.1 h7.2.2 dX8_fractionPart_26 27 rfl ?_
      obtain ⟨h8, hf⟩ := chk_some hf
      refine at_i2l hO h8 dX8_fractionPart_27 28 rfl ?_
      refine at_goto hO dX8_fractionPart_28 35 rfl ?_
      exact at_lreturn hO dX8_fractionPart_35 hf
  · refine at_iload_n hO 3 rfl rfl dX8_fractionPart_10 11 rfl ?_
    obtain ⟨h9, hf⟩ := chk_some hf
    refine at_if_ne hO h9 dX8_fractionPart_11 18 rfl 14 rfl hf (fun hf => ?_) (fun hf => ?_)
    · refine at_lconst (n := 1) hO (by decide) dX8_fractionPart_18 19 rfl ?_
      exact at_lreturn hO dX8_fractionPart_19 hf
    · refine at_lconst (n := 0) hO (by decide) dX8_fractionPart_14 15 rfl ?_
      refine at_goto hO dX8_fractionPart_15 19 rfl ?_
      exact at_lreturn hO dX8_fractionPart_19 hf

def f_X8_waits (s : St) (p1 p2 p3 p4 p5 : Int) : Option Rt := cll (f_X8_isSpringDay s p1 p2) (fun r1 s2 => chk (in32 r1) ((if r1 = 0 then some ((-9223372036854775806), s2) else cll (f_X8_isYard s2 p3) (fun r4 s5 => chk (in32 r4) ((if r4 = 0 then some ((-9223372036854775806), s5) else cll (f_X8_isYard s5 p4) (fun r7 s8 => chk (in32 r7) ((if r7 = 0 then some ((-9223372036854775806), s8) else cll (f_X8_inside s8 p5 2) (fun r10 s11 => chk (in32 r10) ((if r10 = 0 then some ((-9223372036854775806), s11) else cll (f_X6_refresh s11) (fun _ s14 => chk (in32 p3) (chk (in32 p4) (cll (f_X7_reckon s14 p2 (min p3 p4) (max p3 p4)) (fun _ s18 => cll (f_X7_weightOf s18 p1 p2) (fun r19 s20 => chk (in32 r19) ((if r19 = 0 then some ((-9223372036854775805), s20) else cll (f_X7_weightedCost s20 p1) (fun r22 s23 => cll (f_X8_fractionPart s23 r22 r19 p5) (fun r24 s25 => some (r24, s25))))))))))))))))))))))
set_option maxRecDepth 100000 in
set_option maxHeartbeats 4000000 in
theorem c_X8_waits (l : Launch) (G : Ge) (hG : rr_GD G) (s : St) (p1 p2 p3 p4 p5 : Int) : rr_Ct l G yX8_waits cX8_waits 7 (some .long) 4 96 2 [vr G 0, vi p1, vi p2, vi p3, vi p4, vi p5] s (f_X8_waits s p1 p2 p3 p4 p5) := by
  refine rr_mk (lv := [(0, vr G 0), (1, vi p1), (2, vi p2), (3, vi p3), (4, vi p4), (5, vi p5)]) RX8 (by decide) rfl hG (Nat.le_of_ble_eq_true rfl) rfl ?_
  intro X Z hO hf
  unfold f_X8_waits at hf
  refine at_iload_n hO 1 rfl rfl dX8_waits_0 1 rfl ?_
  refine at_iload_n hO 2 rfl rfl dX8_waits_1 2 rfl ?_
  refine at_callS1 (As := [vi p1, vi p2]) (st := []) hO (c_X8_isSpringDay _ G hO.g s p1 p2) mb_X8_isSpringDay ms_X8_isSpringDay lk_X8_124 rfl ⟨(Nat.le_of_ble_eq_true rfl), (Nat.le_of_ble_eq_true rfl)⟩ (Nat.le_of_ble_eq_true rfl) rfl dX8_waits_2 5 rfl hf (fun r1 s2 hf => ?_)
  obtain ⟨h3, hf⟩ := chk_some hf
  refine at_if_eq hO h3 dX8_waits_5 34 rfl 8 rfl hf (fun hf => ?_) (fun hf => ?_)
  · refine at_ldc2_w (n := (-9223372036854775806)) hO lc_X8_197 (by decide) dX8_waits_34 37 rfl ?_
    exact at_lreturn hO dX8_waits_37 hf
  · refine at_aload_n hO 0 rfl rfl dX8_waits_8 9 rfl ?_
    refine at_iload_n hO 3 rfl rfl dX8_waits_9 10 rfl ?_
    refine at_callV1 (As := [vi p3]) (st := []) hO (c_X8_isYard _ G hO.g s2 p3) mb_X8_isYard mi_X8_isYard lk_X8_116 rfl ⟨_, rfl, rfl⟩ rfl ⟨(Nat.le_of_ble_eq_true rfl), (Nat.le_of_ble_eq_true rfl)⟩ (Nat.le_of_ble_eq_true rfl) rfl dX8_waits_10 13 rfl hf (fun r4 s5 hf => ?_)
    obtain ⟨h6, hf⟩ := chk_some hf
    refine at_if_eq hO h6 dX8_waits_13 34 rfl 16 rfl hf (fun hf => ?_) (fun hf => ?_)
    · refine at_ldc2_w (n := (-9223372036854775806)) hO lc_X8_197 (by decide) dX8_waits_34 37 rfl ?_
      exact at_lreturn hO dX8_waits_37 hf
    · refine at_aload_n hO 0 rfl rfl dX8_waits_16 17 rfl ?_
      refine at_iload hO 4 rfl dX8_waits_17 19 rfl ?_
      refine at_callV1 (As := [vi p4]) (st := []) hO (c_X8_isYard _ G hO.g s5 p4) mb_X8_isYard mi_X8_isYard lk_X8_116 rfl ⟨_, rfl, rfl⟩ rfl ⟨(Nat.le_of_ble_eq_true rfl), (Nat.le_of_ble_eq_true rfl)⟩ (Nat.le_of_ble_eq_true rfl) rfl dX8_waits_19 22 rfl hf (fun r7 s8 hf => ?_)
      obtain ⟨h9, hf⟩ := chk_some hf
      refine at_if_eq hO h9 dX8_waits_22 34 rfl 25 rfl hf (fun hf => ?_) (fun hf => ?_)
      · refine at_ldc2_w (n := (-9223372036854775806)) hO lc_X8_197 (by decide) dX8_waits_34 37 rfl ?_
        exact at_lreturn hO dX8_waits_37 hf
      · refine at_iload hO 5 rfl dX8_waits_25 27 rfl ?_
        refine at_iconst hO dX8_waits_27 28 rfl ?_
        refine at_callS1 (As := [vi p5, vi 2]) (st := []) hO (c_X8_inside _ G hO.g s8 p5 2) mb_X8_inside ms_X8_inside lk_X8_89 rfl ⟨(Nat.le_of_ble_eq_true rfl), (Nat.le_of_ble_eq_true rfl)⟩ (Nat.le_of_ble_eq_true rfl) rfl dX8_waits_28 31 rfl hf (fun r10 s11 hf => ?_)
        obtain ⟨h12, hf⟩ := chk_some hf
        refine at_if_ne hO h12 dX8_waits_31 38 rfl 34 rfl hf (fun hf => ?_) (fun hf => ?_)
        · refine at_aload_n hO 0 rfl rfl dX8_waits_38 39 rfl ?_
          refine at_getR hO fl_X8_34 rfl rfl dX8_waits_39 42 rfl ?_
          refine at_callV0 (As := []) (st := []) hO (c_X6_refresh _ G hO.g s11 ) mb_X6_refresh mi_X6_refresh lk_X8_127 rfl ⟨_, rfl, rfl⟩ rfl ⟨(Nat.le_of_ble_eq_true rfl), (Nat.le_of_ble_eq_true rfl)⟩ (Nat.le_of_ble_eq_true rfl) rfl dX8_waits_42 45 rfl hf (fun r13 s14 hf => ?_)
          refine at_aload_n hO 0 rfl rfl dX8_waits_45 46 rfl ?_
          refine at_getR hO fl_X8_43 rfl rfl dX8_waits_46 49 rfl ?_
          refine at_iload_n hO 2 rfl rfl dX8_waits_49 50 rfl ?_
          refine at_iload_n hO 3 rfl rfl dX8_waits_50 51 rfl ?_
          refine at_iload hO 4 rfl dX8_waits_51 53 rfl ?_
          obtain ⟨h15, hf⟩ := chk_some hf
          obtain ⟨h16, hf⟩ := chk_some hf
          refine at_mmin hO h15 h16 lk_X8_172 ⟨(Nat.le_of_ble_eq_true rfl), (Nat.le_of_ble_eq_true rfl)⟩ dX8_waits_53 56 rfl ?_
          refine at_iload_n hO 3 rfl rfl dX8_waits_56 57 rfl ?_
          refine at_iload hO 4 rfl dX8_waits_57 59 rfl ?_
          refine at_mmax hO h15 h16 lk_X8_177 ⟨(Nat.le_of_ble_eq_true rfl), (Nat.le_of_ble_eq_true rfl)⟩ dX8_waits_59 62 rfl ?_
          refine at_callV0 (As := [vi p2, vi (min p3 p4), vi (max p3 p4)]) (st := []) hO (c_X7_reckon _ G hO.g s14 p2 (min p3 p4) (max p3 p4)) mb_X7_reckon mi_X7_reckon lk_X8_199 rfl ⟨_, rfl, rfl⟩ rfl ⟨(Nat.le_of_ble_eq_true rfl), (Nat.le_of_ble_eq_true rfl)⟩ (Nat.le_of_ble_eq_true rfl) rfl dX8_waits_62 65 rfl hf (fun r17 s18 hf => ?_)
          refine at_aload_n hO 0 rfl rfl dX8_waits_65 66 rfl ?_
          refine at_getR hO fl_X8_43 rfl rfl dX8_waits_66 69 rfl ?_
          refine at_iload_n hO 1 rfl rfl dX8_waits_69 70 rfl ?_
          refine at_iload_n hO 2 rfl rfl dX8_waits_70 71 rfl ?_
          refine at_callV1 (As := [vi p1, vi p2]) (st := []) hO (c_X7_weightOf _ G hO.g s18 p1 p2) mb_X7_weightOf mi_X7_weightOf lk_X8_202 rfl ⟨_, rfl, rfl⟩ rfl ⟨(Nat.le_of_ble_eq_true rfl), (Nat.le_of_ble_eq_true rfl)⟩ (Nat.le_of_ble_eq_true rfl) rfl dX8_waits_71 74 rfl hf (fun r19 s20 hf => ?_)
          refine at_istore hO (lv' := [(6, vi r19), (0, vr G 0), (1, vi p1), (2, vi p2), (3, vi p3), (4, vi p4), (5, vi p5)]) (Nat.le_of_ble_eq_true rfl) rfl dX8_waits_74 76 rfl ?_
          refine at_iload hO 0 rfl dX8_waits_76 78 rfl ?_
          obtain ⟨h21, hf⟩ := chk_some hf
          refine at_if_ne hO h21 dX8_waits_78 85 rfl 81 rfl hf (fun hf => ?_) (fun hf => ?_)
          · refine at_aload_n hO 1 rfl rfl dX8_waits_85 86 rfl ?_
            refine at_getR hO fl_X8_43 rfl rfl dX8_waits_86 89 rfl ?_
            refine at_iload_n hO 2 rfl rfl dX8_waits_89 90 rfl ?_
            refine at_callV1 (As := [vi p1]) (st := []) hO (c_X7_weightedCost _ G hO.g s20 p1) mb_X7_weightedCost mi_X7_weightedCost lk_X8_207 rfl ⟨_, rfl, rfl⟩ rfl ⟨(Nat.le_of_ble_eq_true rfl), (Nat.le_of_ble_eq_true rfl)⟩ (Nat.le_of_ble_eq_true rfl) rfl dX8_waits_90 93 rfl hf (fun r22 s23 hf => ?_)
            refine at_iload hO 0 rfl dX8_waits_93 95 rfl ?_
            refine at_iload hO 6 rfl dX8_waits_95 97 rfl ?_
            refine at_callS2 (As := [vi r22, vi r19, vi p5]) (st := []) hO (c_X8_fractionPart _ G hO.g s23 r22 r19 p5) mb_X8_fractionPart ms_X8_fractionPart lk_X8_210 rfl ⟨(Nat.le_of_ble_eq_true rfl), (Nat.le_of_ble_eq_true rfl)⟩ (Nat.le_of_ble_eq_true rfl) rfl dX8_waits_97 100 rfl hf (fun r24 s25 hf => ?_)
            exact at_lreturn hO dX8_waits_100 hf
          · refine at_ldc2_w (n := (-9223372036854775805)) hO lc_X8_205 (by decide) dX8_waits_81 84 rfl ?_
            exact at_lreturn hO dX8_waits_84 hf
        · refine at_ldc2_w (n := (-9223372036854775806)) hO lc_X8_197 (by decide) dX8_waits_34 37 rfl ?_
          exact at_lreturn hO dX8_waits_37 hf

def f_X8_goes (s : St) (p1 p2 p3 p4 : Int) : Option Rt := cll (f_X8_isSpringDay s p1 p2) (fun r1 s2 => chk (in32 r1) ((if r1 = 0 then some ((-2), s2) else cll (f_X8_isYard s2 p3) (fun r4 s5 => chk (in32 r4) ((if r4 = 0 then some ((-2), s5) else cll (f_X8_isYard s5 p4) (fun r7 s8 => chk (in32 r7) ((if r7 = 0 then some ((-2), s8) else cll (f_X6_refresh s8) (fun _ s11 => chk (in32 p3) (chk (in32 p4) (cll (f_X7_reckon s11 p2 (min p3 p4) (max p3 p4)) (fun _ s15 => cll (f_X7_weightOf s15 p1 p2) (fun r16 s17 => chk (in32 r16) ((if r16 = 0 then some ((-3), s17) else cll (f_X7_isBestAtOnce s17 p1) (fun r19 s20 => chk (in32 r19) ((if r19 = 0 then some (0, s20) else some (1, s20))))))))))))))))))))
set_option maxRecDepth 100000 in
set_option maxHeartbeats 4000000 in
theorem c_X8_goes (l : Launch) (G : Ge) (hG : rr_GD G) (s : St) (p1 p2 p3 p4 : Int) : rr_Ct l G yX8_goes cX8_goes 5 (some .int) 4 96 1 [vr G 0, vi p1, vi p2, vi p3, vi p4] s (f_X8_goes s p1 p2 p3 p4) := by
  refine rr_mk (lv := [(0, vr G 0), (1, vi p1), (2, vi p2), (3, vi p3), (4, vi p4)]) RX8 (by decide) rfl hG (Nat.le_of_ble_eq_true rfl) rfl ?_
  intro X Z hO hf
  unfold f_X8_goes at hf
  refine at_iload_n hO 1 rfl rfl dX8_goes_0 1 rfl ?_
  refine at_iload_n hO 2 rfl rfl dX8_goes_1 2 rfl ?_
  refine at_callS1 (As := [vi p1, vi p2]) (st := []) hO (c_X8_isSpringDay _ G hO.g s p1 p2) mb_X8_isSpringDay ms_X8_isSpringDay lk_X8_124 rfl ⟨(Nat.le_of_ble_eq_true rfl), (Nat.le_of_ble_eq_true rfl)⟩ (Nat.le_of_ble_eq_true rfl) rfl dX8_goes_2 5 rfl hf (fun r1 s2 hf => ?_)
  obtain ⟨h3, hf⟩ := chk_some hf
  refine at_if_eq hO h3 dX8_goes_5 25 rfl 8 rfl hf (fun hf => ?_) (fun hf => ?_)
  · refine at_bipush hO (by decide) dX8_goes_25 27 rfl ?_
    exact at_ireturn hO dX8_goes_27 hf
  · refine at_aload_n hO 0 rfl rfl dX8_goes_8 9 rfl ?_
    refine at_iload_n hO 3 rfl rfl dX8_goes_9 10 rfl ?_
    refine at_callV1 (As := [vi p3]) (st := []) hO (c_X8_isYard _ G hO.g s2 p3) mb_X8_isYard mi_X8_isYard lk_X8_116 rfl ⟨_, rfl, rfl⟩ rfl ⟨(Nat.le_of_ble_eq_true rfl), (Nat.le_of_ble_eq_true rfl)⟩ (Nat.le_of_ble_eq_true rfl) rfl dX8_goes_10 13 rfl hf (fun r4 s5 hf => ?_)
    obtain ⟨h6, hf⟩ := chk_some hf
    refine at_if_eq hO h6 dX8_goes_13 25 rfl 16 rfl hf (fun hf => ?_) (fun hf => ?_)
    · refine at_bipush hO (by decide) dX8_goes_25 27 rfl ?_
      exact at_ireturn hO dX8_goes_27 hf
    · refine at_aload_n hO 0 rfl rfl dX8_goes_16 17 rfl ?_
      refine at_iload hO 4 rfl dX8_goes_17 19 rfl ?_
      refine at_callV1 (As := [vi p4]) (st := []) hO (c_X8_isYard _ G hO.g s5 p4) mb_X8_isYard mi_X8_isYard lk_X8_116 rfl ⟨_, rfl, rfl⟩ rfl ⟨(Nat.le_of_ble_eq_true rfl), (Nat.le_of_ble_eq_true rfl)⟩ (Nat.le_of_ble_eq_true rfl) rfl dX8_goes_19 22 rfl hf (fun r7 s8 hf => ?_)
      obtain ⟨h9, hf⟩ := chk_some hf
      refine at_if_ne hO h9 dX8_goes_22 28 rfl 25 rfl hf (fun hf => ?_) (fun hf => ?_)
      · refine at_aload_n hO 0 rfl rfl dX8_goes_28 29 rfl ?_
        refine at_getR hO fl_X8_34 rfl rfl dX8_goes_29 32 rfl ?_
        refine at_callV0 (As := []) (st := []) hO (c_X6_refresh _ G hO.g s8 ) mb_X6_refresh mi_X6_refresh lk_X8_127 rfl ⟨_, rfl, rfl⟩ rfl ⟨(Nat.le_of_ble_eq_true rfl), (Nat.le_of_ble_eq_true rfl)⟩ (Nat.le_of_ble_eq_true rfl) rfl dX8_goes_32 35 rfl hf (fun r10 s11 hf => ?_)
        refine at_aload_n hO 0 rfl rfl dX8_goes_35 36 rfl ?_
        refine at_getR hO fl_X8_43 rfl rfl dX8_goes_36 39 rfl ?_
        refine at_iload_n hO 2 rfl rfl dX8_goes_39 40 rfl ?_
        refine at_iload_n hO 3 rfl rfl dX8_goes_40 41 rfl ?_
        refine at_iload hO 4 rfl dX8_goes_41 43 rfl ?_
        obtain ⟨h12, hf⟩ := chk_some hf
        obtain ⟨h13, hf⟩ := chk_some hf
        refine at_mmin hO h12 h13 lk_X8_172 ⟨(Nat.le_of_ble_eq_true rfl), (Nat.le_of_ble_eq_true rfl)⟩ dX8_goes_43 46 rfl ?_
        refine at_iload_n hO 3 rfl rfl dX8_goes_46 47 rfl ?_
        refine at_iload hO 4 rfl dX8_goes_47 49 rfl ?_
        refine at_mmax hO h12 h13 lk_X8_177 ⟨(Nat.le_of_ble_eq_true rfl), (Nat.le_of_ble_eq_true rfl)⟩ dX8_goes_49 52 rfl ?_
        refine at_callV0 (As := [vi p2, vi (min p3 p4), vi (max p3 p4)]) (st := []) hO (c_X7_reckon _ G hO.g s11 p2 (min p3 p4) (max p3 p4)) mb_X7_reckon mi_X7_reckon lk_X8_199 rfl ⟨_, rfl, rfl⟩ rfl ⟨(Nat.le_of_ble_eq_true rfl), (Nat.le_of_ble_eq_true rfl)⟩ (Nat.le_of_ble_eq_true rfl) rfl dX8_goes_52 55 rfl hf (fun r14 s15 hf => ?_)
        refine at_aload_n hO 0 rfl rfl dX8_goes_55 56 rfl ?_
        refine at_getR hO fl_X8_43 rfl rfl dX8_goes_56 59 rfl ?_
        refine at_iload_n hO 1 rfl rfl dX8_goes_59 60 rfl ?_
        refine at_iload_n hO 2 rfl rfl dX8_goes_60 61 rfl ?_
        refine at_callV1 (As := [vi p1, vi p2]) (st := []) hO (c_X7_weightOf _ G hO.g s15 p1 p2) mb_X7_weightOf mi_X7_weightOf lk_X8_202 rfl ⟨_, rfl, rfl⟩ rfl ⟨(Nat.le_of_ble_eq_true rfl), (Nat.le_of_ble_eq_true rfl)⟩ (Nat.le_of_ble_eq_true rfl) rfl dX8_goes_61 64 rfl hf (fun r16 s17 hf => ?_)
        obtain ⟨h18, hf⟩ := chk_some hf
        refine at_if_ne hO h18 dX8_goes_64 70 rfl 67 rfl hf (fun hf => ?_) (fun hf => ?_)
        · refine at_aload_n hO 0 rfl rfl dX8_goes_70 71 rfl ?_
          refine at_getR hO fl_X8_43 rfl rfl dX8_goes_71 74 rfl ?_
          refine at_iload_n hO 1 rfl rfl dX8_goes_74 75 rfl ?_
          refine at_callV1 (As := [vi p1]) (st := []) hO (c_X7_isBestAtOnce _ G hO.g s17 p1) mb_X7_isBestAtOnce mi_X7_isBestAtOnce lk_X8_214 rfl ⟨_, rfl, rfl⟩ rfl ⟨(Nat.le_of_ble_eq_true rfl), (Nat.le_of_ble_eq_true rfl)⟩ (Nat.le_of_ble_eq_true rfl) rfl dX8_goes_75 78 rfl hf (fun r19 s20 hf => ?_)
          obtain ⟨h21, hf⟩ := chk_some hf
          refine at_if_eq hO h21 dX8_goes_78 85 rfl 81 rfl hf (fun hf => ?_) (fun hf => ?_)
          · refine at_iconst hO dX8_goes_85 86 rfl ?_
            exact at_ireturn hO dX8_goes_86 hf
          · refine at_iconst hO dX8_goes_81 82 rfl ?_
            refine at_goto hO dX8_goes_82 86 rfl ?_
            exact at_ireturn hO dX8_goes_86 hf
        · refine at_bipush hO (by decide) dX8_goes_67 69 rfl ?_
          exact at_ireturn hO dX8_goes_69 hf
      · refine at_bipush hO (by decide) dX8_goes_25 27 rfl ?_
        exact at_ireturn hO dX8_goes_27 hf

def f_X8_keep (s : St) (p1 p2 p3 p4 p5 p6 : Int) : Option Rt := cll (f_X8_isSpringDay s p1 p2) (fun r1 s2 => chk (in32 r1) ((if r1 = 0 then some ((-2), s2) else cll (f_X8_isYard s2 p3) (fun r4 s5 => chk (in32 r4) ((if r4 = 0 then some ((-2), s5) else cll (f_X8_isYard s5 p4) (fun r7 s8 => chk (in32 r7) ((if r7 = 0 then some ((-2), s8) else chk (in32 p5) ((if p5 < 1 then some ((-2), s8) else (if 12 < p5 then some ((-2), s8) else cll (f_X8_inside s8 p6 3) (fun r11 s12 => chk (in32 r11) ((if r11 = 0 then some ((-2), s12) else cll (f_X6_refresh s12) (fun _ s15 => chk (in32 p3) (chk (in32 p4) (cll (f_X3_reckon s15 p1 p2 (min p3 p4) (max p3 p4) p5) (fun _ s19 => chk (in32 p6) ((if p6 = 0 then some ((s19 36 1), s19) else (if p6 = 1 then some ((s19 36 2), s19) else some ((s19 36 3), s19)))))))))))))))))))))))
set_option maxRecDepth 100000 in
set_option maxHeartbeats 4000000 in
theorem c_X8_keep (l : Launch) (G : Ge) (hG : rr_GD G) (s : St) (p1 p2 p3 p4 p5 p6 : Int) : rr_Ct l G yX8_keep cX8_keep 7 (some .int) 4 98 1 [vr G 0, vi p1, vi p2, vi p3, vi p4, vi p5, vi p6] s (f_X8_keep s p1 p2 p3 p4 p5 p6) := by
  refine rr_mk (lv := [(0, vr G 0), (1, vi p1), (2, vi p2), (3, vi p3), (4, vi p4), (5, vi p5), (6, vi p6)]) RX8 (by decide) rfl hG (Nat.le_of_ble_eq_true rfl) rfl ?_
  intro X Z hO hf
  unfold f_X8_keep at hf
  refine at_iload_n hO 1 rfl rfl dX8_keep_0 1 rfl ?_
  refine at_iload_n hO 2 rfl rfl dX8_keep_1 2 rfl ?_
  refine at_callS1 (As := [vi p1, vi p2]) (st := []) hO (c_X8_isSpringDay _ G hO.g s p1 p2) mb_X8_isSpringDay ms_X8_isSpringDay lk_X8_124 rfl ⟨(Nat.le_of_ble_eq_true rfl), (Nat.le_of_ble_eq_true rfl)⟩ (Nat.le_of_ble_eq_true rfl) rfl dX8_keep_2 5 rfl hf (fun r1 s2 hf => ?_)
  obtain ⟨h3, hf⟩ := chk_some hf
  refine at_if_eq hO h3 dX8_keep_5 47 rfl 8 rfl hf (fun hf => ?_) (fun hf => ?_)
  · refine at_bipush hO (by decide) dX8_keep_47 49 rfl ?_
    exact at_ireturn hO dX8_keep_49 hf
  · refine at_aload_n hO 0 rfl rfl dX8_keep_8 9 rfl ?_
    refine at_iload_n hO 3 rfl rfl dX8_keep_9 10 rfl ?_
    refine at_callV1 (As := [vi p3]) (st := []) hO (c_X8_isYard _ G hO.g s2 p3) mb_X8_isYard mi_X8_isYard lk_X8_116 rfl ⟨_, rfl, rfl⟩ rfl ⟨(Nat.le_of_ble_eq_true rfl), (Nat.le_of_ble_eq_true rfl)⟩ (Nat.le_of_ble_eq_true rfl) rfl dX8_keep_10 13 rfl hf (fun r4 s5 hf => ?_)
    obtain ⟨h6, hf⟩ := chk_some hf
    refine at_if_eq hO h6 dX8_keep_13 47 rfl 16 rfl hf (fun hf => ?_) (fun hf => ?_)
    · refine at_bipush hO (by decide) dX8_keep_47 49 rfl ?_
      exact at_ireturn hO dX8_keep_49 hf
    · refine at_aload_n hO 0 rfl rfl dX8_keep_16 17 rfl ?_
      refine at_iload hO 4 rfl dX8_keep_17 19 rfl ?_
      refine at_callV1 (As := [vi p4]) (st := []) hO (c_X8_isYard _ G hO.g s5 p4) mb_X8_isYard mi_X8_isYard lk_X8_116 rfl ⟨_, rfl, rfl⟩ rfl ⟨(Nat.le_of_ble_eq_true rfl), (Nat.le_of_ble_eq_true rfl)⟩ (Nat.le_of_ble_eq_true rfl) rfl dX8_keep_19 22 rfl hf (fun r7 s8 hf => ?_)
      obtain ⟨h9, hf⟩ := chk_some hf
      refine at_if_eq hO h9 dX8_keep_22 47 rfl 25 rfl hf (fun hf => ?_) (fun hf => ?_)
      · refine at_bipush hO (by decide) dX8_keep_47 49 rfl ?_
        exact at_ireturn hO dX8_keep_49 hf
      · refine at_iload hO 5 rfl dX8_keep_25 27 rfl ?_
        refine at_iconst hO dX8_keep_27 28 rfl ?_
        obtain ⟨h10, hf⟩ := chk_some hf
        refine at_icmp_lt hO h10 (by decide) dX8_keep_28 47 rfl 31 rfl hf (fun hf => ?_) (fun hf => ?_)
        · refine at_bipush hO (by decide) dX8_keep_47 49 rfl ?_
          exact at_ireturn hO dX8_keep_49 hf
        · refine at_iload hO 5 rfl dX8_keep_31 33 rfl ?_
          refine at_bipush hO (by decide) dX8_keep_33 35 rfl ?_
          refine at_icmp_gt hO h10 (by decide) dX8_keep_35 47 rfl 38 rfl hf (fun hf => ?_) (fun hf => ?_)
          · refine at_bipush hO (by decide) dX8_keep_47 49 rfl ?_
            exact at_ireturn hO dX8_keep_49 hf
          · refine at_iload hO 6 rfl dX8_keep_38 40 rfl ?_
            refine at_iconst hO dX8_keep_40 41 rfl ?_
            refine at_callS1 (As := [vi p6, vi 3]) (st := []) hO (c_X8_inside _ G hO.g s8 p6 3) mb_X8_inside ms_X8_inside lk_X8_89 rfl ⟨(Nat.le_of_ble_eq_true rfl), (Nat.le_of_ble_eq_true rfl)⟩ (Nat.le_of_ble_eq_true rfl) rfl dX8_keep_41 44 rfl hf (fun r11 s12 hf => ?_)
            obtain ⟨h13, hf⟩ := chk_some hf
            refine at_if_ne hO h13 dX8_keep_44 50 rfl 47 rfl hf (fun hf => ?_) (fun hf => ?_)
            · refine at_aload_n hO 0 rfl rfl dX8_keep_50 51 rfl ?_
              refine at_getR hO fl_X8_34 rfl rfl dX8_keep_51 54 rfl ?_
              refine at_callV0 (As := []) (st := []) hO (c_X6_refresh _ G hO.g s12 ) mb_X6_refresh mi_X6_refresh lk_X8_127 rfl ⟨_, rfl, rfl⟩ rfl ⟨(Nat.le_of_ble_eq_true rfl), (Nat.le_of_ble_eq_true rfl)⟩ (Nat.le_of_ble_eq_true rfl) rfl dX8_keep_54 57 rfl hf (fun r14 s15 hf => ?_)
              refine at_aload_n hO 0 rfl rfl dX8_keep_57 58 rfl ?_
              refine at_getR hO fl_X8_52 rfl rfl dX8_keep_58 61 rfl ?_
              refine at_iload_n hO 1 rfl rfl dX8_keep_61 62 rfl ?_
              refine at_iload_n hO 2 rfl rfl dX8_keep_62 63 rfl ?_
              refine at_iload_n hO 3 rfl rfl dX8_keep_63 64 rfl ?_
              refine at_iload hO 4 rfl dX8_keep_64 66 rfl ?_
              obtain ⟨h16, hf⟩ := chk_some hf
              obtain ⟨h17, hf⟩ := chk_some hf
              refine at_mmin hO h16 h17 lk_X8_172 ⟨(Nat.le_of_ble_eq_true rfl), (Nat.le_of_ble_eq_true rfl)⟩ dX8_keep_66 69 rfl ?_
              refine at_iload_n hO 3 rfl rfl dX8_keep_69 70 rfl ?_
              refine at_iload hO 4 rfl dX8_keep_70 72 rfl ?_
              refine at_mmax hO h16 h17 lk_X8_177 ⟨(Nat.le_of_ble_eq_true rfl), (Nat.le_of_ble_eq_true rfl)⟩ dX8_keep_72 75 rfl ?_
              refine at_iload hO 5 rfl dX8_keep_75 77 rfl ?_
              refine at_callV0 (As := [vi p1, vi p2, vi (min p3 p4), vi (max p3 p4), vi p5]) (st := []) hO (c_X3_reckon _ G hO.g s15 p1 p2 (min p3 p4) (max p3 p4) p5) mb_X3_reckon mi_X3_reckon lk_X8_217 rfl ⟨_, rfl, rfl⟩ rfl ⟨(Nat.le_of_ble_eq_true rfl), (Nat.le_of_ble_eq_true rfl)⟩ (Nat.le_of_ble_eq_true rfl) rfl dX8_keep_77 80 rfl hf (fun r18 s19 hf => ?_)
              refine at_iload hO 6 rfl dX8_keep_80 82 rfl ?_
              obtain ⟨h20, hf⟩ := chk_some hf
              refine at_if_ne hO h20 dX8_keep_82 93 rfl 85 rfl hf (fun hf => ?_) (fun hf => ?_)
              · refine at_iload hO 6 rfl dX8_keep_93 95 rfl ?_
                refine at_iconst hO dX8_keep_95 96 rfl ?_
                refine at_icmp_ne hO h20 (by decide) dX8_keep_96 109 rfl 99 rfl hf (fun hf => ?_) (fun hf => ?_)
                · refine at_aload_n hO 0 rfl rfl dX8_keep_109 110 rfl ?_
                  refine at_getR hO fl_X8_52 rfl rfl dX8_keep_110 113 rfl ?_
                  refine at_getIN hO fl_X8_226 rfl rfl dX8_keep_113 116 rfl ?_
                  exact at_ireturn hO dX8_keep_116 hf
                · refine at_aload_n hO 0 rfl rfl dX8_keep_99 100 rfl ?_
                  refine at_getR hO fl_X8_52 rfl rfl dX8_keep_100 103 rfl ?_
                  refine at_getIN hO fl_X8_223 rfl rfl dX8_keep_103 106 rfl ?_
                  refine at_goto hO dX8_keep_106 116 rfl ?_
                  exact at_ireturn hO dX8_keep_116 hf
              · refine at_aload_n hO 0 rfl rfl dX8_keep_85 86 rfl ?_
                refine at_getR hO fl_X8_52 rfl rfl dX8_keep_86 89 rfl ?_
                refine at_getIN hO fl_X8_220 rfl rfl dX8_keep_89 92 rfl ?_
                exact at_ireturn hO dX8_keep_92 hf
            · refine at_bipush hO (by decide) dX8_keep_47 49 rfl ?_
              exact at_ireturn hO dX8_keep_49 hf
