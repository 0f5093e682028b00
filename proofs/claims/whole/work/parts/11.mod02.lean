def f_X9_isWet (s : St) (p1 p2 p3 : Int) : Option Rt := cll (f_X9_possessionOf s p1) (fun r1 s2 => chk (in32 r1) ((if r1 = (-1) then some (0, s2) else chk (in32 p2) (chk (in32 (s2 65 1)) (cll (f_X9_in s2 p2 r1 (s2 65 1)) (fun r6 s7 => chk (in32 r6) ((if r6 = 0 then some (0, s7) else cll (f_X9_levelOf s7 p1 p2) (fun r9 s10 => cll (f_X9_heightOf s10 p3) (fun r11 s12 => chk (in32 r9) (chk (in32 r11) ((if r9 ≤ r11 then some (0, s12) else cll (f_X9_isKept s12 p2 p3) (fun r15 s16 => chk (in32 r15) ((if r15 = 0 then some (1, s16) else some (0, s16)))))))))))))))))
set_option maxRecDepth 100000 in
set_option maxHeartbeats 4000000 in
theorem c_X9_isWet (l : Launch) (G : Ge) (hG : rr_GD G) (s : St) (p1 p2 p3 : Int) : rr_Ct l G yX9_isWet cX9_isWet 5 (some .boolean) 5 112 1 [vr G 58, vi p1, vi p2, vi p3] s (f_X9_isWet s p1 p2 p3) := by
  refine rr_mk (lv := [(0, vr G 58), (1, vi p1), (2, vi p2), (3, vi p3)]) RX9 (by decide) rfl hG (Nat.le_of_ble_eq_true rfl) rfl ?_
  intro X Z hO hf
  unfold f_X9_isWet at hf
  refine at_aload_n hO 0 rfl rfl dX9_isWet_0 1 rfl ?_
  refine at_iload_n hO 1 rfl rfl dX9_isWet_1 2 rfl ?_
  refine at_callV1 (As := [vi p1]) (st := []) hO (c_X9_possessionOf _ G hO.g s p1) mb_X9_possessionOf mi_X9_possessionOf lk_X9_128 rfl ⟨_, rfl, rfl⟩ rfl ⟨(Nat.le_of_ble_eq_true rfl), (Nat.le_of_ble_eq_true rfl)⟩ (Nat.le_of_ble_eq_true rfl) rfl dX9_isWet_2 5 rfl hf (fun r1 s2 hf => ?_)
  refine at_istore hO (lv' := [(4, vi r1), (0, vr G 58), (1, vi p1), (2, vi p2), (3, vi p3)]) (Nat.le_of_ble_eq_true rfl) rfl dX9_isWet_5 7 rfl ?_
  refine at_iload hO 0 rfl dX9_isWet_7 9 rfl ?_
  refine at_iconst hO dX9_isWet_9 10 rfl ?_
  obtain ⟨h3, hf⟩ := chk_some hf
  refine at_icmp_eq hO h3 (by decide) dX9_isWet_10 58 rfl 13 rfl hf (fun hf => ?_) (fun hf => ?_)
  · refine at_iconst hO dX9_isWet_58 59 rfl ?_
    exact at_zreturn hO (Or.inl rfl) dX9_isWet_59 hf
  · refine at_iload_n hO 3 rfl rfl dX9_isWet_13 14 rfl ?_
    obtain ⟨h4, hf⟩ := chk_some hf
    refine at_i2l hO h4 dX9_isWet_14 15 rfl ?_
    refine at_iload hO 0 rfl dX9_isWet_15 17 rfl ?_
    refine at_i2l hO h3 dX9_isWet_17 18 rfl ?_
    refine at_aload_n hO 1 rfl rfl dX9_isWet_18 19 rfl ?_
    refine at_getR hO fl_X9_28 rfl rfl dX9_isWet_19 22 rfl ?_
    refine at_iconst hO dX9_isWet_22 23 rfl ?_
    refine at_iaload hO rfl (Nat.le_of_ble_eq_true rfl) (by decide) (1) rfl dX9_isWet_23 24 rfl ?_
    obtain ⟨h5, hf⟩ := chk_some hf
    refine at_i2l hO h5 dX9_isWet_24 25 rfl ?_
    refine at_callS1 (As := [vl p2, vl r1, vl (s2 65 1)]) (st := []) hO (c_X9_in _ G hO.g s2 p2 r1 (s2 65 1)) mb_X9_in ms_X9_in lk_X9_49 rfl ⟨(Nat.le_of_ble_eq_true rfl), (Nat.le_of_ble_eq_true rfl)⟩ (Nat.le_of_ble_eq_true rfl) rfl dX9_isWet_25 28 rfl hf (fun r6 s7 hf => ?_)
    obtain ⟨h8, hf⟩ := chk_some hf
    refine at_if_eq hO h8 dX9_isWet_28 58 rfl 31 rfl hf (fun hf => ?_) (fun hf => ?_)
    · refine at_iconst hO dX9_isWet_58 59 rfl ?_
      exact at_zreturn hO (Or.inl rfl) dX9_isWet_59 hf
    · refine at_aload_n hO 1 rfl rfl dX9_isWet_31 32 rfl ?_
      refine at_iload_n hO 2 rfl rfl dX9_isWet_32 33 rfl ?_
      refine at_iload_n hO 3 rfl rfl dX9_isWet_33 34 rfl ?_
      refine at_callV1 (As := [vi p1, vi p2]) (st := []) hO (c_X9_levelOf _ G hO.g s7 p1 p2) mb_X9_levelOf mi_X9_levelOf lk_X9_111 rfl ⟨_, rfl, rfl⟩ rfl ⟨(Nat.le_of_ble_eq_true rfl), (Nat.le_of_ble_eq_true rfl)⟩ (Nat.le_of_ble_eq_true rfl) rfl dX9_isWet_34 37 rfl hf (fun r9 s10 hf => ?_)
      refine at_aload_n hO 1 rfl rfl dX9_isWet_37 38 rfl ?_
      refine at_iload_n hO 4 rfl rfl dX9_isWet_38 39 rfl ?_
      refine at_callV1 (As := [vi p3]) (st := [vi r9]) hO (c_X9_heightOf _ G hO.g s10 p3) mb_X9_heightOf mi_X9_heightOf lk_X9_102 rfl ⟨_, rfl, rfl⟩ rfl ⟨(Nat.le_of_ble_eq_true rfl), (Nat.le_of_ble_eq_true rfl)⟩ (Nat.le_of_ble_eq_true rfl) rfl dX9_isWet_39 42 rfl hf (fun r11 s12 hf => ?_)
      obtain ⟨h13, hf⟩ := chk_some hf
      obtain ⟨h14, hf⟩ := chk_some hf
      refine at_icmp_le hO h13 h14 dX9_isWet_42 58 rfl 45 rfl hf (fun hf => ?_) (fun hf => ?_)
      · refine at_iconst hO dX9_isWet_58 59 rfl ?_
        exact at_zreturn hO (Or.inl rfl) dX9_isWet_59 hf
      · refine at_aload_n hO 1 rfl rfl dX9_isWet_45 46 rfl ?_
        refine at_iload_n hO 3 rfl rfl dX9_isWet_46 47 rfl ?_
        refine at_iload_n hO 4 rfl rfl dX9_isWet_47 48 rfl ?_
        refine at_callV1 (As := [vi p2, vi p3]) (st := []) hO (c_X9_isKept _ G hO.g s12 p2 p3) mb_X9_isKept mi_X9_isKept lk_X9_131 rfl ⟨_, rfl, rfl⟩ rfl ⟨(Nat.le_of_ble_eq_true rfl), (Nat.le_of_ble_eq_true rfl)⟩ (Nat.le_of_ble_eq_true rfl) rfl dX9_isWet_48 51 rfl hf (fun r15 s16 hf => ?_)
        obtain ⟨h17, hf⟩ := chk_some hf
        refine at_if_ne hO h17 dX9_isWet_51 58 rfl 54 rfl hf (fun hf => ?_) (fun hf => ?_)
        · refine at_iconst hO dX9_isWet_58 59 rfl ?_
          exact at_zreturn hO (Or.inl rfl) dX9_isWet_59 hf
        · refine at_iconst hO dX9_isWet_54 55 rfl ?_
          refine at_goto hO dX9_isWet_55 59 rfl ?_
          exact at_zreturn hO (Or.inr rfl) dX9_isWet_59 hf

def f_X9_wet (s : St) (p1 p2 p3 : Int) : Option Rt := cll (f_X9_isSpring s p1) (fun r1 s2 => chk (in32 r1) ((if r1 = 0 then some ((-2), s2) else cll (f_X9_isDay s2 p2) (fun r4 s5 => chk (in32 r4) ((if r4 = 0 then some ((-2), s5) else cll (f_X9_isYard s5 p3) (fun r7 s8 => chk (in32 r7) ((if r7 = 0 then some ((-2), s8) else cll (f_X9_isWet s8 p1 p2 p3) (fun r10 s11 => chk (in32 r10) ((if r10 = 0 then some (0, s11) else some (1, s11)))))))))))))
set_option maxRecDepth 100000 in
set_option maxHeartbeats 4000000 in
theorem c_X9_wet (l : Launch) (G : Ge) (hG : rr_GD G) (s : St) (p1 p2 p3 : Int) : rr_Ct l G yX9_wet cX9_wet 4 (some .int) 6 136 1 [vr G 58, vi p1, vi p2, vi p3] s (f_X9_wet s p1 p2 p3) := by
  refine rr_mk (lv := [(0, vr G 58), (1, vi p1), (2, vi p2), (3, vi p3)]) RX9 (by decide) rfl hG (Nat.le_of_ble_eq_true rfl) rfl ?_
  intro X Z hO hf
  unfold f_X9_wet at hf
  refine at_iload_n hO 1 rfl rfl dX9_wet_0 1 rfl ?_
  refine at_callS1 (As := [vi p1]) (st := []) hO (c_X9_isSpring _ G hO.g s p1) mb_X9_isSpring ms_X9_isSpring lk_X9_105 rfl ⟨(Nat.le_of_ble_eq_true rfl), (Nat.le_of_ble_eq_true rfl)⟩ (Nat.le_of_ble_eq_true rfl) rfl dX9_wet_1 4 rfl hf (fun r1 s2 hf => ?_)
  obtain ⟨h3, hf⟩ := chk_some hf
  refine at_if_eq hO h3 dX9_wet_4 40 rfl 7 rfl hf (fun hf => ?_) (fun hf => ?_)
  · refine at_bipush hO (by decide) dX9_wet_40 42 rfl ?_
    exact at_ireturn hO dX9_wet_42 hf
  · refine at_iload_n hO 2 rfl rfl dX9_wet_7 8 rfl ?_
    refine at_callS1 (As := [vi p2]) (st := []) hO (c_X9_isDay _ G hO.g s2 p2) mb_X9_isDay ms_X9_isDay lk_X9_108 rfl ⟨(Nat.le_of_ble_eq_true rfl), (Nat.le_of_ble_eq_true rfl)⟩ (Nat.le_of_ble_eq_true rfl) rfl dX9_wet_8 11 rfl hf (fun r4 s5 hf => ?_)
    obtain ⟨h6, hf⟩ := chk_some hf
    refine at_if_eq hO h6 dX9_wet_11 40 rfl 14 rfl hf (fun hf => ?_) (fun hf => ?_)
    · refine at_bipush hO (by decide) dX9_wet_40 42 rfl ?_
      exact at_ireturn hO dX9_wet_42 hf
    · refine at_aload_n hO 0 rfl rfl dX9_wet_14 15 rfl ?_
      refine at_iload_n hO 3 rfl rfl dX9_wet_15 16 rfl ?_
      refine at_callV1 (As := [vi p3]) (st := []) hO (c_X9_isYard _ G hO.g s5 p3) mb_X9_isYard mi_X9_isYard lk_X9_99 rfl ⟨_, rfl, rfl⟩ rfl ⟨(Nat.le_of_ble_eq_true rfl), (Nat.le_of_ble_eq_true rfl)⟩ (Nat.le_of_ble_eq_true rfl) rfl dX9_wet_16 19 rfl hf (fun r7 s8 hf => ?_)
      obtain ⟨h9, hf⟩ := chk_some hf
      refine at_if_eq hO h9 dX9_wet_19 40 rfl 22 rfl hf (fun hf => ?_) (fun hf => ?_)
      · refine at_bipush hO (by decide) dX9_wet_40 42 rfl ?_
        exact at_ireturn hO dX9_wet_42 hf
      · refine at_aload_n hO 0 rfl rfl dX9_wet_22 23 rfl ?_
        refine at_iload_n hO 1 rfl rfl dX9_wet_23 24 rfl ?_
        refine at_iload_n hO 2 rfl rfl dX9_wet_24 25 rfl ?_
        refine at_iload_n hO 3 rfl rfl dX9_wet_25 26 rfl ?_
        refine at_callV1 (As := [vi p1, vi p2, vi p3]) (st := []) hO (c_X9_isWet _ G hO.g s8 p1 p2 p3) mb_X9_isWet mi_X9_isWet lk_X9_135 rfl ⟨_, rfl, rfl⟩ rfl ⟨(Nat.le_of_ble_eq_true rfl), (Nat.le_of_ble_eq_true rfl)⟩ (Nat.le_of_ble_eq_true rfl) rfl dX9_wet_26 29 rfl hf (fun r10 s11 hf => ?_)
        obtain ⟨h12, hf⟩ := chk_some hf
        refine at_if_eq hO h12 dX9_wet_29 36 rfl 32 rfl hf (fun hf => ?_) (fun hf => ?_)
        · refine at_iconst hO dX9_wet_36 37 rfl ?_
          refine at_goto hO dX9_wet_37 42 rfl ?_
          exact at_ireturn hO dX9_wet_42 hf
        · refine at_iconst hO dX9_wet_32 33 rfl ?_
          refine at_goto hO dX9_wet_33 42 rfl ?_
          exact at_ireturn hO dX9_wet_42 hf

def S_X9_waterOf_58 (rec58 : St → Int → Int → Int → Option Rt) (s : St) (v4 v5 v6 : Int) : Option Rt := cll (f_X9_yards s) (fun r1 s2 => chk (in32 v6) (chk (in32 (r1 - 1)) ((if (r1 - 1) ≤ v6 then some (v5, s2) else cll (f_X9_isIn s2 v4 v6) (fun r5 s6 => chk (in32 r5) ((if r5 = 0 then cll (f_X9_isIn s6 v4 (v6 - 1)) (fun r8 s9 => chk (in32 r8) ((if r8 = 0 then rec58 s9 v4 (orZ v5 0) (v6 + 1) else cll (f_X9_isIn s9 v4 (v6 + 1)) (fun r11 s12 => chk (in32 r11) ((if r11 = 0 then rec58 s12 v4 (orZ v5 0) (v6 + 1) else rec58 s12 v4 (orZ v5 (shlZ 1 v6)) (v6 + 1))))))) else rec58 s6 v4 (orZ v5 0) (v6 + 1))))))))
def L_X9_waterOf_58 : Nat → St → Int → Int → Int → Option Rt
  | 0, _, _, _, _ => none
  | n + 1, s, v4, v5, v6 => S_X9_waterOf_58 (L_X9_waterOf_58 n) s v4 v5 v6
set_option maxRecDepth 100000 in
set_option maxHeartbeats 4000000 in
theorem wS_X9_waterOf_58 {X : CX} {G : Ge} {Z : Rt} {rec58 : St → Int → Int → Int → Option Rt} (hO : rr_OK X G cX9_waterOf 7 RX9 (some .int) 6 136) (hrec58 : ∀ (s : St) (v4 v5 v6 : Int), rec58 s v4 v5 v6 = some Z → rr_AT X G 7 1 Z 58 [(0, vr G 58), (4, vi v4), (5, vi v5), (6, vi v6)] [] s) (s : St) (v4 v5 v6 : Int) (hf : S_X9_waterOf_58 rec58 s v4 v5 v6 = some Z) : rr_AT X G 7 1 Z 58 [(0, vr G 58), (4, vi v4), (5, vi v5), (6, vi v6)] [] s := by
  unfold S_X9_waterOf_58 at hf
  refine at_iload hO 3 rfl dX9_waterOf_58 60 rfl ?_
  refine at_aload_n hO 0 rfl rfl dX9_waterOf_60 61 rfl ?_
  refine at_callV1 (As := []) (st := [vi v6]) hO (c_X9_yards _ G hO.g s ) mb_X9_yards mi_X9_yards lk_X9_95 rfl ⟨_, rfl, rfl⟩ rfl ⟨(Nat.le_of_ble_eq_true rfl), (Nat.le_of_ble_eq_true rfl)⟩ (Nat.le_of_ble_eq_true rfl) rfl dX9_waterOf_61 64 rfl hf (fun r1 s2 hf => ?_)
  refine at_iconst hO dX9_waterOf_64 65 rfl ?_
  refine at_isub hO dX9_waterOf_65 66 rfl ?_
  obtain ⟨h3, hf⟩ := chk_some hf
  obtain ⟨h4, hf⟩ := chk_some hf
  refine at_icmp_ge hO h3 h4 dX9_waterOf_66 122 rfl 69 rfl hf (fun hf => ?_) (fun hf => ?_)
  · refine at_iload hO 2 rfl dX9_waterOf_122 124 rfl ?_
    exact at_ireturn hO dX9_waterOf_124 hf
  · refine at_iload hO 2 rfl dX9_waterOf_69 71 rfl ?_
    refine at_iload hO 1 rfl dX9_waterOf_71 73 rfl ?_
    refine at_iload hO 3 rfl dX9_waterOf_73 75 rfl ?_
    refine at_callS1 (As := [vi v4, vi v6]) (st := [vi v5]) hO (c_X9_isIn _ G hO.g s2 v4 v6) mb_X9_isIn ms_X9_isIn lk_X9_139 rfl ⟨(Nat.le_of_ble_eq_true rfl), (Nat.le_of_ble_eq_true rfl)⟩ (Nat.le_of_ble_eq_true rfl) rfl dX9_waterOf_75 78 rfl hf (fun r5 s6 hf => ?_)
    obtain ⟨h7, hf⟩ := chk_some hf
    refine at_if_ne hO h7 dX9_waterOf_78 112 rfl 81 rfl hf (fun hf => ?_) (fun hf => ?_)
    · refine at_iconst hO dX9_waterOf_112 113 rfl ?_
      refine at_ior hO dX9_waterOf_113 114 rfl ?_
      refine at_istore hO (lv' := [(5, vi (orZ v5 0)), (0, vr G 58), (4, vi v4), (6, vi v6)]) (Nat.le_of_ble_eq_true rfl) rfl dX9_waterOf_114 116 rfl ?_
      refine at_iinc hO (lv' := [(6, vi (v6 + 1)), (5, vi (orZ v5 0)), (0, vr G 58), (4, vi v4)]) 3 rfl (Nat.le_of_ble_eq_true rfl) rfl dX9_waterOf_116 119 rfl ?_
      refine at_goto hO dX9_waterOf_119 58 rfl ?_
      exact at_sub (fun ls h => lv_sub h [2, 3, 1, 0] rfl) (hrec58 s6 v4 (orZ v5 0) (v6 + 1) hf)
    · refine at_iload hO 1 rfl dX9_waterOf_81 83 rfl ?_
      refine at_iload hO 3 rfl dX9_waterOf_83 85 rfl ?_
      refine at_iconst hO dX9_waterOf_85 86 rfl ?_
      refine at_isub hO dX9_waterOf_86 87 rfl ?_
      refine at_callS1 (As := [vi v4, vi (v6 - 1)]) (st := [vi v5]) hO (c_X9_isIn _ G hO.g s6 v4 (v6 - 1)) mb_X9_isIn ms_X9_isIn lk_X9_139 rfl ⟨(Nat.le_of_ble_eq_true rfl), (Nat.le_of_ble_eq_true rfl)⟩ (Nat.le_of_ble_eq_true rfl) rfl dX9_waterOf_87 90 rfl hf (fun r8 s9 hf => ?_)
      obtain ⟨h10, hf⟩ := chk_some hf
      refine at_if_eq hO h10 dX9_waterOf_90 112 rfl 93 rfl hf (fun hf => ?_) (fun hf => ?_)
      · refine at_iconst hO dX9_waterOf_112 113 rfl ?_
        refine at_ior hO dX9_waterOf_113 114 rfl ?_
        refine at_istore hO (lv' := [(5, vi (orZ v5 0)), (0, vr G 58), (4, vi v4), (6, vi v6)]) (Nat.le_of_ble_eq_true rfl) rfl dX9_waterOf_114 116 rfl ?_
        refine at_iinc hO (lv' := [(6, vi (v6 + 1)), (5, vi (orZ v5 0)), (0, vr G 58), (4, vi v4)]) 3 rfl (Nat.le_of_ble_eq_true rfl) rfl dX9_waterOf_116 119 rfl ?_
        refine at_goto hO dX9_waterOf_119 58 rfl ?_
        exact at_sub (fun ls h => lv_sub h [2, 3, 1, 0] rfl) (hrec58 s9 v4 (orZ v5 0) (v6 + 1) hf)
      · refine at_iload hO 1 rfl dX9_waterOf_93 95 rfl ?_
        refine at_iload hO 3 rfl dX9_waterOf_95 97 rfl ?_
        refine at_iconst hO dX9_waterOf_97 98 rfl ?_
        refine at_iadd hO dX9_waterOf_98 99 rfl ?_
        refine at_callS1 (As := [vi v4, vi (v6 + 1)]) (st := [vi v5]) hO (c_X9_isIn _ G hO.g s9 v4 (v6 + 1)) mb_X9_isIn ms_X9_isIn lk_X9_139 rfl ⟨(Nat.le_of_ble_eq_true rfl), (Nat.le_of_ble_eq_true rfl)⟩ (Nat.le_of_ble_eq_true rfl) rfl dX9_waterOf_99 102 rfl hf (fun r11 s12 hf => ?_)
        obtain ⟨h13, hf⟩ := chk_some hf
        refine at_if_eq hO h13 dX9_waterOf_102 112 rfl 105 rfl hf (fun hf => ?_) (fun hf => ?_)
        · refine at_iconst hO dX9_waterOf_112 113 rfl ?_
          refine at_ior hO dX9_waterOf_113 114 rfl ?_
          refine at_istore hO (lv' := [(5, vi (orZ v5 0)), (0, vr G 58), (4, vi v4), (6, vi v6)]) (Nat.le_of_ble_eq_true rfl) rfl dX9_waterOf_114 116 rfl ?_
          refine at_iinc hO (lv' := [(6, vi (v6 + 1)), (5, vi (orZ v5 0)), (0, vr G 58), (4, vi v4)]) 3 rfl (Nat.le_of_ble_eq_true rfl) rfl dX9_waterOf_116 119 rfl ?_
          refine at_goto hO dX9_waterOf_119 58 rfl ?_
          exact at_sub (fun ls h => lv_sub h [2, 3, 1, 0] rfl) (hrec58 s12 v4 (orZ v5 0) (v6 + 1) hf)
        · refine at_iconst hO dX9_waterOf_105 106 rfl ?_
          refine at_iload hO 3 rfl dX9_waterOf_106 108 rfl ?_
          refine at_ishl hO dX9_waterOf_108 109 rfl ?_
          refine at_goto hO dX9_waterOf_109 113 rfl ?_
          refine at_ior hO dX9_waterOf_113 114 rfl ?_
          refine at_istore hO (lv' := [(5, vi (orZ v5 (shlZ 1 v6))), (0, vr G 58), (4, vi v4), (6, vi v6)]) (Nat.le_of_ble_eq_true rfl) rfl dX9_waterOf_114 116 rfl ?_
          refine at_iinc hO (lv' := [(6, vi (v6 + 1)), (5, vi (orZ v5 (shlZ 1 v6))), (0, vr G 58), (4, vi v4)]) 3 rfl (Nat.le_of_ble_eq_true rfl) rfl dX9_waterOf_116 119 rfl ?_
          refine at_goto hO dX9_waterOf_119 58 rfl ?_
          exact at_sub (fun ls h => lv_sub h [2, 3, 1, 0] rfl) (hrec58 s12 v4 (orZ v5 (shlZ 1 v6)) (v6 + 1) hf)
theorem wL_X9_waterOf_58 {X : CX} {G : Ge} {Z : Rt} (hO : rr_OK X G cX9_waterOf 7 RX9 (some .int) 6 136) : ∀ (n : Nat) (s : St) (v4 v5 v6 : Int), L_X9_waterOf_58 n s v4 v5 v6 = some Z → rr_AT X G 7 1 Z 58 [(0, vr G 58), (4, vi v4), (5, vi v5), (6, vi v6)] [] s := by
  intro n
  induction n with
  | zero =>
    intro s v4 v5 v6 hf
    cases hf
  | succ n ih =>
    intro s v4 v5 v6 hf
    exact wS_X9_waterOf_58 hO ih s v4 v5 v6 hf
def S_X9_waterOf_6 (rec6 : St → Int → Int → Int → Int → Int → Option Rt) (s : St) (v1 v2 v3 v4 v5 : Int) : Option Rt := cll (f_X9_yards s) (fun r1 s2 => chk (in32 v5) (chk (in32 r1) ((if r1 ≤ v5 then chk (in32 v3) ((if v3 = 0 then some (v4, s2) else L_X9_waterOf_58 FU s2 v4 0 1)) else cll (f_X9_isWet s2 v1 v2 v5) (fun r6 s7 => chk (in32 r6) ((if r6 = 0 then rec6 s7 v1 v2 v3 (orZ v4 0) (v5 + 1) else rec6 s7 v1 v2 v3 (orZ v4 (shlZ 1 v5)) (v5 + 1))))))))
def L_X9_waterOf_6 : Nat → St → Int → Int → Int → Int → Int → Option Rt
  | 0, _, _, _, _, _, _ => none
  | n + 1, s, v1, v2, v3, v4, v5 => S_X9_waterOf_6 (L_X9_waterOf_6 n) s v1 v2 v3 v4 v5
set_option maxRecDepth 100000 in
set_option maxHeartbeats 4000000 in
theorem wS_X9_waterOf_6 {X : CX} {G : Ge} {Z : Rt} {rec6 : St → Int → Int → Int → Int → Int → Option Rt} (hO : rr_OK X G cX9_waterOf 7 RX9 (some .int) 6 136) (hrec6 : ∀ (s : St) (v1 v2 v3 v4 v5 : Int), rec6 s v1 v2 v3 v4 v5 = some Z → rr_AT X G 7 1 Z 6 [(0, vr G 58), (1, vi v1), (2, vi v2), (3, vi v3), (4, vi v4), (5, vi v5)] [] s) (s : St) (v1 v2 v3 v4 v5 : Int) (hf : S_X9_waterOf_6 rec6 s v1 v2 v3 v4 v5 = some Z) : rr_AT X G 7 1 Z 6 [(0, vr G 58), (1, vi v1), (2, vi v2), (3, vi v3), (4, vi v4), (5, vi v5)] [] s := by
  unfold S_X9_waterOf_6 at hf
  refine at_iload hO 5 rfl dX9_waterOf_6 8 rfl ?_
  refine at_aload_n hO 0 rfl rfl dX9_waterOf_8 9 rfl ?_
  refine at_callV1 (As := []) (st := [vi v5]) hO (c_X9_yards _ G hO.g s ) mb_X9_yards mi_X9_yards lk_X9_95 rfl ⟨_, rfl, rfl⟩ rfl ⟨(Nat.le_of_ble_eq_true rfl), (Nat.le_of_ble_eq_true rfl)⟩ (Nat.le_of_ble_eq_true rfl) rfl dX9_waterOf_9 12 rfl hf (fun r1 s2 hf => ?_)
  obtain ⟨h3, hf⟩ := chk_some hf
  obtain ⟨h4, hf⟩ := chk_some hf
  refine at_icmp_ge hO h3 h4 dX9_waterOf_12 45 rfl 15 rfl hf (fun hf => ?_) (fun hf => ?_)
  · refine at_iload_n hO 3 rfl rfl dX9_waterOf_45 46 rfl ?_
    obtain ⟨h5, hf⟩ := chk_some hf
    refine at_if_ne hO h5 dX9_waterOf_46 52 rfl 49 rfl hf (fun hf => ?_) (fun hf => ?_)
    · refine at_iconst hO dX9_waterOf_52 53 rfl ?_
      refine at_istore hO (lv' := [(5, vi 0), (0, vr G 58), (1, vi v1), (2, vi v2), (3, vi v3), (4, vi v4)]) (Nat.le_of_ble_eq_true rfl) rfl dX9_waterOf_53 55 rfl ?_
      refine at_iconst hO dX9_waterOf_55 56 rfl ?_
      refine at_istore hO (lv' := [(6, vi 1), (5, vi 0), (0, vr G 58), (1, vi v1), (2, vi v2), (3, vi v3), (4, vi v4)]) (Nat.le_of_ble_eq_true rfl) rfl dX9_waterOf_56 58 rfl ?_
      exact at_sub (fun ls h => lv_sub h [2, 6, 1, 0] rfl) (wL_X9_waterOf_58 hO FU s2 v4 0 1 hf)
    · refine at_iload hO 4 rfl dX9_waterOf_49 51 rfl ?_
      exact at_ireturn hO dX9_waterOf_51 hf
  · refine at_iload hO 4 rfl dX9_waterOf_15 17 rfl ?_
    refine at_aload_n hO 0 rfl rfl dX9_waterOf_17 18 rfl ?_
    refine at_iload_n hO 1 rfl rfl dX9_waterOf_18 19 rfl ?_
    refine at_iload_n hO 2 rfl rfl dX9_waterOf_19 20 rfl ?_
    refine at_iload hO 5 rfl dX9_waterOf_20 22 rfl ?_
    refine at_callV1 (As := [vi v1, vi v2, vi v5]) (st := [vi v4]) hO (c_X9_isWet _ G hO.g s2 v1 v2 v5) mb_X9_isWet mi_X9_isWet lk_X9_135 rfl ⟨_, rfl, rfl⟩ rfl ⟨(Nat.le_of_ble_eq_true rfl), (Nat.le_of_ble_eq_true rfl)⟩ (Nat.le_of_ble_eq_true rfl) rfl dX9_waterOf_22 25 rfl hf (fun r6 s7 hf => ?_)
    obtain ⟨h8, hf⟩ := chk_some hf
    refine at_if_eq hO h8 dX9_waterOf_25 35 rfl 28 rfl hf (fun hf => ?_) (fun hf => ?_)
    · refine at_iconst hO dX9_waterOf_35 36 rfl ?_
      refine at_ior hO dX9_waterOf_36 37 rfl ?_
      refine at_istore hO (lv' := [(4, vi (orZ v4 0)), (0, vr G 58), (1, vi v1), (2, vi v2), (3, vi v3), (5, vi v5)]) (Nat.le_of_ble_eq_true rfl) rfl dX9_waterOf_37 39 rfl ?_
      refine at_iinc hO (lv' := [(5, vi (v5 + 1)), (4, vi (orZ v4 0)), (0, vr G 58), (1, vi v1), (2, vi v2), (3, vi v3)]) 5 rfl (Nat.le_of_ble_eq_true rfl) rfl dX9_waterOf_39 42 rfl ?_
      refine at_goto hO dX9_waterOf_42 6 rfl ?_
      exact at_sub (fun ls h => lv_sub h [2, 3, 4, 5, 1, 0] rfl) (hrec6 s7 v1 v2 v3 (orZ v4 0) (v5 + 1) hf)
    · refine at_iconst hO dX9_waterOf_28 29 rfl ?_
      refine at_iload hO 5 rfl dX9_waterOf_29 31 rfl ?_
      refine at_ishl hO dX9_waterOf_31 32 rfl ?_
      refine at_goto hO dX9_waterOf_32 36 rfl ?_
      refine at_ior hO dX9_waterOf_36 37 rfl ?_
      refine at_istore hO (lv' := [(4, vi (orZ v4 (shlZ 1 v5))), (0, vr G 58), (1, vi v1), (2, vi v2), (3, vi v3), (5, vi v5)]) (Nat.le_of_ble_eq_true rfl) rfl dX9_waterOf_37 39 rfl ?_
      refine at_iinc hO (lv' := [(5, vi (v5 + 1)), (4, vi (orZ v4 (shlZ 1 v5))), (0, vr G 58), (1, vi v1), (2, vi v2), (3, vi v3)]) 5 rfl (Nat.le_of_ble_eq_true rfl) rfl dX9_waterOf_39 42 rfl ?_
      refine at_goto hO dX9_waterOf_42 6 rfl ?_
      exact at_sub (fun ls h => lv_sub h [2, 3, 4, 5, 1, 0] rfl) (hrec6 s7 v1 v2 v3 (orZ v4 (shlZ 1 v5)) (v5 + 1) hf)
theorem wL_X9_waterOf_6 {X : CX} {G : Ge} {Z : Rt} (hO : rr_OK X G cX9_waterOf 7 RX9 (some .int) 6 136) : ∀ (n : Nat) (s : St) (v1 v2 v3 v4 v5 : Int), L_X9_waterOf_6 n s v1 v2 v3 v4 v5 = some Z → rr_AT X G 7 1 Z 6 [(0, vr G 58), (1, vi v1), (2, vi v2), (3, vi v3), (4, vi v4), (5, vi v5)] [] s := by
  intro n
  induction n with
  | zero =>
    intro s v1 v2 v3 v4 v5 hf
    cases hf
  | succ n ih =>
    intro s v1 v2 v3 v4 v5 hf
    exact wS_X9_waterOf_6 hO ih s v1 v2 v3 v4 v5 hf
def f_X9_waterOf (s : St) (p1 p2 p3 : Int) : Option Rt := L_X9_waterOf_6 FU s p1 p2 p3 0 0
set_option maxRecDepth 100000 in
set_option maxHeartbeats 4000000 in
theorem c_X9_waterOf (l : Launch) (G : Ge) (hG : rr_GD G) (s : St) (p1 p2 p3 : Int) : rr_Ct l G yX9_waterOf cX9_waterOf 7 (some .int) 6 136 1 [vr G 58, vi p1, vi p2, vi p3] s (f_X9_waterOf s p1 p2 p3) := by
  refine rr_mk (lv := [(0, vr G 58), (1, vi p1), (2, vi p2), (3, vi p3)]) RX9 (by decide) rfl hG (Nat.le_of_ble_eq_true rfl) rfl ?_
  intro X Z hO hf
  unfold f_X9_waterOf at hf
  refine at_iconst hO dX9_waterOf_0 1 rfl ?_
  refine at_istore hO (lv' := [(4, vi 0), (0, vr G 58), (1, vi p1), (2, vi p2), (3, vi p3)]) (Nat.le_of_ble_eq_true rfl) rfl dX9_waterOf_1 3 rfl ?_
  refine at_iconst hO dX9_waterOf_3 4 rfl ?_
  refine at_istore hO (lv' := [(5, vi 0), (4, vi 0), (0, vr G 58), (1, vi p1), (2, vi p2), (3, vi p3)]) (Nat.le_of_ble_eq_true rfl) rfl dX9_waterOf_4 6 rfl ?_
  exact at_sub (fun ls h => lv_sub h [2, 3, 4, 5, 1, 0] rfl) (wL_X9_waterOf_6 hO FU s p1 p2 p3 0 0 hf)

def f_X9_water (s : St) (p1 p2 p3 : Int) : Option Rt := cll (f_X9_isSpring s p1) (fun r1 s2 => chk (in32 r1) ((if r1 = 0 then some ((-2), s2) else cll (f_X9_isDay s2 p2) (fun r4 s5 => chk (in32 r4) ((if r4 = 0 then some ((-2), s5) else cll (f_X9_isTwo s5 p3) (fun r7 s8 => chk (in32 r7) ((if r7 = 0 then some ((-2), s8) else cll (f_X9_waterOf s8 p1 p2 p3) (fun r10 s11 => some (r10, s11)))))))))))
set_option maxRecDepth 100000 in
set_option maxHeartbeats 4000000 in
theorem c_X9_water (l : Launch) (G : Ge) (hG : rr_GD G) (s : St) (p1 p2 p3 : Int) : rr_Ct l G yX9_water cX9_water 4 (some .int) 7 162 1 [vr G 58, vi p1, vi p2, vi p3] s (f_X9_water s p1 p2 p3) := by
  refine rr_mk (lv := [(0, vr G 58), (1, vi p1), (2, vi p2), (3, vi p3)]) RX9 (by decide) rfl hG (Nat.le_of_ble_eq_true rfl) rfl ?_
  intro X Z hO hf
  unfold f_X9_water at hf
  refine at_iload_n hO 1 rfl rfl dX9_water_0 1 rfl ?_
  refine at_callS1 (As := [vi p1]) (st := []) hO (c_X9_isSpring _ G hO.g s p1) mb_X9_isSpring ms_X9_isSpring lk_X9_105 rfl ⟨(Nat.le_of_ble_eq_true rfl), (Nat.le_of_ble_eq_true rfl)⟩ (Nat.le_of_ble_eq_true rfl) rfl dX9_water_1 4 rfl hf (fun r1 s2 hf => ?_)
  obtain ⟨h3, hf⟩ := chk_some hf
  refine at_if_eq hO h3 dX9_water_4 31 rfl 7 rfl hf (fun hf => ?_) (fun hf => ?_)
  · refine at_bipush hO (by decide) dX9_water_31 33 rfl ?_
    exact at_ireturn hO dX9_water_33 hf
  · refine at_iload_n hO 2 rfl rfl dX9_water_7 8 rfl ?_
    refine at_callS1 (As := [vi p2]) (st := []) hO (c_X9_isDay _ G hO.g s2 p2) mb_X9_isDay ms_X9_isDay lk_X9_108 rfl ⟨(Nat.le_of_ble_eq_true rfl), (Nat.le_of_ble_eq_true rfl)⟩ (Nat.le_of_ble_eq_true rfl) rfl dX9_water_8 11 rfl hf (fun r4 s5 hf => ?_)
    obtain ⟨h6, hf⟩ := chk_some hf
    refine at_if_eq hO h6 dX9_water_11 31 rfl 14 rfl hf (fun hf => ?_) (fun hf => ?_)
    · refine at_bipush hO (by decide) dX9_water_31 33 rfl ?_
      exact at_ireturn hO dX9_water_33 hf
    · refine at_iload_n hO 3 rfl rfl dX9_water_14 15 rfl ?_
      refine at_callS1 (As := [vi p3]) (st := []) hO (c_X9_isTwo _ G hO.g s5 p3) mb_X9_isTwo ms_X9_isTwo lk_X9_142 rfl ⟨(Nat.le_of_ble_eq_true rfl), (Nat.le_of_ble_eq_true rfl)⟩ (Nat.le_of_ble_eq_true rfl) rfl dX9_water_15 18 rfl hf (fun r7 s8 hf => ?_)
      obtain ⟨h9, hf⟩ := chk_some hf
      refine at_if_eq hO h9 dX9_water_18 31 rfl 21 rfl hf (fun hf => ?_) (fun hf => ?_)
      · refine at_bipush hO (by decide) dX9_water_31 33 rfl ?_
        exact at_ireturn hO dX9_water_33 hf
      · refine at_aload_n hO 0 rfl rfl dX9_water_21 22 rfl ?_
        refine at_iload_n hO 1 rfl rfl dX9_water_22 23 rfl ?_
        refine at_iload_n hO 2 rfl rfl dX9_water_23 24 rfl ?_
        refine at_iload_n hO 3 rfl rfl dX9_water_24 25 rfl ?_
        refine at_callV1 (As := [vi p1, vi p2, vi p3]) (st := []) hO (c_X9_waterOf _ G hO.g s8 p1 p2 p3) mb_X9_waterOf mi_X9_waterOf lk_X9_145 rfl ⟨_, rfl, rfl⟩ rfl ⟨(Nat.le_of_ble_eq_true rfl), (Nat.le_of_ble_eq_true rfl)⟩ (Nat.le_of_ble_eq_true rfl) rfl dX9_water_25 28 rfl hf (fun r10 s11 hf => ?_)
        refine at_goto hO dX9_water_28 33 rfl ?_
        exact at_ireturn hO dX9_water_33 hf

def f_X9_lesser (s : St) (p1 p2 : Int) : Option Rt := chk (in32 p1) (chk (in32 p2) ((if p2 ≤ p1 then some (p2, s) else some (p1, s))))
set_option maxRecDepth 100000 in
set_option maxHeartbeats 4000000 in
theorem c_X9_lesser (l : Launch) (G : Ge) (hG : rr_GD G) (s : St) (p1 p2 : Int) : rr_Ct l G yX9_lesser cX9_lesser 2 (some .int) 0 0 1 [vi p1, vi p2] s (f_X9_lesser s p1 p2) := by
  refine rr_mk (lv := [(0, vi p1), (1, vi p2)]) RX9 (by decide) rfl hG (Nat.le_of_ble_eq_true rfl) rfl ?_
  intro X Z hO hf
  unfold f_X9_lesser at hf
  refine at_iload_n hO 0 rfl rfl dX9_lesser_0 1 rfl ?_
  refine at_iload_n hO 1 rfl rfl dX9_lesser_1 2 rfl ?_
  obtain ⟨h1, hf⟩ := chk_some hf
  obtain ⟨h2, hf⟩ := chk_some hf
  refine at_icmp_ge hO h1 h2 dX9_lesser_2 9 rfl 5 rfl hf (fun hf => ?_) (fun hf => ?_)
  · refine at_iload_n hO 1 rfl rfl dX9_lesser_9 10 rfl ?_
    exact at_ireturn hO dX9_lesser_10 hf
  · refine at_iload_n hO 0 rfl rfl dX9_lesser_5 6 rfl ?_
    refine at_goto hO dX9_lesser_6 10 rfl ?_
    exact at_ireturn hO dX9_lesser_10 hf

def B_X9_costOf_74 (rec33 : St → Int → Int → Int → Int → Int → Int → Option Rt) (s : St) (v5 v6 v7 v8 v9 v10 t0 : Int) : Option Rt := cll (f_X9_isIn s v8 v10) (fun r1 s2 => chk (in32 r1) ((if r1 = 0 then rec33 s2 v5 v6 v7 v8 (v9 + 1) (v10 + 1) else chk (in32 t0) ((if t0 = 0 then rec33 s2 v5 v6 v7 v8 (v9 + 0) (v10 + 1) else rec33 s2 v5 v6 v7 v8 (v9 + (s2 65 2)) (v10 + 1))))))
set_option maxRecDepth 100000 in
set_option maxHeartbeats 4000000 in
theorem wB_X9_costOf_74 {X : CX} {G : Ge} {Z : Rt} {rec33 : St → Int → Int → Int → Int → Int → Int → Option Rt} (hO : rr_OK X G cX9_costOf 12 RX9 (some .int) 7 162) (hrec33 : ∀ (s : St) (v5 v6 v7 v8 v9 v10 : Int), rec33 s v5 v6 v7 v8 v9 v10 = some Z → rr_AT X G 12 1 Z 33 [(0, vr G 58), (5, vi v5), (6, vi v6), (7, vi v7), (8, vi v8), (9, vi v9), (10, vi v10)] [] s) (s : St) (v5 v6 v7 v8 v9 v10 t0 : Int) (hf : B_X9_costOf_74 rec33 s v5 v6 v7 v8 v9 v10 t0 = some Z) : rr_AT X G 12 1 Z 74 [(0, vr G 58), (5, vi v5), (6, vi v6), (7, vi v7), (8, vi v8), (9, vi v9), (10, vi v10)] [vi t0] s := by
  unfold B_X9_costOf_74 at hf
  refine at_istore hO (lv' := [(11, vi t0), (0, vr G 58), (5, vi v5), (6, vi v6), (7, vi v7), (8, vi v8), (9, vi v9), (10, vi v10)]) (Nat.le_of_ble_eq_true rfl) rfl dX9_costOf_74 76 rfl ?_
  refine at_iload hO 6 rfl dX9_costOf_76 78 rfl ?_
  refine at_iload hO 5 rfl dX9_costOf_78 80 rfl ?_
  refine at_iload hO 7 rfl dX9_costOf_80 82 rfl ?_
  refine at_callS1 (As := [vi v8, vi v10]) (st := [vi v9]) hO (c_X9_isIn _ G hO.g s v8 v10) mb_X9_isIn ms_X9_isIn lk_X9_139 rfl ⟨(Nat.le_of_ble_eq_true rfl), (Nat.le_of_ble_eq_true rfl)⟩ (Nat.le_of_ble_eq_true rfl) rfl dX9_costOf_82 85 rfl hf (fun r1 s2 hf => ?_)
  obtain ⟨h3, hf⟩ := chk_some hf
  refine at_if_ne hO h3 dX9_costOf_85 92 rfl 88 rfl hf (fun hf => ?_) (fun hf => ?_)
  · refine at_iload hO 0 rfl dX9_costOf_92 94 rfl ?_
    obtain ⟨h4, hf⟩ := chk_some hf
    refine at_if_eq hO h4 dX9_costOf_94 106 rfl 97 rfl hf (fun hf => ?_) (fun hf => ?_)
    · refine at_iconst hO dX9_costOf_106 107 rfl ?_
      refine at_iadd hO dX9_costOf_107 108 rfl ?_
      refine at_istore hO (lv' := [(9, vi (v9 + 0)), (11, vi t0), (0, vr G 58), (5, vi v5), (6, vi v6), (7, vi v7), (8, vi v8), (10, vi v10)]) (Nat.le_of_ble_eq_true rfl) rfl dX9_costOf_108 110 rfl ?_
      refine at_iinc hO (lv' := [(10, vi (v10 + 1)), (9, vi (v9 + 0)), (11, vi t0), (0, vr G 58), (5, vi v5), (6, vi v6), (7, vi v7), (8, vi v8)]) 7 rfl (Nat.le_of_ble_eq_true rfl) rfl dX9_costOf_110 113 rfl ?_
      refine at_goto hO dX9_costOf_113 33 rfl ?_
      exact at_sub (fun ls h => lv_sub h [3, 4, 5, 6, 7, 1, 0] rfl) (hrec33 s2 v5 v6 v7 v8 (v9 + 0) (v10 + 1) hf)
    · refine at_aload_n hO 1 rfl rfl dX9_costOf_97 98 rfl ?_
      refine at_getR hO fl_X9_28 rfl rfl dX9_costOf_98 101 rfl ?_
      refine at_iconst hO dX9_costOf_101 102 rfl ?_
      refine at_iaload hO rfl (Nat.le_of_ble_eq_true rfl) (by decide) (2) rfl dX9_costOf_102 103 rfl ?_
      refine at_goto hO dX9_costOf_103 107 rfl ?_
      refine at_iadd hO dX9_costOf_107 108 rfl ?_
      refine at_istore hO (lv' := [(9, vi (v9 + (s2 65 2))), (11, vi t0), (0, vr G 58), (5, vi v5), (6, vi v6), (7, vi v7), (8, vi v8), (10, vi v10)]) (Nat.le_of_ble_eq_true rfl) rfl dX9_costOf_108 110 rfl ?_
      refine at_iinc hO (lv' := [(10, vi (v10 + 1)), (9, vi (v9 + (s2 65 2))), (11, vi t0), (0, vr G 58), (5, vi v5), (6, vi v6), (7, vi v7), (8, vi v8)]) 7 rfl (Nat.le_of_ble_eq_true rfl) rfl dX9_costOf_110 113 rfl ?_
      refine at_goto hO dX9_costOf_113 33 rfl ?_
      exact at_sub (fun ls h => lv_sub h [3, 4, 5, 6, 7, 1, 0] rfl) (hrec33 s2 v5 v6 v7 v8 (v9 + (s2 65 2)) (v10 + 1) hf)
  · refine at_iconst hO dX9_costOf_88 89 rfl ?_
    refine at_goto hO dX9_costOf_89 107 rfl ?_
    refine at_iadd hO dX9_costOf_107 108 rfl ?_
    refine at_istore hO (lv' := [(9, vi (v9 + 1)), (11, vi t0), (0, vr G 58), (5, vi v5), (6, vi v6), (7, vi v7), (8, vi v8), (10, vi v10)]) (Nat.le_of_ble_eq_true rfl) rfl dX9_costOf_108 110 rfl ?_
    refine at_iinc hO (lv' := [(10, vi (v10 + 1)), (9, vi (v9 + 1)), (11, vi t0), (0, vr G 58), (5, vi v5), (6, vi v6), (7, vi v7), (8, vi v8)]) 7 rfl (Nat.le_of_ble_eq_true rfl) rfl dX9_costOf_110 113 rfl ?_
    refine at_goto hO dX9_costOf_113 33 rfl ?_
    exact at_sub (fun ls h => lv_sub h [3, 4, 5, 6, 7, 1, 0] rfl) (hrec33 s2 v5 v6 v7 v8 (v9 + 1) (v10 + 1) hf)
def S_X9_costOf_33 (rec33 : St → Int → Int → Int → Int → Int → Int → Option Rt) (s : St) (v5 v6 v7 v8 v9 v10 : Int) : Option Rt := chk (in32 v10) (chk (in32 v7) ((if v7 < v10 then chk (in32 v5) ((if v5 = 0 then cll (f_X9_lesser s v9 ((s 65 3) * ((v7 - v6) + 1))) (fun r4 s5 => some (r4, s5)) else (if v5 = 1 then some (v9, s) else some (((s 65 3) * ((v7 - v6) + 1)), s)))) else cll (f_X9_isIn s v8 v10) (fun r6 s7 => chk (in32 r6) ((if r6 = 0 then B_X9_costOf_74 rec33 s7 v5 v6 v7 v8 v9 v10 0 else chk (in32 v6) ((if v10 = v6 then B_X9_costOf_74 rec33 s7 v5 v6 v7 v8 v9 v10 1 else cll (f_X9_isIn s7 v8 (v10 - 1)) (fun r10 s11 => chk (in32 r10) ((if r10 = 0 then B_X9_costOf_74 rec33 s11 v5 v6 v7 v8 v9 v10 1 else B_X9_costOf_74 rec33 s11 v5 v6 v7 v8 v9 v10 0)))))))))))
def L_X9_costOf_33 : Nat → St → Int → Int → Int → Int → Int → Int → Option Rt
  | 0, _, _, _, _, _, _, _ => none
  | n + 1, s, v5, v6, v7, v8, v9, v10 => S_X9_costOf_33 (L_X9_costOf_33 n) s v5 v6 v7 v8 v9 v10
set_option maxRecDepth 100000 in
set_option maxHeartbeats 4000000 in
theorem wS_X9_costOf_33 {X : CX} {G : Ge} {Z : Rt} {rec33 : St → Int → Int → Int → Int → Int → Int → Option Rt} (hO : rr_OK X G cX9_costOf 12 RX9 (some .int) 7 162) (hrec33 : ∀ (s : St) (v5 v6 v7 v8 v9 v10 : Int), rec33 s v5 v6 v7 v8 v9 v10 = some Z → rr_AT X G 12 1 Z 33 [(0, vr G 58), (5, vi v5), (6, vi v6), (7, vi v7), (8, vi v8), (9, vi v9), (10, vi v10)] [] s) (s : St) (v5 v6 v7 v8 v9 v10 : Int) (hf : S_X9_costOf_33 rec33 s v5 v6 v7 v8 v9 v10 = some Z) : rr_AT X G 12 1 Z 33 [(0, vr G 58), (5, vi v5), (6, vi v6), (7, vi v7), (8, vi v8), (9, vi v9), (10, vi v10)] [] s := by
  unfold S_X9_costOf_33 at hf
  refine at_iload hO 6 rfl dX9_costOf_33 35 rfl ?_
  refine at_iload hO 3 rfl dX9_costOf_35 37 rfl ?_
  obtain ⟨h1, hf⟩ := chk_some hf
  obtain ⟨h2, hf⟩ := chk_some hf
  refine at_icmp_gt hO h1 h2 dX9_costOf_37 116 rfl 40 rfl hf (fun hf => ?_) (fun hf => ?_)
  · refine at_aload_n hO 0 rfl rfl dX9_costOf_116 117 rfl ?_
    refine at_getR hO fl_X9_28 rfl rfl dX9_costOf_117 120 rfl ?_
    refine at_iconst hO dX9_costOf_120 121 rfl ?_
    refine at_iaload hO rfl (Nat.le_of_ble_eq_true rfl) (by decide) (3) rfl dX9_costOf_121 122 rfl ?_
    refine at_iload hO 3 rfl dX9_costOf_122 124 rfl ?_
    refine at_iload hO 2 rfl dX9_costOf_124 126 rfl ?_
    refine at_isub hO dX9_costOf_126 127 rfl ?_
    refine at_iconst hO dX9_costOf_127 128 rfl ?_
    refine at_iadd hO dX9_costOf_128 129 rfl ?_
    refine at_imul hO dX9_costOf_129 130 rfl ?_
    refine at_istore hO (lv' := [(10, vi ((s 65 3) * ((v7 - v6) + 1))), (0, vr G 58), (5, vi v5), (6, vi v6), (7, vi v7), (8, vi v8), (9, vi v9)]) (Nat.le_of_ble_eq_true rfl) rfl dX9_costOf_130 132 rfl ?_
    refine at_iload hO 2 rfl dX9_costOf_132 134 rfl ?_
    obtain ⟨h3, hf⟩ := chk_some hf
    refine at_if_ne hO h3 dX9_costOf_134 147 rfl 137 rfl hf (fun hf => ?_) (fun hf => ?_)
    · refine at_iload hO 2 rfl dX9_costOf_147 149 rfl ?_
      refine at_iconst hO dX9_costOf_149 150 rfl ?_
      refine at_icmp_ne hO h3 (by decide) dX9_costOf_150 158 rfl 153 rfl hf (fun hf => ?_) (fun hf => ?_)
      · refine at_iload hO 0 rfl dX9_costOf_158 160 rfl ?_
        exact at_ireturn hO dX9_costOf_160 hf
      · refine at_iload hO 6 rfl dX9_costOf_153 155 rfl ?_
        refine at_goto hO dX9_costOf_155 160 rfl ?_
        exact at_ireturn hO dX9_costOf_160 hf
    · refine at_iload hO 6 rfl dX9_costOf_137 139 rfl ?_
      refine at_iload hO 0 rfl dX9_costOf_139 141 rfl ?_
      refine at_callS1 (As := [vi v9, vi ((s 65 3) * ((v7 - v6) + 1))]) (st := []) hO (c_X9_lesser _ G hO.g s v9 ((s 65 3) * ((v7 - v6) + 1))) mb_X9_lesser ms_X9_lesser lk_X9_148 rfl ⟨(Nat.le_of_ble_eq_true rfl), (Nat.le_of_ble_eq_true rfl)⟩ (Nat.le_of_ble_eq_true rfl) rfl dX9_costOf_141 144 rfl hf (fun r4 s5 hf => ?_)
      refine at_goto hO dX9_costOf_144 160 rfl ?_
      exact at_ireturn hO dX9_costOf_160 hf
  · refine at_iload hO 4 rfl dX9_costOf_40 42 rfl ?_
    refine at_iload hO 6 rfl dX9_costOf_42 44 rfl ?_
    refine at_callS1 (As := [vi v8, vi v10]) (st := []) hO (c_X9_isIn _ G hO.g s v8 v10) mb_X9_isIn ms_X9_isIn lk_X9_139 rfl ⟨(Nat.le_of_ble_eq_true rfl), (Nat.le_of_ble_eq_true rfl)⟩ (Nat.le_of_ble_eq_true rfl) rfl dX9_costOf_44 47 rfl hf (fun r6 s7 hf => ?_)
    obtain ⟨h8, hf⟩ := chk_some hf
    refine at_if_eq hO h8 dX9_costOf_47 73 rfl 50 rfl hf (fun hf => ?_) (fun hf => ?_)
    · refine at_iconst hO dX9_costOf_73 74 rfl ?_
      exact at_sub (fun ls h => lv_sub h [0, 1, 2, 3, 4, 5, 6] rfl) (wB_X9_costOf_74 hO hrec33 s7 v5 v6 v7 v8 v9 v10 0 hf)
    · refine at_iload hO 6 rfl dX9_costOf_50 52 rfl ?_
      refine at_iload hO 2 rfl dX9_costOf_52 54 rfl ?_
      obtain ⟨h9, hf⟩ := chk_some hf
      refine at_icmp_eq hO h1 h9 dX9_costOf_54 69 rfl 57 rfl hf (fun hf => ?_) (fun hf => ?_)
      · refine at_iconst hO dX9_costOf_69 70 rfl ?_
        refine at_goto hO dX9_costOf_70 74 rfl ?_
        exact at_sub (fun ls h => lv_sub h [0, 1, 2, 3, 4, 5, 6] rfl) (wB_X9_costOf_74 hO hrec33 s7 v5 v6 v7 v8 v9 v10 1 hf)
      · refine at_iload hO 4 rfl dX9_costOf_57 59 rfl ?_
        refine at_iload hO 6 rfl dX9_costOf_59 61 rfl ?_
        refine at_iconst hO dX9_costOf_61 62 rfl ?_
        refine at_isub hO dX9_costOf_62 63 rfl ?_
        refine at_callS1 (As := [vi v8, vi (v10 - 1)]) (st := []) hO (c_X9_isIn _ G hO.g s7 v8 (v10 - 1)) mb_X9_isIn ms_X9_isIn lk_X9_139 rfl ⟨(Nat.le_of_ble_eq_true rfl), (Nat.le_of_ble_eq_true rfl)⟩ (Nat.le_of_ble_eq_true rfl) rfl dX9_costOf_63 66 rfl hf (fun r10 s11 hf => ?_)
        obtain ⟨h12, hf⟩ := chk_some hf
        refine at_if_ne hO h12 dX9_costOf_66 73 rfl 69 rfl hf (fun hf => ?_) (fun hf => ?_)
        · refine at_iconst hO dX9_costOf_73 74 rfl ?_
          exact at_sub (fun ls h => lv_sub h [0, 1, 2, 3, 4, 5, 6] rfl) (wB_X9_costOf_74 hO hrec33 s11 v5 v6 v7 v8 v9 v10 0 hf)
        · refine at_iconst hO dX9_costOf_69 70 rfl ?_
          refine at_goto hO dX9_costOf_70 74 rfl ?_
          exact at_sub (fun ls h => lv_sub h [0, 1, 2, 3, 4, 5, 6] rfl) (wB_X9_costOf_74 hO hrec33 s11 v5 v6 v7 v8 v9 v10 1 hf)
theorem wL_X9_costOf_33 {X : CX} {G : Ge} {Z : Rt} (hO : rr_OK X G cX9_costOf 12 RX9 (some .int) 7 162) : ∀ (n : Nat) (s : St) (v5 v6 v7 v8 v9 v10 : Int), L_X9_costOf_33 n s v5 v6 v7 v8 v9 v10 = some Z → rr_AT X G 12 1 Z 33 [(0, vr G 58), (5, vi v5), (6, vi v6), (7, vi v7), (8, vi v8), (9, vi v9), (10, vi v10)] [] s := by
  intro n
  induction n with
  | zero =>
    intro s v5 v6 v7 v8 v9 v10 hf
    cases hf
  | succ n ih =>
    intro s v5 v6 v7 v8 v9 v10 hf
    exact wS_X9_costOf_33 hO ih s v5 v6 v7 v8 v9 v10 hf
def f_X9_costOf (s : St) (p1 p2 p3 p4 p5 : Int) : Option Rt := cll (f_X9_lesser s p3 p4) (fun r1 s2 => cll (f_X9_waterOf s2 p1 p2 0) (fun r3 s4 => L_X9_costOf_33 FU s4 p5 r1 ((p3 + p4) - r1) r3 0 r1))
set_option maxRecDepth 100000 in
set_option maxHeartbeats 4000000 in
theorem c_X9_costOf (l : Launch) (G : Ge) (hG : rr_GD G) (s : St) (p1 p2 p3 p4 p5 : Int) : rr_Ct l G yX9_costOf cX9_costOf 12 (some .int) 7 162 1 [vr G 58, vi p1, vi p2, vi p3, vi p4, vi p5] s (f_X9_costOf s p1 p2 p3 p4 p5) := by
  refine rr_mk (lv := [(0, vr G 58), (1, vi p1), (2, vi p2), (3, vi p3), (4, vi p4), (5, vi p5)]) RX9 (by decide) rfl hG (Nat.le_of_ble_eq_true rfl) rfl ?_
  intro X Z hO hf
  unfold f_X9_costOf at hf
  refine at_iload_n hO 3 rfl rfl dX9_costOf_0 1 rfl ?_
  refine at_iload hO 4 rfl dX9_costOf_1 3 rfl ?_
  refine at_callS1 (As := [vi p3, vi p4]) (st := []) hO (c_X9_lesser _ G hO.g s p3 p4) mb_X9_lesser ms_X9_lesser lk_X9_148 rfl ⟨(Nat.le_of_ble_eq_true rfl), (Nat.le_of_ble_eq_true rfl)⟩ (Nat.le_of_ble_eq_true rfl) rfl dX9_costOf_3 6 rfl hf (fun r1 s2 hf => ?_)
  refine at_istore hO (lv' := [(6, vi r1), (0, vr G 58), (1, vi p1), (2, vi p2), (3, vi p3), (4, vi p4), (5, vi p5)]) (Nat.le_of_ble_eq_true rfl) rfl dX9_costOf_6 8 rfl ?_
  refine at_iload_n hO 4 rfl rfl dX9_costOf_8 9 rfl ?_
  refine at_iload hO 5 rfl dX9_costOf_9 11 rfl ?_
  refine at_iadd hO dX9_costOf_11 12 rfl ?_
  refine at_iload hO 0 rfl dX9_costOf_12 14 rfl ?_
  refine at_isub hO dX9_costOf_14 15 rfl ?_
  refine at_istore hO (lv' := [(7, vi ((p3 + p4) - r1)), (6, vi r1), (0, vr G 58), (1, vi p1), (2, vi p2), (3, vi p3), (4, vi p4), (5, vi p5)]) (Nat.le_of_ble_eq_true rfl) rfl dX9_costOf_15 17 rfl ?_
  refine at_aload_n hO 2 rfl rfl dX9_costOf_17 18 rfl ?_
  refine at_iload_n hO 3 rfl rfl dX9_costOf_18 19 rfl ?_
  refine at_iload_n hO 4 rfl rfl dX9_costOf_19 20 rfl ?_
  refine at_iconst hO dX9_costOf_20 21 rfl ?_
  refine at_callV1 (As := [vi p1, vi p2, vi 0]) (st := []) hO (c_X9_waterOf _ G hO.g s2 p1 p2 0) mb_X9_waterOf mi_X9_waterOf lk_X9_145 rfl ⟨_, rfl, rfl⟩ rfl ⟨(Nat.le_of_ble_eq_true rfl), (Nat.le_of_ble_eq_true rfl)⟩ (Nat.le_of_ble_eq_true rfl) rfl dX9_costOf_21 24 rfl hf (fun r3 s4 hf => ?_)
  refine at_istore hO (lv' := [(8, vi r3), (7, vi ((p3 + p4) - r1)), (6, vi r1), (0, vr G 58), (1, vi p1), (2, vi p2), (3, vi p3), (4, vi p4), (5, vi p5)]) (Nat.le_of_ble_eq_true rfl) rfl dX9_costOf_24 26 rfl ?_
  refine at_iconst hO dX9_costOf_26 27 rfl ?_
  refine at_istore hO (lv' := [(9, vi 0), (8, vi r3), (7, vi ((p3 + p4) - r1)), (6, vi r1), (0, vr G 58), (1, vi p1), (2, vi p2), (3, vi p3), (4, vi p4), (5, vi p5)]) (Nat.le_of_ble_eq_true rfl) rfl dX9_costOf_27 29 rfl ?_
  refine at_iload hO 3 rfl dX9_costOf_29 31 rfl ?_
  refine at_istore hO (lv' := [(10, vi r1), (9, vi 0), (8, vi r3), (7, vi ((p3 + p4) - r1)), (6, vi r1), (0, vr G 58), (1, vi p1), (2, vi p2), (3, vi p3), (4, vi p4), (5, vi p5)]) (Nat.le_of_ble_eq_true rfl) rfl dX9_costOf_31 33 rfl ?_
  exact at_sub (fun ls h => lv_sub h [5, 10, 4, 3, 2, 1, 0] rfl) (wL_X9_costOf_33 hO FU s4 p5 r1 ((p3 + p4) - r1) r3 0 r1 hf)

def f_X9_isWay (s : St) (p1 p2 p3 p4 : Int) : Option Rt := cll (f_X9_isSpring s p1) (fun r1 s2 => chk (in32 r1) ((if r1 = 0 then some (0, s2) else cll (f_X9_isDay s2 p2) (fun r4 s5 => chk (in32 r4) ((if r4 = 0 then some (0, s5) else cll (f_X9_isYard s5 p3) (fun r7 s8 => chk (in32 r7) ((if r7 = 0 then some (0, s8) else cll (f_X9_isYard s8 p4) (fun r10 s11 => chk (in32 r10) ((if r10 = 0 then some (0, s11) else some (1, s11)))))))))))))
set_option maxRecDepth 100000 in
set_option maxHeartbeats 4000000 in
theorem c_X9_isWay (l : Launch) (G : Ge) (hG : rr_GD G) (s : St) (p1 p2 p3 p4 : Int) : rr_Ct l G yX9_isWay cX9_isWay 5 (some .boolean) 5 109 1 [vr G 58, vi p1, vi p2, vi p3, vi p4] s (f_X9_isWay s p1 p2 p3 p4) := by
  refine rr_mk (lv := [(0, vr G 58), (1, vi p1), (2, vi p2), (3, vi p3), (4, vi p4)]) RX9 (by decide) rfl hG (Nat.le_of_ble_eq_true rfl) rfl ?_
  intro X Z hO hf
  unfold f_X9_isWay at hf
  refine at_iload_n hO 1 rfl rfl dX9_isWay_0 1 rfl ?_
  refine at_callS1 (As := [vi p1]) (st := []) hO (c_X9_isSpring _ G hO.g s p1) mb_X9_isSpring ms_X9_isSpring lk_X9_105 rfl ⟨(Nat.le_of_ble_eq_true rfl), (Nat.le_of_ble_eq_true rfl)⟩ (Nat.le_of_ble_eq_true rfl) rfl dX9_isWay_1 4 rfl hf (fun r1 s2 hf => ?_)
  obtain ⟨h3, hf⟩ := chk_some hf
  refine at_if_eq hO h3 dX9_isWay_4 35 rfl 7 rfl hf (fun hf => ?_) (fun hf => ?_)
  · refine at_iconst hO dX9_isWay_35 36 rfl ?_
    exact at_zreturn hO (Or.inl rfl) dX9_isWay_36 hf
  · refine at_iload_n hO 2 rfl rfl dX9_isWay_7 8 rfl ?_
    refine at_callS1 (As := [vi p2]) (st := []) hO (c_X9_isDay _ G hO.g s2 p2) mb_X9_isDay ms_X9_isDay lk_X9_108 rfl ⟨(Nat.le_of_ble_eq_true rfl), (Nat.le_of_ble_eq_true rfl)⟩ (Nat.le_of_ble_eq_true rfl) rfl dX9_isWay_8 11 rfl hf (fun r4 s5 hf => ?_)
    obtain ⟨h6, hf⟩ := chk_some hf
    refine at_if_eq hO h6 dX9_isWay_11 35 rfl 14 rfl hf (fun hf => ?_) (fun hf => ?_)
    · refine at_iconst hO dX9_isWay_35 36 rfl ?_
      exact at_zreturn hO (Or.inl rfl) dX9_isWay_36 hf
    · refine at_aload_n hO 0 rfl rfl dX9_isWay_14 15 rfl ?_
      refine at_iload_n hO 3 rfl rfl dX9_isWay_15 16 rfl ?_
      refine at_callV1 (As := [vi p3]) (st := []) hO (c_X9_isYard _ G hO.g s5 p3) mb_X9_isYard mi_X9_isYard lk_X9_99 rfl ⟨_, rfl, rfl⟩ rfl ⟨(Nat.le_of_ble_eq_true rfl), (Nat.le_of_ble_eq_true rfl)⟩ (Nat.le_of_ble_eq_true rfl) rfl dX9_isWay_16 19 rfl hf (fun r7 s8 hf => ?_)
      obtain ⟨h9, hf⟩ := chk_some hf
      refine at_if_eq hO h9 dX9_isWay_19 35 rfl 22 rfl hf (fun hf => ?_) (fun hf => ?_)
      · refine at_iconst hO dX9_isWay_35 36 rfl ?_
        exact at_zreturn hO (Or.inl rfl) dX9_isWay_36 hf
      · refine at_aload_n hO 0 rfl rfl dX9_isWay_22 23 rfl ?_
        refine at_iload hO 4 rfl dX9_isWay_23 25 rfl ?_
        refine at_callV1 (As := [vi p4]) (st := []) hO (c_X9_isYard _ G hO.g s8 p4) mb_X9_isYard mi_X9_isYard lk_X9_99 rfl ⟨_, rfl, rfl⟩ rfl ⟨(Nat.le_of_ble_eq_true rfl), (Nat.le_of_ble_eq_true rfl)⟩ (Nat.le_of_ble_eq_true rfl) rfl dX9_isWay_25 28 rfl hf (fun r10 s11 hf => ?_)
        obtain ⟨h12, hf⟩ := chk_some hf
        refine at_if_eq hO h12 dX9_isWay_28 35 rfl 31 rfl hf (fun hf => ?_) (fun hf => ?_)
        · refine at_iconst hO dX9_isWay_35 36 rfl ?_
          exact at_zreturn hO (Or.inl rfl) dX9_isWay_36 hf
        · refine at_iconst hO dX9_isWay_31 32 rfl ?_
          refine at_goto hO dX9_isWay_32 36 rfl ?_
          exact at_zreturn hO (Or.inr rfl) dX9_isWay_36 hf

def f_X9_cost (s : St) (p1 p2 p3 p4 p5 : Int) : Option Rt := cll (f_X9_isWay s p1 p2 p3 p4) (fun r1 s2 => chk (in32 r1) ((if r1 = 0 then some ((-2), s2) else chk (in32 p5) (cll (f_X9_in s2 p5 0 2) (fun r5 s6 => chk (in32 r5) ((if r5 = 0 then some ((-2), s6) else cll (f_X9_costOf s6 p1 p2 p3 p4 p5) (fun r8 s9 => some (r8, s9)))))))))
set_option maxRecDepth 100000 in
set_option maxHeartbeats 4000000 in
theorem c_X9_cost (l : Launch) (G : Ge) (hG : rr_GD G) (s : St) (p1 p2 p3 p4 p5 : Int) : rr_Ct l G yX9_cost cX9_cost 6 (some .int) 8 193 1 [vr G 58, vi p1, vi p2, vi p3, vi p4, vi p5] s (f_X9_cost s p1 p2 p3 p4 p5) := by
  refine rr_mk (lv := [(0, vr G 58), (1, vi p1), (2, vi p2), (3, vi p3), (4, vi p4), (5, vi p5)]) RX9 (by decide) rfl hG (Nat.le_of_ble_eq_true rfl) rfl ?_
  intro X Z hO hf
  unfold f_X9_cost at hf
  refine at_aload_n hO 0 rfl rfl dX9_cost_0 1 rfl ?_
  refine at_iload_n hO 1 rfl rfl dX9_cost_1 2 rfl ?_
  refine at_iload_n hO 2 rfl rfl dX9_cost_2 3 rfl ?_
  refine at_iload_n hO 3 rfl rfl dX9_cost_3 4 rfl ?_
  refine at_iload hO 4 rfl dX9_cost_4 6 rfl ?_
  refine at_callV1 (As := [vi p1, vi p2, vi p3, vi p4]) (st := []) hO (c_X9_isWay _ G hO.g s p1 p2 p3 p4) mb_X9_isWay mi_X9_isWay lk_X9_151 rfl ⟨_, rfl, rfl⟩ rfl ⟨(Nat.le_of_ble_eq_true rfl), (Nat.le_of_ble_eq_true rfl)⟩ (Nat.le_of_ble_eq_true rfl) rfl dX9_cost_6 9 rfl hf (fun r1 s2 hf => ?_)
  obtain ⟨h3, hf⟩ := chk_some hf
  refine at_if_eq hO h3 dX9_cost_9 39 rfl 12 rfl hf (fun hf => ?_) (fun hf => ?_)
  · refine at_bipush hO (by decide) dX9_cost_39 41 rfl ?_
    exact at_ireturn hO dX9_cost_41 hf
  · refine at_iload hO 5 rfl dX9_cost_12 14 rfl ?_
    obtain ⟨h4, hf⟩ := chk_some hf
    refine at_i2l hO h4 dX9_cost_14 15 rfl ?_
    refine at_lconst (n := 0) hO (by decide) dX9_cost_15 16 rfl ?_
    refine at_ldc2_w (n := 2) hO lc_X9_63 (by decide) dX9_cost_16 19 rfl ?_
    refine at_callS1 (As := [vl p5, vl 0, vl 2]) (st := []) hO (c_X9_in _ G hO.g s2 p5 0 2) mb_X9_in ms_X9_in lk_X9_49 rfl ⟨(Nat.le_of_ble_eq_true rfl), (Nat.le_of_ble_eq_true rfl)⟩ (Nat.le_of_ble_eq_true rfl) rfl dX9_cost_19 22 rfl hf (fun r5 s6 hf => ?_)
    obtain ⟨h7, hf⟩ := chk_some hf
    refine at_if_eq hO h7 dX9_cost_22 39 rfl 25 rfl hf (fun hf => ?_) (fun hf => ?_)
    · refine at_bipush hO (by decide) dX9_cost_39 41 rfl ?_
      exact at_ireturn hO dX9_cost_41 hf
    · refine at_aload_n hO 0 rfl rfl dX9_cost_25 26 rfl ?_
      refine at_iload_n hO 1 rfl rfl dX9_cost_26 27 rfl ?_
      refine at_iload_n hO 2 rfl rfl dX9_cost_27 28 rfl ?_
      refine at_iload_n hO 3 rfl rfl dX9_cost_28 29 rfl ?_
      refine at_iload hO 4 rfl dX9_cost_29 31 rfl ?_
      refine at_iload hO 5 rfl dX9_cost_31 33 rfl ?_
      refine at_callV1 (As := [vi p1, vi p2, vi p3, vi p4, vi p5]) (st := []) hO (c_X9_costOf _ G hO.g s6 p1 p2 p3 p4 p5) mb_X9_costOf mi_X9_costOf lk_X9_155 rfl ⟨_, rfl, rfl⟩ rfl ⟨(Nat.le_of_ble_eq_true rfl), (Nat.le_of_ble_eq_true rfl)⟩ (Nat.le_of_ble_eq_true rfl) rfl dX9_cost_33 36 rfl hf (fun r8 s9 hf => ?_)
      refine at_goto hO dX9_cost_36 41 rfl ?_
      exact at_ireturn hO dX9_cost_41 hf

def S_X9_closedOf_5 (rec5 : St → Int → Int → Int → Int → Option Rt) (s : St) (v1 v2 v3 v4 : Int) : Option Rt := chk (in32 v4) ((if 30 ≤ v4 then some (v3, s) else cll (f_X9_isWet s v1 v4 v2) (fun r2 s3 => chk (in32 r2) ((if r2 = 0 then rec5 s3 v1 v2 (v3 + 0) (v4 + 1) else rec5 s3 v1 v2 (v3 + 1) (v4 + 1))))))
def L_X9_closedOf_5 : Nat → St → Int → Int → Int → Int → Option Rt
  | 0, _, _, _, _, _ => none
  | n + 1, s, v1, v2, v3, v4 => S_X9_closedOf_5 (L_X9_closedOf_5 n) s v1 v2 v3 v4
set_option maxRecDepth 100000 in
set_option maxHeartbeats 4000000 in
theorem wS_X9_closedOf_5 {X : CX} {G : Ge} {Z : Rt} {rec5 : St → Int → Int → Int → Int → Option Rt} (hO : rr_OK X G cX9_closedOf 5 RX9 (some .int) 6 136) (hrec5 : ∀ (s : St) (v1 v2 v3 v4 : Int), rec5 s v1 v2 v3 v4 = some Z → rr_AT X G 5 1 Z 5 [(0, vr G 58), (1, vi v1), (2, vi v2), (3, vi v3), (4, vi v4)] [] s) (s : St) (v1 v2 v3 v4 : Int) (hf : S_X9_closedOf_5 rec5 s v1 v2 v3 v4 = some Z) : rr_AT X G 5 1 Z 5 [(0, vr G 58), (1, vi v1), (2, vi v2), (3, vi v3), (4, vi v4)] [] s := by
  unfold S_X9_closedOf_5 at hf
  refine at_iload hO 4 rfl dX9_closedOf_5 7 rfl ?_
  refine at_bipush hO (by decide) dX9_closedOf_7 9 rfl ?_
  obtain ⟨h1, hf⟩ := chk_some hf
  refine at_icmp_ge hO h1 (by decide) dX9_closedOf_9 37 rfl 12 rfl hf (fun hf => ?_) (fun hf => ?_)
  · refine at_iload_n hO 3 rfl rfl dX9_closedOf_37 38 rfl ?_
    exact at_ireturn hO dX9_closedOf_38 hf
  · refine at_iload_n hO 3 rfl rfl dX9_closedOf_12 13 rfl ?_
    refine at_aload_n hO 0 rfl rfl dX9_closedOf_13 14 rfl ?_
    refine at_iload_n hO 1 rfl rfl dX9_closedOf_14 15 rfl ?_
    refine at_iload hO 4 rfl dX9_closedOf_15 17 rfl ?_
    refine at_iload_n hO 2 rfl rfl dX9_closedOf_17 18 rfl ?_
    refine at_callV1 (As := [vi v1, vi v4, vi v2]) (st := [vi v3]) hO (c_X9_isWet _ G hO.g s v1 v4 v2) mb_X9_isWet mi_X9_isWet lk_X9_135 rfl ⟨_, rfl, rfl⟩ rfl ⟨(Nat.le_of_ble_eq_true rfl), (Nat.le_of_ble_eq_true rfl)⟩ (Nat.le_of_ble_eq_true rfl) rfl dX9_closedOf_18 21 rfl hf (fun r2 s3 hf => ?_)
    obtain ⟨h4, hf⟩ := chk_some hf
    refine at_if_eq hO h4 dX9_closedOf_21 28 rfl 24 rfl hf (fun hf => ?_) (fun hf => ?_)
    · refine at_iconst hO dX9_closedOf_28 29 rfl ?_
      refine at_iadd hO dX9_closedOf_29 30 rfl ?_
      refine at_istore_n hO (lv' := [(3, vi (v3 + 0)), (0, vr G 58), (1, vi v1), (2, vi v2), (4, vi v4)]) rfl (Nat.le_of_ble_eq_true rfl) rfl dX9_closedOf_30 31 rfl ?_
      refine at_iinc hO (lv' := [(4, vi (v4 + 1)), (3, vi (v3 + 0)), (0, vr G 58), (1, vi v1), (2, vi v2)]) 4 rfl (Nat.le_of_ble_eq_true rfl) rfl dX9_closedOf_31 34 rfl ?_
      refine at_goto hO dX9_closedOf_34 5 rfl ?_
      exact at_sub (fun ls h => lv_sub h [2, 3, 4, 1, 0] rfl) (hrec5 s3 v1 v2 (v3 + 0) (v4 + 1) hf)
    · refine at_iconst hO dX9_closedOf_24 25 rfl ?_
      refine at_goto hO dX9_closedOf_25 29 rfl ?_
      refine at_iadd hO dX9_closedOf_29 30 rfl ?_
      refine at_istore_n hO (lv' := [(3, vi (v3 + 1)), (0, vr G 58), (1, vi v1), (2, vi v2), (4, vi v4)]) rfl (Nat.le_of_ble_eq_true rfl) rfl dX9_closedOf_30 31 rfl ?_
      refine at_iinc hO (lv' := [(4, vi (v4 + 1)), (3, vi (v3 + 1)), (0, vr G 58), (1, vi v1), (2, vi v2)]) 4 rfl (Nat.le_of_ble_eq_true rfl) rfl dX9_closedOf_31 34 rfl ?_
      refine at_goto hO dX9_closedOf_34 5 rfl ?_
      exact at_sub (fun ls h => lv_sub h [2, 3, 4, 1, 0] rfl) (hrec5 s3 v1 v2 (v3 + 1) (v4 + 1) hf)
theorem wL_X9_closedOf_5 {X : CX} {G : Ge} {Z : Rt} (hO : rr_OK X G cX9_closedOf 5 RX9 (some .int) 6 136) : ∀ (n : Nat) (s : St) (v1 v2 v3 v4 : Int), L_X9_closedOf_5 n s v1 v2 v3 v4 = some Z → rr_AT X G 5 1 Z 5 [(0, vr G 58), (1, vi v1), (2, vi v2), (3, vi v3), (4, vi v4)] [] s := by
  intro n
  induction n with
  | zero =>
    intro s v1 v2 v3 v4 hf
    cases hf
  | succ n ih =>
    intro s v1 v2 v3 v4 hf
    exact wS_X9_closedOf_5 hO ih s v1 v2 v3 v4 hf
def f_X9_closedOf (s : St) (p1 p2 : Int) : Option Rt := L_X9_closedOf_5 FU s p1 p2 0 0
set_option maxRecDepth 100000 in
set_option maxHeartbeats 4000000 in
theorem c_X9_closedOf (l : Launch) (G : Ge) (hG : rr_GD G) (s : St) (p1 p2 : Int) : rr_Ct l G yX9_closedOf cX9_closedOf 5 (some .int) 6 136 1 [vr G 58, vi p1, vi p2] s (f_X9_closedOf s p1 p2) := by
  refine rr_mk (lv := [(0, vr G 58), (1, vi p1), (2, vi p2)]) RX9 (by decide) rfl hG (Nat.le_of_ble_eq_true rfl) rfl ?_
  intro X Z hO hf
  unfold f_X9_closedOf at hf
  refine at_iconst hO dX9_closedOf_0 1 rfl ?_
  refine at_istore_n hO (lv' := [(3, vi 0), (0, vr G 58), (1, vi p1), (2, vi p2)]) rfl (Nat.le_of_ble_eq_true rfl) rfl dX9_closedOf_1 2 rfl ?_
  refine at_iconst hO dX9_closedOf_2 3 rfl ?_
  refine at_istore hO (lv' := [(4, vi 0), (3, vi 0), (0, vr G 58), (1, vi p1), (2, vi p2)]) (Nat.le_of_ble_eq_true rfl) rfl dX9_closedOf_3 5 rfl ?_
  exact at_sub (fun ls h => lv_sub h [2, 3, 4, 1, 0] rfl) (wL_X9_closedOf_5 hO FU s p1 p2 0 0 hf)

def f_X9_closed (s : St) (p1 p2 : Int) : Option Rt := cll (f_X9_isSpring s p1) (fun r1 s2 => chk (in32 r1) ((if r1 = 0 then some ((-2), s2) else cll (f_X9_isYard s2 p2) (fun r4 s5 => chk (in32 r4) ((if r4 = 0 then some ((-2), s5) else cll (f_X9_closedOf s5 p1 p2) (fun r7 s8 => some (r7, s8))))))))
set_option maxRecDepth 100000 in
set_option maxHeartbeats 4000000 in
theorem c_X9_closed (l : Launch) (G : Ge) (hG : rr_GD G) (s : St) (p1 p2 : Int) : rr_Ct l G yX9_closed cX9_closed 3 (some .int) 7 160 1 [vr G 58, vi p1, vi p2] s (f_X9_closed s p1 p2) := by
  refine rr_mk (lv := [(0, vr G 58), (1, vi p1), (2, vi p2)]) RX9 (by decide) rfl hG (Nat.le_of_ble_eq_true rfl) rfl ?_
  intro X Z hO hf
  unfold f_X9_closed at hf
  refine at_iload_n hO 1 rfl rfl dX9_closed_0 1 rfl ?_
  refine at_callS1 (As := [vi p1]) (st := []) hO (c_X9_isSpring _ G hO.g s p1) mb_X9_isSpring ms_X9_isSpring lk_X9_105 rfl ⟨(Nat.le_of_ble_eq_true rfl), (Nat.le_of_ble_eq_true rfl)⟩ (Nat.le_of_ble_eq_true rfl) rfl dX9_closed_1 4 rfl hf (fun r1 s2 hf => ?_)
  obtain ⟨h3, hf⟩ := chk_some hf
  refine at_if_eq hO h3 dX9_closed_4 24 rfl 7 rfl hf (fun hf => ?_) (fun hf => ?_)
  · refine at_bipush hO (by decide) dX9_closed_24 26 rfl ?_
    exact at_ireturn hO dX9_closed_26 hf
  · refine at_aload_n hO 0 rfl rfl dX9_closed_7 8 rfl ?_
    refine at_iload_n hO 2 rfl rfl dX9_closed_8 9 rfl ?_
    refine at_callV1 (As := [vi p2]) (st := []) hO (c_X9_isYard _ G hO.g s2 p2) mb_X9_isYard mi_X9_isYard lk_X9_99 rfl ⟨_, rfl, rfl⟩ rfl ⟨(Nat.le_of_ble_eq_true rfl), (Nat.le_of_ble_eq_true rfl)⟩ (Nat.le_of_ble_eq_true rfl) rfl dX9_closed_9 12 rfl hf (fun r4 s5 hf => ?_)
    obtain ⟨h6, hf⟩ := chk_some hf
    refine at_if_eq hO h6 dX9_closed_12 24 rfl 15 rfl hf (fun hf => ?_) (fun hf => ?_)
    · refine at_bipush hO (by decide) dX9_closed_24 26 rfl ?_
      exact at_ireturn hO dX9_closed_26 hf
    · refine at_aload_n hO 0 rfl rfl dX9_closed_15 16 rfl ?_
      refine at_iload_n hO 1 rfl rfl dX9_closed_16 17 rfl ?_
      refine at_iload_n hO 2 rfl rfl dX9_closed_17 18 rfl ?_
      refine at_callV1 (As := [vi p1, vi p2]) (st := []) hO (c_X9_closedOf _ G hO.g s5 p1 p2) mb_X9_closedOf mi_X9_closedOf lk_X9_159 rfl ⟨_, rfl, rfl⟩ rfl ⟨(Nat.le_of_ble_eq_true rfl), (Nat.le_of_ble_eq_true rfl)⟩ (Nat.le_of_ble_eq_true rfl) rfl dX9_closed_18 21 rfl hf (fun r7 s8 hf => ?_)
      refine at_goto hO dX9_closed_21 26 rfl ?_
      exact at_ireturn hO dX9_closed_26 hf

def S_X9_deedOf_28 (rec8 : St → Int → Int → Int → Int → Int → Option Rt) (rec28 : St → Int → Int → Int → Int → Int → Int → Int → Option Rt) (s : St) (v1 v2 v3 v4 v5 v6 v7 : Int) : Option Rt := cll (f_X9_yards s) (fun r1 s2 => chk (in32 v7) (chk (in32 r1) ((if r1 ≤ v7 then chk (in32 v6) ((if v6 = 0 then rec8 s2 v1 v2 v3 (v4 + 0) (v5 + 1) else rec8 s2 v1 v2 v3 (v4 + 1) (v5 + 1))) else rec28 s2 v1 v2 (v3 + (andZ (shrZ v6 v7) 1)) v4 v5 v6 (v7 + 1)))))
def L_X9_deedOf_28 (rec8 : St → Int → Int → Int → Int → Int → Option Rt) : Nat → St → Int → Int → Int → Int → Int → Int → Int → Option Rt
  | 0, _, _, _, _, _, _, _, _ => none
  | n + 1, s, v1, v2, v3, v4, v5, v6, v7 => S_X9_deedOf_28 rec8 (L_X9_deedOf_28 rec8 n) s v1 v2 v3 v4 v5 v6 v7
set_option maxRecDepth 100000 in
set_option maxHeartbeats 4000000 in
theorem wS_X9_deedOf_28 {X : CX} {G : Ge} {Z : Rt} {rec8 : St → Int → Int → Int → Int → Int → Option Rt} {rec28 : St → Int → Int → Int → Int → Int → Int → Int → Option Rt} (hO : rr_OK X G cX9_deedOf 8 RX9 (some .int) 7 162) (hrec8 : ∀ (s : St) (v1 v2 v3 v4 v5 : Int), rec8 s v1 v2 v3 v4 v5 = some Z → rr_AT X G 8 1 Z 8 [(0, vr G 58), (1, vi v1), (2, vi v2), (3, vi v3), (4, vi v4), (5, vi v5)] [] s) (hrec28 : ∀ (s : St) (v1 v2 v3 v4 v5 v6 v7 : Int), rec28 s v1 v2 v3 v4 v5 v6 v7 = some Z → rr_AT X G 8 1 Z 28 [(0, vr G 58), (1, vi v1), (2, vi v2), (3, vi v3), (4, vi v4), (5, vi v5), (6, vi v6), (7, vi v7)] [] s) (s : St) (v1 v2 v3 v4 v5 v6 v7 : Int) (hf : S_X9_deedOf_28 rec8 rec28 s v1 v2 v3 v4 v5 v6 v7 = some Z) : rr_AT X G 8 1 Z 28 [(0, vr G 58), (1, vi v1), (2, vi v2), (3, vi v3), (4, vi v4), (5, vi v5), (6, vi v6), (7, vi v7)] [] s := by
  unfold S_X9_deedOf_28 at hf
  refine at_iload hO 7 rfl dX9_deedOf_28 30 rfl ?_
  refine at_aload_n hO 0 rfl rfl dX9_deedOf_30 31 rfl ?_
  refine at_callV1 (As := []) (st := [vi v7]) hO (c_X9_yards _ G hO.g s ) mb_X9_yards mi_X9_yards lk_X9_95 rfl ⟨_, rfl, rfl⟩ rfl ⟨(Nat.le_of_ble_eq_true rfl), (Nat.le_of_ble_eq_true rfl)⟩ (Nat.le_of_ble_eq_true rfl) rfl dX9_deedOf_31 34 rfl hf (fun r1 s2 hf => ?_)
  obtain ⟨h3, hf⟩ := chk_some hf
  obtain ⟨h4, hf⟩ := chk_some hf
  refine at_icmp_ge hO h3 h4 dX9_deedOf_34 53 rfl 37 rfl hf (fun hf => ?_) (fun hf => ?_)
  · refine at_iload hO 4 rfl dX9_deedOf_53 55 rfl ?_
    refine at_iload hO 6 rfl dX9_deedOf_55 57 rfl ?_
    obtain ⟨h5, hf⟩ := chk_some hf
    refine at_if_ne hO h5 dX9_deedOf_57 64 rfl 60 rfl hf (fun hf => ?_) (fun hf => ?_)
    · refine at_iconst hO dX9_deedOf_64 65 rfl ?_
      refine at_iadd hO dX9_deedOf_65 66 rfl ?_
      refine at_istore hO (lv' := [(4, vi (v4 + 1)), (0, vr G 58), (1, vi v1), (2, vi v2), (3, vi v3), (5, vi v5), (6, vi v6), (7, vi v7)]) (Nat.le_of_ble_eq_true rfl) rfl dX9_deedOf_66 68 rfl ?_
      refine at_iinc hO (lv' := [(5, vi (v5 + 1)), (4, vi (v4 + 1)), (0, vr G 58), (1, vi v1), (2, vi v2), (3, vi v3), (6, vi v6), (7, vi v7)]) 5 rfl (Nat.le_of_ble_eq_true rfl) rfl dX9_deedOf_68 71 rfl ?_
      refine at_goto hO dX9_deedOf_71 8 rfl ?_
      exact at_sub (fun ls h => lv_sub h [2, 3, 4, 5, 1, 0] rfl) (hrec8 s2 v1 v2 v3 (v4 + 1) (v5 + 1) hf)
    · refine at_iconst hO dX9_deedOf_60 61 rfl ?_
      refine at_goto hO dX9_deedOf_61 65 rfl ?_
      refine at_iadd hO dX9_deedOf_65 66 rfl ?_
      refine at_istore hO (lv' := [(4, vi (v4 + 0)), (0, vr G 58), (1, vi v1), (2, vi v2), (3, vi v3), (5, vi v5), (6, vi v6), (7, vi v7)]) (Nat.le_of_ble_eq_true rfl) rfl dX9_deedOf_66 68 rfl ?_
      refine at_iinc hO (lv' := [(5, vi (v5 + 1)), (4, vi (v4 + 0)), (0, vr G 58), (1, vi v1), (2, vi v2), (3, vi v3), (6, vi v6), (7, vi v7)]) 5 rfl (Nat.le_of_ble_eq_true rfl) rfl dX9_deedOf_68 71 rfl ?_
      refine at_goto hO dX9_deedOf_71 8 rfl ?_
      exact at_sub (fun ls h => lv_sub h [2, 3, 4, 5, 1, 0] rfl) (hrec8 s2 v1 v2 v3 (v4 + 0) (v5 + 1) hf)
  · refine at_iload_n hO 3 rfl rfl dX9_deedOf_37 38 rfl ?_
    refine at_iload hO 6 rfl dX9_deedOf_38 40 rfl ?_
    refine at_iload hO 7 rfl dX9_deedOf_40 42 rfl ?_
    refine at_ishr hO dX9_deedOf_42 43 rfl ?_
    refine at_iconst hO dX9_deedOf_43 44 rfl ?_
    refine at_iand hO dX9_deedOf_44 45 rfl ?_
    refine at_iadd hO dX9_deedOf_45 46 rfl ?_
    refine at_istore_n hO (lv' := [(3, vi (v3 + (andZ (shrZ v6 v7) 1))), (0, vr G 58), (1, vi v1), (2, vi v2), (4, vi v4), (5, vi v5), (6, vi v6), (7, vi v7)]) rfl (Nat.le_of_ble_eq_true rfl) rfl dX9_deedOf_46 47 rfl ?_
    refine at_iinc hO (lv' := [(7, vi (v7 + 1)), (3, vi (v3 + (andZ (shrZ v6 v7) 1))), (0, vr G 58), (1, vi v1), (2, vi v2), (4, vi v4), (5, vi v5), (6, vi v6)]) 7 rfl (Nat.le_of_ble_eq_true rfl) rfl dX9_deedOf_47 50 rfl ?_
    refine at_goto hO dX9_deedOf_50 28 rfl ?_
    exact at_sub (fun ls h => lv_sub h [2, 3, 4, 1, 5, 6, 7, 0] rfl) (hrec28 s2 v1 v2 (v3 + (andZ (shrZ v6 v7) 1)) v4 v5 v6 (v7 + 1) hf)
theorem wL_X9_deedOf_28 {X : CX} {G : Ge} {Z : Rt} {rec8 : St → Int → Int → Int → Int → Int → Option Rt} (hO : rr_OK X G cX9_deedOf 8 RX9 (some .int) 7 162) (hrec8 : ∀ (s : St) (v1 v2 v3 v4 v5 : Int), rec8 s v1 v2 v3 v4 v5 = some Z → rr_AT X G 8 1 Z 8 [(0, vr G 58), (1, vi v1), (2, vi v2), (3, vi v3), (4, vi v4), (5, vi v5)] [] s) : ∀ (n : Nat) (s : St) (v1 v2 v3 v4 v5 v6 v7 : Int), L_X9_deedOf_28 rec8 n s v1 v2 v3 v4 v5 v6 v7 = some Z → rr_AT X G 8 1 Z 28 [(0, vr G 58), (1, vi v1), (2, vi v2), (3, vi v3), (4, vi v4), (5, vi v5), (6, vi v6), (7, vi v7)] [] s := by
  intro n
  induction n with
  | zero =>
    intro s v1 v2 v3 v4 v5 v6 v7 hf
    cases hf
  | succ n ih =>
    intro s v1 v2 v3 v4 v5 v6 v7 hf
    exact wS_X9_deedOf_28 hO hrec8 ih s v1 v2 v3 v4 v5 v6 v7 hf
def S_X9_deedOf_8 (rec8 : St → Int → Int → Int → Int → Int → Option Rt) (s : St) (v1 v2 v3 v4 v5 : Int) : Option Rt := chk (in32 v5) ((if 30 ≤ v5 then chk (in32 v2) ((if v2 = 0 then some (v3, s) else (if v2 = 1 then some (v4, s) else some ((((s 65 4) * v3) - ((s 65 5) * v4)), s)))) else cll (f_X9_waterOf s v1 v5 0) (fun r3 s4 => L_X9_deedOf_28 rec8 FU s4 v1 v2 v3 v4 v5 r3 0)))
def L_X9_deedOf_8 : Nat → St → Int → Int → Int → Int → Int → Option Rt
  | 0, _, _, _, _, _, _ => none
  | n + 1, s, v1, v2, v3, v4, v5 => S_X9_deedOf_8 (L_X9_deedOf_8 n) s v1 v2 v3 v4 v5
set_option maxRecDepth 100000 in
set_option maxHeartbeats 4000000 in
theorem wS_X9_deedOf_8 {X : CX} {G : Ge} {Z : Rt} {rec8 : St → Int → Int → Int → Int → Int → Option Rt} (hO : rr_OK X G cX9_deedOf 8 RX9 (some .int) 7 162) (hrec8 : ∀ (s : St) (v1 v2 v3 v4 v5 : Int), rec8 s v1 v2 v3 v4 v5 = some Z → rr_AT X G 8 1 Z 8 [(0, vr G 58), (1, vi v1), (2, vi v2), (3, vi v3), (4, vi v4), (5, vi v5)] [] s) (s : St) (v1 v2 v3 v4 v5 : Int) (hf : S_X9_deedOf_8 rec8 s v1 v2 v3 v4 v5 = some Z) : rr_AT X G 8 1 Z 8 [(0, vr G 58), (1, vi v1), (2, vi v2), (3, vi v3), (4, vi v4), (5, vi v5)] [] s := by
  unfold S_X9_deedOf_8 at hf
  refine at_iload hO 5 rfl dX9_deedOf_8 10 rfl ?_
  refine at_bipush hO (by decide) dX9_deedOf_10 12 rfl ?_
  obtain ⟨h1, hf⟩ := chk_some hf
  refine at_icmp_ge hO h1 (by decide) dX9_deedOf_12 74 rfl 15 rfl hf (fun hf => ?_) (fun hf => ?_)
  · refine at_iload_n hO 2 rfl rfl dX9_deedOf_74 75 rfl ?_
    obtain ⟨h2, hf⟩ := chk_some hf
    refine at_if_ne hO h2 dX9_deedOf_75 82 rfl 78 rfl hf (fun hf => ?_) (fun hf => ?_)
    · refine at_iload_n hO 2 rfl rfl dX9_deedOf_82 83 rfl ?_
      refine at_iconst hO dX9_deedOf_83 84 rfl ?_
      refine at_icmp_ne hO h2 (by decide) dX9_deedOf_84 92 rfl 87 rfl hf (fun hf => ?_) (fun hf => ?_)
      · refine at_aload_n hO 0 rfl rfl dX9_deedOf_92 93 rfl ?_
        refine at_getR hO fl_X9_28 rfl rfl dX9_deedOf_93 96 rfl ?_
        refine at_iconst hO dX9_deedOf_96 97 rfl ?_
        refine at_iaload hO rfl (Nat.le_of_ble_eq_true rfl) (by decide) (4) rfl dX9_deedOf_97 98 rfl ?_
        refine at_iload_n hO 3 rfl rfl dX9_deedOf_98 99 rfl ?_
        refine at_imul hO dX9_deedOf_99 100 rfl ?_
        refine at_aload_n hO 0 rfl rfl dX9_deedOf_100 101 rfl ?_
        refine at_getR hO fl_X9_28 rfl rfl dX9_deedOf_101 104 rfl ?_
        refine at_iconst hO dX9_deedOf_104 105 rfl ?_
        refine at_iaload hO rfl (Nat.le_of_ble_eq_true rfl) (by decide) (5) rfl dX9_deedOf_105 106 rfl ?_
        refine at_iload hO 4 rfl dX9_deedOf_106 108 rfl ?_
        refine at_imul hO dX9_deedOf_108 109 rfl ?_
        refine at_isub hO dX9_deedOf_109 110 rfl ?_
        exact at_ireturn hO dX9_deedOf_110 hf
      · refine at_iload hO 4 rfl dX9_deedOf_87 89 rfl ?_
        refine at_goto hO dX9_deedOf_89 110 rfl ?_
        exact at_ireturn hO dX9_deedOf_110 hf
    · refine at_iload_n hO 3 rfl rfl dX9_deedOf_78 79 rfl ?_
      refine at_goto hO dX9_deedOf_79 110 rfl ?_
      exact at_ireturn hO dX9_deedOf_110 hf
  · refine at_aload_n hO 0 rfl rfl dX9_deedOf_15 16 rfl ?_
    refine at_iload_n hO 1 rfl rfl dX9_deedOf_16 17 rfl ?_
    refine at_iload hO 5 rfl dX9_deedOf_17 19 rfl ?_
    refine at_iconst hO dX9_deedOf_19 20 rfl ?_
    refine at_callV1 (As := [vi v1, vi v5, vi 0]) (st := []) hO (c_X9_waterOf _ G hO.g s v1 v5 0) mb_X9_waterOf mi_X9_waterOf lk_X9_145 rfl ⟨_, rfl, rfl⟩ rfl ⟨(Nat.le_of_ble_eq_true rfl), (Nat.le_of_ble_eq_true rfl)⟩ (Nat.le_of_ble_eq_true rfl) rfl dX9_deedOf_20 23 rfl hf (fun r3 s4 hf => ?_)
    refine at_istore hO (lv' := [(6, vi r3), (0, vr G 58), (1, vi v1), (2, vi v2), (3, vi v3), (4, vi v4), (5, vi v5)]) (Nat.le_of_ble_eq_true rfl) rfl dX9_deedOf_23 25 rfl ?_
    refine at_iconst hO dX9_deedOf_25 26 rfl ?_
    refine at_istore hO (lv' := [(7, vi 0), (6, vi r3), (0, vr G 58), (1, vi v1), (2, vi v2), (3, vi v3), (4, vi v4), (5, vi v5)]) (Nat.le_of_ble_eq_true rfl) rfl dX9_deedOf_26 28 rfl ?_
    exact at_sub (fun ls h => lv_sub h [2, 3, 4, 5, 6, 7, 1, 0] rfl) (wL_X9_deedOf_28 hO hrec8 FU s4 v1 v2 v3 v4 v5 r3 0 hf)
theorem wL_X9_deedOf_8 {X : CX} {G : Ge} {Z : Rt} (hO : rr_OK X G cX9_deedOf 8 RX9 (some .int) 7 162) : ∀ (n : Nat) (s : St) (v1 v2 v3 v4 v5 : Int), L_X9_deedOf_8 n s v1 v2 v3 v4 v5 = some Z → rr_AT X G 8 1 Z 8 [(0, vr G 58), (1, vi v1), (2, vi v2), (3, vi v3), (4, vi v4), (5, vi v5)] [] s := by
  intro n
  induction n with
  | zero =>
    intro s v1 v2 v3 v4 v5 hf
    cases hf
  | succ n ih =>
    intro s v1 v2 v3 v4 v5 hf
    exact wS_X9_deedOf_8 hO ih s v1 v2 v3 v4 v5 hf
def f_X9_deedOf (s : St) (p1 p2 : Int) : Option Rt := L_X9_deedOf_8 FU s p1 p2 0 0 0
set_option maxRecDepth 100000 in
set_option maxHeartbeats 4000000 in
theorem c_X9_deedOf (l : Launch) (G : Ge) (hG : rr_GD G) (s : St) (p1 p2 : Int) : rr_Ct l G yX9_deedOf cX9_deedOf 8 (some .int) 7 162 1 [vr G 58, vi p1, vi p2] s (f_X9_deedOf s p1 p2) := by
  refine rr_mk (lv := [(0, vr G 58), (1, vi p1), (2, vi p2)]) RX9 (by decide) rfl hG (Nat.le_of_ble_eq_true rfl) rfl ?_
  intro X Z hO hf
  unfold f_X9_deedOf at hf
  refine at_iconst hO dX9_deedOf_0 1 rfl ?_
  refine at_istore_n hO (lv' := [(3, vi 0), (0, vr G 58), (1, vi p1), (2, vi p2)]) rfl (Nat.le_of_ble_eq_true rfl) rfl dX9_deedOf_1 2 rfl ?_
  refine at_iconst hO dX9_deedOf_2 3 rfl ?_
  refine at_istore hO (lv' := [(4, vi 0), (3, vi 0), (0, vr G 58), (1, vi p1), (2, vi p2)]) (Nat.le_of_ble_eq_true rfl) rfl dX9_deedOf_3 5 rfl ?_
  refine at_iconst hO dX9_deedOf_5 6 rfl ?_
  refine at_istore hO (lv' := [(5, vi 0), (4, vi 0), (3, vi 0), (0, vr G 58), (1, vi p1), (2, vi p2)]) (Nat.le_of_ble_eq_true rfl) rfl dX9_deedOf_6 8 rfl ?_
  exact at_sub (fun ls h => lv_sub h [3, 4, 5, 2, 1, 0] rfl) (wL_X9_deedOf_8 hO FU s p1 p2 0 0 0 hf)

def f_X9_deed (s : St) (p1 p2 : Int) : Option Rt := cll (f_X9_isSpring s p1) (fun r1 s2 => chk (in32 r1) ((if r1 = 0 then some ((-100002), s2) else chk (in32 p2) (cll (f_X9_in s2 p2 0 2) (fun r5 s6 => chk (in32 r5) ((if r5 = 0 then some ((-100002), s6) else cll (f_X9_deedOf s6 p1 p2) (fun r8 s9 => some (r8, s9)))))))))
set_option maxRecDepth 100000 in
set_option maxHeartbeats 4000000 in
theorem c_X9_deed (l : Launch) (G : Ge) (hG : rr_GD G) (s : St) (p1 p2 : Int) : rr_Ct l G yX9_deed cX9_deed 3 (some .int) 8 189 1 [vr G 58, vi p1, vi p2] s (f_X9_deed s p1 p2) := by
  refine rr_mk (lv := [(0, vr G 58), (1, vi p1), (2, vi p2)]) RX9 (by decide) rfl hG (Nat.le_of_ble_eq_true rfl) rfl ?_
  intro X Z hO hf
  unfold f_X9_deed at hf
  refine at_iload_n hO 1 rfl rfl dX9_deed_0 1 rfl ?_
  refine at_callS1 (As := [vi p1]) (st := []) hO (c_X9_isSpring _ G hO.g s p1) mb_X9_isSpring ms_X9_isSpring lk_X9_105 rfl ⟨(Nat.le_of_ble_eq_true rfl), (Nat.le_of_ble_eq_true rfl)⟩ (Nat.le_of_ble_eq_true rfl) rfl dX9_deed_1 4 rfl hf (fun r1 s2 hf => ?_)
  obtain ⟨h3, hf⟩ := chk_some hf
  refine at_if_eq hO h3 dX9_deed_4 28 rfl 7 rfl hf (fun hf => ?_) (fun hf => ?_)
  · refine at_ldc (n := (-100002)) hO lc_X9_165 (by decide) dX9_deed_28 30 rfl ?_
    exact at_ireturn hO dX9_deed_30 hf
  · refine at_iload_n hO 2 rfl rfl dX9_deed_7 8 rfl ?_
    obtain ⟨h4, hf⟩ := chk_some hf
    refine at_i2l hO h4 dX9_deed_8 9 rfl ?_
    refine at_lconst (n := 0) hO (by decide) dX9_deed_9 10 rfl ?_
    refine at_ldc2_w (n := 2) hO lc_X9_63 (by decide) dX9_deed_10 13 rfl ?_
    refine at_callS1 (As := [vl p2, vl 0, vl 2]) (st := []) hO (c_X9_in _ G hO.g s2 p2 0 2) mb_X9_in ms_X9_in lk_X9_49 rfl ⟨(Nat.le_of_ble_eq_true rfl), (Nat.le_of_ble_eq_true rfl)⟩ (Nat.le_of_ble_eq_true rfl) rfl dX9_deed_13 16 rfl hf (fun r5 s6 hf => ?_)
    obtain ⟨h7, hf⟩ := chk_some hf
    refine at_if_eq hO h7 dX9_deed_16 28 rfl 19 rfl hf (fun hf => ?_) (fun hf => ?_)
    · refine at_ldc (n := (-100002)) hO lc_X9_165 (by decide) dX9_deed_28 30 rfl ?_
      exact at_ireturn hO dX9_deed_30 hf
    · refine at_aload_n hO 0 rfl rfl dX9_deed_19 20 rfl ?_
      refine at_iload_n hO 1 rfl rfl dX9_deed_20 21 rfl ?_
      refine at_iload_n hO 2 rfl rfl dX9_deed_21 22 rfl ?_
      refine at_callV1 (As := [vi p1, vi p2]) (st := []) hO (c_X9_deedOf _ G hO.g s6 p1 p2) mb_X9_deedOf mi_X9_deedOf lk_X9_162 rfl ⟨_, rfl, rfl⟩ rfl ⟨(Nat.le_of_ble_eq_true rfl), (Nat.le_of_ble_eq_true rfl)⟩ (Nat.le_of_ble_eq_true rfl) rfl dX9_deed_22 25 rfl hf (fun r8 s9 hf => ?_)
      refine at_goto hO dX9_deed_25 30 rfl ?_
      exact at_ireturn hO dX9_deed_30 hf

def S_X9_alike_17 (rec5 : St → Int → Int → Int → Int → Option Rt) (rec17 : St → Int → Int → Int → Int → Int → Int → Option Rt) (s : St) (v1 v2 v3 v4 v5 v6 : Int) : Option Rt := chk (in32 v6) (chk (in32 v2) ((if v2 < v6 then chk (in32 v5) ((if v5 = 0 then rec5 s v1 v2 (orZ v3 0) (v4 + 1) else rec5 s v1 v2 (orZ v3 (shlZ 1 v4)) (v4 + 1))) else chk (in32 v5) ((if v5 = 0 then rec17 s v1 v2 v3 v4 0 (v6 + 1) else cll (f_X9_levelOf s v1 v6) (fun r5 s6 => cll (f_X9_levelOf s6 v4 v6) (fun r7 s8 => chk (in32 r5) (chk (in32 r7) ((if r5 = r7 then rec17 s8 v1 v2 v3 v4 1 (v6 + 1) else rec17 s8 v1 v2 v3 v4 0 (v6 + 1)))))))))))
def L_X9_alike_17 (rec5 : St → Int → Int → Int → Int → Option Rt) : Nat → St → Int → Int → Int → Int → Int → Int → Option Rt
  | 0, _, _, _, _, _, _, _ => none
  | n + 1, s, v1, v2, v3, v4, v5, v6 => S_X9_alike_17 rec5 (L_X9_alike_17 rec5 n) s v1 v2 v3 v4 v5 v6
set_option maxRecDepth 100000 in
set_option maxHeartbeats 4000000 in
theorem wS_X9_alike_17 {X : CX} {G : Ge} {Z : Rt} {rec5 : St → Int → Int → Int → Int → Option Rt} {rec17 : St → Int → Int → Int → Int → Int → Int → Option Rt} (hO : rr_OK X G cX9_alike 7 RX9 (some .int) 4 90) (hrec5 : ∀ (s : St) (v1 v2 v3 v4 : Int), rec5 s v1 v2 v3 v4 = some Z → rr_AT X G 7 1 Z 5 [(0, vr G 58), (1, vi v1), (2, vi v2), (3, vi v3), (4, vi v4)] [] s) (hrec17 : ∀ (s : St) (v1 v2 v3 v4 v5 v6 : Int), rec17 s v1 v2 v3 v4 v5 v6 = some Z → rr_AT X G 7 1 Z 17 [(0, vr G 58), (1, vi v1), (2, vi v2), (3, vi v3), (4, vi v4), (5, vi v5), (6, vi v6)] [] s) (s : St) (v1 v2 v3 v4 v5 v6 : Int) (hf : S_X9_alike_17 rec5 rec17 s v1 v2 v3 v4 v5 v6 = some Z) : rr_AT X G 7 1 Z 17 [(0, vr G 58), (1, vi v1), (2, vi v2), (3, vi v3), (4, vi v4), (5, vi v5), (6, vi v6)] [] s := by
  unfold S_X9_alike_17 at hf
  refine at_iload hO 6 rfl dX9_alike_17 19 rfl ?_
  refine at_iload_n hO 2 rfl rfl dX9_alike_19 20 rfl ?_
  obtain ⟨h1, hf⟩ := chk_some hf
  obtain ⟨h2, hf⟩ := chk_some hf
  refine at_icmp_gt hO h1 h2 dX9_alike_20 59 rfl 23 rfl hf (fun hf => ?_) (fun hf => ?_)
  · refine at_iload_n hO 3 rfl rfl dX9_alike_59 60 rfl ?_
    refine at_iload hO 5 rfl dX9_alike_60 62 rfl ?_
    obtain ⟨h3, hf⟩ := chk_some hf
    refine at_if_eq hO h3 dX9_alike_62 72 rfl 65 rfl hf (fun hf => ?_) (fun hf => ?_)
    · refine at_iconst hO dX9_alike_72 73 rfl ?_
      refine at_ior hO dX9_alike_73 74 rfl ?_
      refine at_istore_n hO (lv' := [(3, vi (orZ v3 0)), (0, vr G 58), (1, vi v1), (2, vi v2), (4, vi v4), (5, vi v5), (6, vi v6)]) rfl (Nat.le_of_ble_eq_true rfl) rfl dX9_alike_74 75 rfl ?_
      refine at_iinc hO (lv' := [(4, vi (v4 + 1)), (3, vi (orZ v3 0)), (0, vr G 58), (1, vi v1), (2, vi v2), (5, vi v5), (6, vi v6)]) 4 rfl (Nat.le_of_ble_eq_true rfl) rfl dX9_alike_75 78 rfl ?_
      refine at_goto hO dX9_alike_78 5 rfl ?_
      exact at_sub (fun ls h => lv_sub h [2, 3, 4, 1, 0] rfl) (hrec5 s v1 v2 (orZ v3 0) (v4 + 1) hf)
    · refine at_iconst hO dX9_alike_65 66 rfl ?_
      refine at_iload hO 4 rfl dX9_alike_66 68 rfl ?_
      refine at_ishl hO dX9_alike_68 69 rfl ?_
      refine at_goto hO dX9_alike_69 73 rfl ?_
      refine at_ior hO dX9_alike_73 74 rfl ?_
      refine at_istore_n hO (lv' := [(3, vi (orZ v3 (shlZ 1 v4))), (0, vr G 58), (1, vi v1), (2, vi v2), (4, vi v4), (5, vi v5), (6, vi v6)]) rfl (Nat.le_of_ble_eq_true rfl) rfl dX9_alike_74 75 rfl ?_
      refine at_iinc hO (lv' := [(4, vi (v4 + 1)), (3, vi (orZ v3 (shlZ 1 v4))), (0, vr G 58), (1, vi v1), (2, vi v2), (5, vi v5), (6, vi v6)]) 4 rfl (Nat.le_of_ble_eq_true rfl) rfl dX9_alike_75 78 rfl ?_
      refine at_goto hO dX9_alike_78 5 rfl ?_
      exact at_sub (fun ls h => lv_sub h [2, 3, 4, 1, 0] rfl) (hrec5 s v1 v2 (orZ v3 (shlZ 1 v4)) (v4 + 1) hf)
  · refine at_iload hO 5 rfl dX9_alike_23 25 rfl ?_
    obtain ⟨h4, hf⟩ := chk_some hf
    refine at_if_eq hO h4 dX9_alike_25 50 rfl 28 rfl hf (fun hf => ?_) (fun hf => ?_)
    · refine at_iconst hO dX9_alike_50 51 rfl ?_
      refine at_istore hO (lv' := [(5, vi 0), (0, vr G 58), (1, vi v1), (2, vi v2), (3, vi v3), (4, vi v4), (6, vi v6)]) (Nat.le_of_ble_eq_true rfl) rfl dX9_alike_51 53 rfl ?_
      refine at_iinc hO (lv' := [(6, vi (v6 + 1)), (5, vi 0), (0, vr G 58), (1, vi v1), (2, vi v2), (3, vi v3), (4, vi v4)]) 6 rfl (Nat.le_of_ble_eq_true rfl) rfl dX9_alike_53 56 rfl ?_
      refine at_goto hO dX9_alike_56 17 rfl ?_
      exact at_sub (fun ls h => lv_sub h [2, 3, 4, 5, 6, 1, 0] rfl) (hrec17 s v1 v2 v3 v4 0 (v6 + 1) hf)
    · refine at_aload_n hO 0 rfl rfl dX9_alike_28 29 rfl ?_
      refine at_iload_n hO 1 rfl rfl dX9_alike_29 30 rfl ?_
      refine at_iload hO 6 rfl dX9_alike_30 32 rfl ?_
      refine at_callV1 (As := [vi v1, vi v6]) (st := []) hO (c_X9_levelOf _ G hO.g s v1 v6) mb_X9_levelOf mi_X9_levelOf lk_X9_111 rfl ⟨_, rfl, rfl⟩ rfl ⟨(Nat.le_of_ble_eq_true rfl), (Nat.le_of_ble_eq_true rfl)⟩ (Nat.le_of_ble_eq_true rfl) rfl dX9_alike_32 35 rfl hf (fun r5 s6 hf => ?_)
      refine at_aload_n hO 0 rfl rfl dX9_alike_35 36 rfl ?_
      refine at_iload hO 4 rfl dX9_alike_36 38 rfl ?_
      refine at_iload hO 6 rfl dX9_alike_38 40 rfl ?_
      refine at_callV1 (As := [vi v4, vi v6]) (st := [vi r5]) hO (c_X9_levelOf _ G hO.g s6 v4 v6) mb_X9_levelOf mi_X9_levelOf lk_X9_111 rfl ⟨_, rfl, rfl⟩ rfl ⟨(Nat.le_of_ble_eq_true rfl), (Nat.le_of_ble_eq_true rfl)⟩ (Nat.le_of_ble_eq_true rfl) rfl dX9_alike_40 43 rfl hf (fun r7 s8 hf => ?_)
      obtain ⟨h9, hf⟩ := chk_some hf
      obtain ⟨h10, hf⟩ := chk_some hf
      refine at_icmp_ne hO h9 h10 dX9_alike_43 50 rfl 46 rfl hf (fun hf => ?_) (fun hf => ?_)
      · refine at_iconst hO dX9_alike_50 51 rfl ?_
        refine at_istore hO (lv' := [(5, vi 0), (0, vr G 58), (1, vi v1), (2, vi v2), (3, vi v3), (4, vi v4), (6, vi v6)]) (Nat.le_of_ble_eq_true rfl) rfl dX9_alike_51 53 rfl ?_
        refine at_iinc hO (lv' := [(6, vi (v6 + 1)), (5, vi 0), (0, vr G 58), (1, vi v1), (2, vi v2), (3, vi v3), (4, vi v4)]) 6 rfl (Nat.le_of_ble_eq_true rfl) rfl dX9_alike_53 56 rfl ?_
        refine at_goto hO dX9_alike_56 17 rfl ?_
        exact at_sub (fun ls h => lv_sub h [2, 3, 4, 5, 6, 1, 0] rfl) (hrec17 s8 v1 v2 v3 v4 0 (v6 + 1) hf)
      · refine at_iconst hO dX9_alike_46 47 rfl ?_
        refine at_goto hO dX9_alike_47 51 rfl ?_
        refine at_istore hO (lv' := [(5, vi 1), (0, vr G 58), (1, vi v1), (2, vi v2), (3, vi v3), (4, vi v4), (6, vi v6)]) (Nat.le_of_ble_eq_true rfl) rfl dX9_alike_51 53 rfl ?_
        refine at_iinc hO (lv' := [(6, vi (v6 + 1)), (5, vi 1), (0, vr G 58), (1, vi v1), (2, vi v2), (3, vi v3), (4, vi v4)]) 6 rfl (Nat.le_of_ble_eq_true rfl) rfl dX9_alike_53 56 rfl ?_
        refine at_goto hO dX9_alike_56 17 rfl ?_
        exact at_sub (fun ls h => lv_sub h [2, 3, 4, 5, 6, 1, 0] rfl) (hrec17 s8 v1 v2 v3 v4 1 (v6 + 1) hf)
theorem wL_X9_alike_17 {X : CX} {G : Ge} {Z : Rt} {rec5 : St → Int → Int → Int → Int → Option Rt} (hO : rr_OK X G cX9_alike 7 RX9 (some .int) 4 90) (hrec5 : ∀ (s : St) (v1 v2 v3 v4 : Int), rec5 s v1 v2 v3 v4 = some Z → rr_AT X G 7 1 Z 5 [(0, vr G 58), (1, vi v1), (2, vi v2), (3, vi v3), (4, vi v4)] [] s) : ∀ (n : Nat) (s : St) (v1 v2 v3 v4 v5 v6 : Int), L_X9_alike_17 rec5 n s v1 v2 v3 v4 v5 v6 = some Z → rr_AT X G 7 1 Z 17 [(0, vr G 58), (1, vi v1), (2, vi v2), (3, vi v3), (4, vi v4), (5, vi v5), (6, vi v6)] [] s := by
  intro n
  induction n with
  | zero =>
    intro s v1 v2 v3 v4 v5 v6 hf
    cases hf
  | succ n ih =>
    intro s v1 v2 v3 v4 v5 v6 hf
    exact wS_X9_alike_17 hO hrec5 ih s v1 v2 v3 v4 v5 v6 hf
def S_X9_alike_5 (rec5 : St → Int → Int → Int → Int → Option Rt) (s : St) (v1 v2 v3 v4 : Int) : Option Rt := chk (in32 v4) ((if 3 ≤ v4 then some (v3, s) else L_X9_alike_17 rec5 FU s v1 v2 v3 v4 1 0))
def L_X9_alike_5 : Nat → St → Int → Int → Int → Int → Option Rt
  | 0, _, _, _, _, _ => none
  | n + 1, s, v1, v2, v3, v4 => S_X9_alike_5 (L_X9_alike_5 n) s v1 v2 v3 v4
set_option maxRecDepth 100000 in
set_option maxHeartbeats 4000000 in
theorem wS_X9_alike_5 {X : CX} {G : Ge} {Z : Rt} {rec5 : St → Int → Int → Int → Int → Option Rt} (hO : rr_OK X G cX9_alike 7 RX9 (some .int) 4 90) (hrec5 : ∀ (s : St) (v1 v2 v3 v4 : Int), rec5 s v1 v2 v3 v4 = some Z → rr_AT X G 7 1 Z 5 [(0, vr G 58), (1, vi v1), (2, vi v2), (3, vi v3), (4, vi v4)] [] s) (s : St) (v1 v2 v3 v4 : Int) (hf : S_X9_alike_5 rec5 s v1 v2 v3 v4 = some Z) : rr_AT X G 7 1 Z 5 [(0, vr G 58), (1, vi v1), (2, vi v2), (3, vi v3), (4, vi v4)] [] s := by
  unfold S_X9_alike_5 at hf
  refine at_iload hO 4 rfl dX9_alike_5 7 rfl ?_
  refine at_iconst hO dX9_alike_7 8 rfl ?_
  obtain ⟨h1, hf⟩ := chk_some hf
  refine at_icmp_ge hO h1 (by decide) dX9_alike_8 81 rfl 11 rfl hf (fun hf => ?_) (fun hf => ?_)
  · refine at_iload_n hO 3 rfl rfl dX9_alike_81 82 rfl ?_
    exact at_ireturn hO dX9_alike_82 hf
  · refine at_iconst hO dX9_alike_11 12 rfl ?_
    refine at_istore hO (lv' := [(5, vi 1), (0, vr G 58), (1, vi v1), (2, vi v2), (3, vi v3), (4, vi v4)]) (Nat.le_of_ble_eq_true rfl) rfl dX9_alike_12 14 rfl ?_
    refine at_iconst hO dX9_alike_14 15 rfl ?_
    refine at_istore hO (lv' := [(6, vi 0), (5, vi 1), (0, vr G 58), (1, vi v1), (2, vi v2), (3, vi v3), (4, vi v4)]) (Nat.le_of_ble_eq_true rfl) rfl dX9_alike_15 17 rfl ?_
    exact at_sub (fun ls h => lv_sub h [2, 3, 4, 5, 6, 1, 0] rfl) (wL_X9_alike_17 hO hrec5 FU s v1 v2 v3 v4 1 0 hf)
theorem wL_X9_alike_5 {X : CX} {G : Ge} {Z : Rt} (hO : rr_OK X G cX9_alike 7 RX9 (some .int) 4 90) : ∀ (n : Nat) (s : St) (v1 v2 v3 v4 : Int), L_X9_alike_5 n s v1 v2 v3 v4 = some Z → rr_AT X G 7 1 Z 5 [(0, vr G 58), (1, vi v1), (2, vi v2), (3, vi v3), (4, vi v4)] [] s := by
  intro n
  induction n with
  | zero =>
    intro s v1 v2 v3 v4 hf
    cases hf
  | succ n ih =>
    intro s v1 v2 v3 v4 hf
    exact wS_X9_alike_5 hO ih s v1 v2 v3 v4 hf
def f_X9_alike (s : St) (p1 p2 : Int) : Option Rt := L_X9_alike_5 FU s p1 p2 0 0
set_option maxRecDepth 100000 in
set_option maxHeartbeats 4000000 in
theorem c_X9_alike (l : Launch) (G : Ge) (hG : rr_GD G) (s : St) (p1 p2 : Int) : rr_Ct l G yX9_alike cX9_alike 7 (some .int) 4 90 1 [vr G 58, vi p1, vi p2] s (f_X9_alike s p1 p2) := by
  refine rr_mk (lv := [(0, vr G 58), (1, vi p1), (2, vi p2)]) RX9 (by decide) rfl hG (Nat.le_of_ble_eq_true rfl) rfl ?_
  intro X Z hO hf
  unfold f_X9_alike at hf
  refine at_iconst hO dX9_alike_0 1 rfl ?_
  refine at_istore_n hO (lv' := [(3, vi 0), (0, vr G 58), (1, vi p1), (2, vi p2)]) rfl (Nat.le_of_ble_eq_true rfl) rfl dX9_alike_1 2 rfl ?_
  refine at_iconst hO dX9_alike_2 3 rfl ?_
  refine at_istore hO (lv' := [(4, vi 0), (3, vi 0), (0, vr G 58), (1, vi p1), (2, vi p2)]) (Nat.le_of_ble_eq_true rfl) rfl dX9_alike_3 5 rfl ?_
  exact at_sub (fun ls h => lv_sub h [2, 3, 4, 1, 0] rfl) (wL_X9_alike_5 hO FU s p1 p2 0 0 hf)
