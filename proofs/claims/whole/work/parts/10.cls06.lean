def S_X8_write_69 (rec69 : St → Int → Int → Int → Int → Option Rt) (s : St) (v1 v2 v3 v4 : Int) : Option Rt := chk (in32 v4) (chk (in32 v3) ((if v3 ≤ v4 then some (v3, s) else chk (ix v2 4) (cll (f_X6_closedDays s v1 v4) (fun r4 s5 => cll (f_X4_put v2.toNat s5 v4 r4) (fun _ s7 => rec69 s7 v1 v2 v3 (v4 + 1)))))))
def L_X8_write_69 : Nat → St → Int → Int → Int → Int → Option Rt
  | 0, _, _, _, _, _ => none
  | n + 1, s, v1, v2, v3, v4 => S_X8_write_69 (L_X8_write_69 n) s v1 v2 v3 v4
set_option maxRecDepth 100000 in
set_option maxHeartbeats 4000000 in
theorem wS_X8_write_69 {X : CX} {G : Ge} {Z : Rt} {rec69 : St → Int → Int → Int → Int → Option Rt} (hO : rr_OK X G cX8_write 5 RX8 (some .int) 4 87) (hrec69 : ∀ (s : St) (v1 v2 v3 v4 : Int), rec69 s v1 v2 v3 v4 = some Z → rr_AT X G 5 1 Z 69 [(0, vr G 0), (1, vi v1), (2, vi v2), (3, vi v3), (4, vi v4)] [] s) (s : St) (v1 v2 v3 v4 : Int) (hf : S_X8_write_69 rec69 s v1 v2 v3 v4 = some Z) : rr_AT X G 5 1 Z 69 [(0, vr G 0), (1, vi v1), (2, vi v2), (3, vi v3), (4, vi v4)] [] s := by
  unfold S_X8_write_69 at hf
  refine at_iload hO 4 rfl dX8_write_69 71 rfl ?_
  refine at_iload_n hO 3 rfl rfl dX8_write_71 72 rfl ?_
  obtain ⟨h1, hf⟩ := chk_some hf
  obtain ⟨h2, hf⟩ := chk_some hf
  refine at_icmp_ge hO h1 h2 dX8_write_72 102 rfl 75 rfl hf (fun hf => ?_) (fun hf => ?_)
  · refine at_iload_n hO 3 rfl rfl dX8_write_102 103 rfl ?_
    exact at_ireturn hO dX8_write_103 hf
  · refine at_aload_n hO 0 rfl rfl dX8_write_75 76 rfl ?_
    refine at_getR hO fl_X8_74 rfl rfl dX8_write_76 79 rfl ?_
    refine at_iload_n hO 2 rfl rfl dX8_write_79 80 rfl ?_
    obtain ⟨h3, hf⟩ := chk_some hf
    refine at_aaload4 hO rfl (Nat.le_of_ble_eq_true rfl) h3 (50 + v2.toNat) rfl dX8_write_80 81 rfl ?_
    refine at_iload hO 4 rfl dX8_write_81 83 rfl ?_
    refine at_aload_n hO 0 rfl rfl dX8_write_83 84 rfl ?_
    refine at_getR hO fl_X8_34 rfl rfl dX8_write_84 87 rfl ?_
    refine at_iload_n hO 1 rfl rfl dX8_write_87 88 rfl ?_
    refine at_iload hO 4 rfl dX8_write_88 90 rfl ?_
    refine at_callV1 (As := [vi v1, vi v4]) (st := [vi v4, vr G (50 + v2.toNat)]) hO (c_X6_closedDays _ G hO.g s v1 v4) mb_X6_closedDays mi_X6_closedDays lk_X8_188 rfl ⟨_, rfl, rfl⟩ rfl ⟨(Nat.le_of_ble_eq_true rfl), (Nat.le_of_ble_eq_true rfl)⟩ (Nat.le_of_ble_eq_true rfl) rfl dX8_write_90 93 rfl hf (fun r4 s5 hf => ?_)
    refine at_callV0 (As := [vi v4, vi r4]) (st := []) hO (c_X4_put _ G hO.g v2.toNat (ix_nat h3) s5 v4 r4) mb_X4_put mi_X4_put lk_X8_280 (tb_sheet (ix_nat h3)) ⟨_, rfl, rfl⟩ rfl ⟨(Nat.le_of_ble_eq_true rfl), (Nat.le_of_ble_eq_true rfl)⟩ (Nat.le_of_ble_eq_true rfl) rfl dX8_write_93 96 rfl hf (fun r6 s7 hf => ?_)
    refine at_iinc hO (lv' := [(4, vi (v4 + 1)), (0, vr G 0), (1, vi v1), (2, vi v2), (3, vi v3)]) 4 rfl (Nat.le_of_ble_eq_true rfl) rfl dX8_write_96 99 rfl ?_
    refine at_goto hO dX8_write_99 69 rfl ?_
    exact at_sub (fun ls h => lv_sub h [1, 2, 3, 4, 0] rfl) (hrec69 s7 v1 v2 v3 (v4 + 1) hf)
theorem wL_X8_write_69 {X : CX} {G : Ge} {Z : Rt} (hO : rr_OK X G cX8_write 5 RX8 (some .int) 4 87) : ∀ (n : Nat) (s : St) (v1 v2 v3 v4 : Int), L_X8_write_69 n s v1 v2 v3 v4 = some Z → rr_AT X G 5 1 Z 69 [(0, vr G 0), (1, vi v1), (2, vi v2), (3, vi v3), (4, vi v4)] [] s := by
  intro n
  induction n with
  | zero =>
    intro s v1 v2 v3 v4 hf
    cases hf
  | succ n ih =>
    intro s v1 v2 v3 v4 hf
    exact wS_X8_write_69 hO ih s v1 v2 v3 v4 hf
def f_X8_write (s : St) (p1 p2 : Int) : Option Rt := cll (f_X8_inside s p1 3) (fun r1 s2 => chk (in32 r1) ((if r1 = 0 then some ((-2), s2) else cll (f_X8_inside s2 p2 4) (fun r4 s5 => chk (in32 r4) ((if r4 = 0 then some ((-2), s5) else chk (ix p2 4) (cll (f_X4_isLost p2.toNat s5) (fun r8 s9 => chk (in32 r8) ((if r8 = 0 then cll (f_X6_refresh s9) (fun _ s12 => cll (f_X5_told 3 s12) (fun r13 s14 => chk (in32 (s12 (50 + p2.toNat) 2)) (chk (in32 r13) (L_X8_write_69 FU s14 p1 p2 (min (s12 (50 + p2.toNat) 2) r13) 0)))) else cll (f_X8_find s9 1) (fun r17 s18 => some (r17, s18))))))))))))
set_option maxRecDepth 100000 in
set_option maxHeartbeats 4000000 in
theorem c_X8_write (l : Launch) (G : Ge) (hG : rr_GD G) (s : St) (p1 p2 : Int) : rr_Ct l G yX8_write cX8_write 5 (some .int) 4 87 1 [vr G 0, vi p1, vi p2] s (f_X8_write s p1 p2) := by
  refine rr_mk (lv := [(0, vr G 0), (1, vi p1), (2, vi p2)]) RX8 (by decide) rfl hG (Nat.le_of_ble_eq_true rfl) rfl ?_
  intro X Z hO hf
  unfold f_X8_write at hf
  refine at_iload_n hO 1 rfl rfl dX8_write_0 1 rfl ?_
  refine at_iconst hO dX8_write_1 2 rfl ?_
  refine at_callS1 (As := [vi p1, vi 3]) (st := []) hO (c_X8_inside _ G hO.g s p1 3) mb_X8_inside ms_X8_inside lk_X8_89 rfl ⟨(Nat.le_of_ble_eq_true rfl), (Nat.le_of_ble_eq_true rfl)⟩ (Nat.le_of_ble_eq_true rfl) rfl dX8_write_2 5 rfl hf (fun r1 s2 hf => ?_)
  obtain ⟨h3, hf⟩ := chk_some hf
  refine at_if_eq hO h3 dX8_write_5 16 rfl 8 rfl hf (fun hf => ?_) (fun hf => ?_)
  · refine at_bipush hO (by decide) dX8_write_16 18 rfl ?_
    exact at_ireturn hO dX8_write_18 hf
  · refine at_iload_n hO 2 rfl rfl dX8_write_8 9 rfl ?_
    refine at_iconst hO dX8_write_9 10 rfl ?_
    refine at_callS1 (As := [vi p2, vi 4]) (st := []) hO (c_X8_inside _ G hO.g s2 p2 4) mb_X8_inside ms_X8_inside lk_X8_89 rfl ⟨(Nat.le_of_ble_eq_true rfl), (Nat.le_of_ble_eq_true rfl)⟩ (Nat.le_of_ble_eq_true rfl) rfl dX8_write_10 13 rfl hf (fun r4 s5 hf => ?_)
    obtain ⟨h6, hf⟩ := chk_some hf
    refine at_if_ne hO h6 dX8_write_13 19 rfl 16 rfl hf (fun hf => ?_) (fun hf => ?_)
    · refine at_aload_n hO 0 rfl rfl dX8_write_19 20 rfl ?_
      refine at_getR hO fl_X8_74 rfl rfl dX8_write_20 23 rfl ?_
      refine at_iload_n hO 2 rfl rfl dX8_write_23 24 rfl ?_
      obtain ⟨h7, hf⟩ := chk_some hf
      refine at_aaload4 hO rfl (Nat.le_of_ble_eq_true rfl) h7 (50 + p2.toNat) rfl dX8_write_24 25 rfl ?_
      refine at_callV1 (As := []) (st := []) hO (c_X4_isLost _ G hO.g p2.toNat (ix_nat h7) s5 ) mb_X4_isLost mi_X4_isLost lk_X8_152 (tb_sheet (ix_nat h7)) ⟨_, rfl, rfl⟩ rfl ⟨(Nat.le_of_ble_eq_true rfl), (Nat.le_of_ble_eq_true rfl)⟩ (Nat.le_of_ble_eq_true rfl) rfl dX8_write_25 28 rfl hf (fun r8 s9 hf => ?_)
      obtain ⟨h10, hf⟩ := chk_some hf
      refine at_if_eq hO h10 dX8_write_28 37 rfl 31 rfl hf (fun hf => ?_) (fun hf => ?_)
      · refine at_aload_n hO 0 rfl rfl dX8_write_37 38 rfl ?_
        refine at_getR hO fl_X8_34 rfl rfl dX8_write_38 41 rfl ?_
        refine at_callV0 (As := []) (st := []) hO (c_X6_refresh _ G hO.g s9 ) mb_X6_refresh mi_X6_refresh lk_X8_127 rfl ⟨_, rfl, rfl⟩ rfl ⟨(Nat.le_of_ble_eq_true rfl), (Nat.le_of_ble_eq_true rfl)⟩ (Nat.le_of_ble_eq_true rfl) rfl dX8_write_41 44 rfl hf (fun r11 s12 hf => ?_)
        refine at_aload_n hO 0 rfl rfl dX8_write_44 45 rfl ?_
        refine at_getR hO fl_X8_74 rfl rfl dX8_write_45 48 rfl ?_
        refine at_iload_n hO 2 rfl rfl dX8_write_48 49 rfl ?_
        refine at_aaload4 hO rfl (Nat.le_of_ble_eq_true rfl) h7 (50 + p2.toNat) rfl dX8_write_49 50 rfl ?_
        refine at_getIN hO fl_X8_273 (tb_sheet (ix_nat h7)) rfl dX8_write_50 53 rfl ?_
        refine at_aload_n hO 0 rfl rfl dX8_write_53 54 rfl ?_
        refine at_getR hO fl_X8_11 rfl rfl dX8_write_54 57 rfl ?_
        refine at_iconst hO dX8_write_57 58 rfl ?_
        refine at_aaload3 hO rfl (Nat.le_of_ble_eq_true rfl) (by decide) 5 rfl dX8_write_58 59 rfl ?_
        refine at_callV1 (As := []) (st := [vi (s12 (50 + p2.toNat) 2)]) hO (c_X5_told _ G hO.g 3 (by decide) s12 ) mb_X5_told mi_X5_told lk_X8_262 rfl ⟨_, rfl, rfl⟩ rfl ⟨(Nat.le_of_ble_eq_true rfl), (Nat.le_of_ble_eq_true rfl)⟩ (Nat.le_of_ble_eq_true rfl) rfl dX8_write_59 62 rfl hf (fun r13 s14 hf => ?_)
        obtain ⟨h15, hf⟩ := chk_some hf
        obtain ⟨h16, hf⟩ := chk_some hf
        refine at_mmin hO h15 h16 lk_X8_172 ⟨(Nat.le_of_ble_eq_true rfl), (Nat.le_of_ble_eq_true rfl)⟩ dX8_write_62 65 rfl ?_
        refine at_istore_n hO (lv' := [(3, vi (min (s12 (50 + p2.toNat) 2) r13)), (0, vr G 0), (1, vi p1), (2, vi p2)]) rfl (Nat.le_of_ble_eq_true rfl) rfl dX8_write_65 66 rfl ?_
        refine at_iconst hO dX8_write_66 67 rfl ?_
        refine at_istore hO (lv' := [(4, vi 0), (3, vi (min (s12 (50 + p2.toNat) 2) r13)), (0, vr G 0), (1, vi p1), (2, vi p2)]) (Nat.le_of_ble_eq_true rfl) rfl dX8_write_67 69 rfl ?_
        exact at_sub (fun ls h => lv_sub h [2, 3, 4, 1, 0] rfl) (wL_X8_write_69 hO FU s14 p1 p2 (min (s12 (50 + p2.toNat) 2) r13) 0 hf)
      · refine at_aload_n hO 0 rfl rfl dX8_write_31 32 rfl ?_
        refine at_iconst hO dX8_write_32 33 rfl ?_
        refine at_callV1 (As := [vi 1]) (st := []) hO (c_X8_find _ G hO.g s9 1) mb_X8_find mi_X8_find lk_X8_155 rfl ⟨_, rfl, rfl⟩ rfl ⟨(Nat.le_of_ble_eq_true rfl), (Nat.le_of_ble_eq_true rfl)⟩ (Nat.le_of_ble_eq_true rfl) rfl dX8_write_33 36 rfl hf (fun r17 s18 hf => ?_)
        exact at_ireturn hO dX8_write_36 hf
    · refine at_bipush hO (by decide) dX8_write_16 18 rfl ?_
      exact at_ireturn hO dX8_write_18 hf

def f_X8_count (s : St) (p1 : Int) : Option Rt := chk (in32 p1) ((if p1 = 0 then cll (f_X5_told 3 s) (fun r2 s3 => some (r2, s3)) else (if p1 = 1 then chk (ix (p1 - 1) 4) (cll (f_X5_told (p1 - 1).toNat s) (fun r5 s6 => some (r5, s6))) else (if p1 = 2 then chk (ix (p1 - 1) 4) (cll (f_X5_told (p1 - 1).toNat s) (fun r8 s9 => some (r8, s9))) else (if p1 = 3 then chk (ix (p1 - 1) 4) (cll (f_X5_told (p1 - 1).toNat s) (fun r11 s12 => some (r11, s12))) else (if p1 = 4 then some ((s 12 3), s) else (if p1 = 5 then cll (f_J6_bitCount_0f7a4 s (s 37 6)) (fun r13 s14 => some (r13, s14)) else (if p1 = 6 then some ((s 45 3), s) else (if p1 = 7 then cll (f_X8_allChances s) (fun r15 s16 => some (r15, s16)) else (if p1 = 8 then some ((s 0 10), s) else some ((-2), s)))))))))))
set_option maxRecDepth 100000 in
set_option maxHeartbeats 4000000 in
theorem c_X8_count (l : Launch) (G : Ge) (hG : rr_GD G) (s : St) (p1 : Int) : rr_Ct l G yX8_count cX8_count 2 (some .int) 2 41 1 [vr G 0, vi p1] s (f_X8_count s p1) := by
  refine rr_mk (lv := [(0, vr G 0), (1, vi p1)]) RX8 (by decide) rfl hG (Nat.le_of_ble_eq_true rfl) rfl ?_
  intro X Z hO hf
  unfold f_X8_count at hf
  refine at_iload_n hO 1 rfl rfl dX8_count_0 1 rfl ?_
  obtain ⟨h1, hf⟩ := chk_some hf
  by_cases e25 : p1 = 0
  · rw [if_pos e25] at hf
    refine at_tsIn hO 0 dX8_count_1 (by omega) (by decide) (by decide) rfl 52 rfl ?_
    refine at_aload_n hO 0 rfl rfl dX8_count_52 53 rfl ?_
    refine at_getR hO fl_X8_11 rfl rfl dX8_count_53 56 rfl ?_
    refine at_iconst hO dX8_count_56 57 rfl ?_
    refine at_aaload3 hO rfl (Nat.le_of_ble_eq_true rfl) (by decide) 5 rfl dX8_count_57 58 rfl ?_
    refine at_callV1 (As := []) (st := []) hO (c_X5_told _ G hO.g 3 (by decide) s ) mb_X5_told mi_X5_told lk_X8_262 rfl ⟨_, rfl, rfl⟩ rfl ⟨(Nat.le_of_ble_eq_true rfl), (Nat.le_of_ble_eq_true rfl)⟩ (Nat.le_of_ble_eq_true rfl) rfl dX8_count_58 61 rfl hf (fun r2 s3 hf => ?_)
    exact at_ireturn hO dX8_count_61 hf
  · rw [if_neg e25] at hf
    by_cases e24 : p1 = 1
    · rw [if_pos e24] at hf
      refine at_tsIn hO 1 dX8_count_1 (by omega) (by decide) (by decide) rfl 62 rfl ?_
      refine at_aload_n hO 0 rfl rfl dX8_count_62 63 rfl ?_
      refine at_getR hO fl_X8_11 rfl rfl dX8_count_63 66 rfl ?_
      refine at_iload_n hO 1 rfl rfl dX8_count_66 67 rfl ?_
      refine at_iconst hO dX8_count_67 68 rfl ?_
      refine at_isub hO dX8_count_68 69 rfl ?_
      obtain ⟨h4, hf⟩ := chk_some hf
      refine at_aaload3 hO rfl (Nat.le_of_ble_eq_true rfl) h4 (2 + (p1 - 1).toNat) rfl dX8_count_69 70 rfl ?_
      refine at_callV1 (As := []) (st := []) hO (c_X5_told _ G hO.g (p1 - 1).toNat (ix_nat h4) s ) mb_X5_told mi_X5_told lk_X8_262 (tb_text (ix_nat h4)) ⟨_, rfl, rfl⟩ rfl ⟨(Nat.le_of_ble_eq_true rfl), (Nat.le_of_ble_eq_true rfl)⟩ (Nat.le_of_ble_eq_true rfl) rfl dX8_count_70 73 rfl hf (fun r5 s6 hf => ?_)
      exact at_ireturn hO dX8_count_73 hf
    · rw [if_neg e24] at hf
      by_cases e23 : p1 = 2
      · rw [if_pos e23] at hf
        refine at_tsIn hO 2 dX8_count_1 (by omega) (by decide) (by decide) rfl 62 rfl ?_
        refine at_aload_n hO 0 rfl rfl dX8_count_62 63 rfl ?_
        refine at_getR hO fl_X8_11 rfl rfl dX8_count_63 66 rfl ?_
        refine at_iload_n hO 1 rfl rfl dX8_count_66 67 rfl ?_
        refine at_iconst hO dX8_count_67 68 rfl ?_
        refine at_isub hO dX8_count_68 69 rfl ?_
        obtain ⟨h7, hf⟩ := chk_some hf
        refine at_aaload3 hO rfl (Nat.le_of_ble_eq_true rfl) h7 (2 + (p1 - 1).toNat) rfl dX8_count_69 70 rfl ?_
        refine at_callV1 (As := []) (st := []) hO (c_X5_told _ G hO.g (p1 - 1).toNat (ix_nat h7) s ) mb_X5_told mi_X5_told lk_X8_262 (tb_text (ix_nat h7)) ⟨_, rfl, rfl⟩ rfl ⟨(Nat.le_of_ble_eq_true rfl), (Nat.le_of_ble_eq_true rfl)⟩ (Nat.le_of_ble_eq_true rfl) rfl dX8_count_70 73 rfl hf (fun r8 s9 hf => ?_)
        exact at_ireturn hO dX8_count_73 hf
      · rw [if_neg e23] at hf
        by_cases e22 : p1 = 3
        · rw [if_pos e22] at hf
          refine at_tsIn hO 3 dX8_count_1 (by omega) (by decide) (by decide) rfl 62 rfl ?_
          refine at_aload_n hO 0 rfl rfl dX8_count_62 63 rfl ?_
          refine at_getR hO fl_X8_11 rfl rfl dX8_count_63 66 rfl ?_
          refine at_iload_n hO 1 rfl rfl dX8_count_66 67 rfl ?_
          refine at_iconst hO dX8_count_67 68 rfl ?_
          refine at_isub hO dX8_count_68 69 rfl ?_
          obtain ⟨h10, hf⟩ := chk_some hf
          refine at_aaload3 hO rfl (Nat.le_of_ble_eq_true rfl) h10 (2 + (p1 - 1).toNat) rfl dX8_count_69 70 rfl ?_
          refine at_callV1 (As := []) (st := []) hO (c_X5_told _ G hO.g (p1 - 1).toNat (ix_nat h10) s ) mb_X5_told mi_X5_told lk_X8_262 (tb_text (ix_nat h10)) ⟨_, rfl, rfl⟩ rfl ⟨(Nat.le_of_ble_eq_true rfl), (Nat.le_of_ble_eq_true rfl)⟩ (Nat.le_of_ble_eq_true rfl) rfl dX8_count_70 73 rfl hf (fun r11 s12 hf => ?_)
          exact at_ireturn hO dX8_count_73 hf
        · rw [if_neg e22] at hf
          by_cases e21 : p1 = 4
          · rw [if_pos e21] at hf
            refine at_tsIn hO 4 dX8_count_1 (by omega) (by decide) (by decide) rfl 74 rfl ?_
            refine at_aload_n hO 0 rfl rfl dX8_count_74 75 rfl ?_
            refine at_getR hO fl_X8_25 rfl rfl dX8_count_75 78 rfl ?_
            refine at_getIN hO fl_X8_149 rfl rfl dX8_count_78 81 rfl ?_
            exact at_ireturn hO dX8_count_81 hf
          · rw [if_neg e21] at hf
            by_cases e20 : p1 = 5
            · rw [if_pos e20] at hf
              refine at_tsIn hO 5 dX8_count_1 (by omega) (by decide) (by decide) rfl 82 rfl ?_
              refine at_aload_n hO 0 rfl rfl dX8_count_82 83 rfl ?_
              refine at_getR hO fl_X8_61 rfl rfl dX8_count_83 86 rfl ?_
              refine at_getIN hO fl_X8_302 rfl rfl dX8_count_86 89 rfl ?_
              refine at_callS1 (As := [vi (s 37 6)]) (st := []) hO (c_J6_bitCount_0f7a4 _ G hO.g s (s 37 6)) mb_J6_bitCount_0f7a4 ms_J6_bitCount_0f7a4 lk_X8_192 rfl ⟨(Nat.le_of_ble_eq_true rfl), (Nat.le_of_ble_eq_true rfl)⟩ (Nat.le_of_ble_eq_true rfl) rfl dX8_count_89 92 rfl hf (fun r13 s14 hf => ?_)
              exact at_ireturn hO dX8_count_92 hf
            · rw [if_neg e20] at hf
              by_cases e19 : p1 = 6
              · rw [if_pos e19] at hf
                refine at_tsIn hO 6 dX8_count_1 (by omega) (by decide) (by decide) rfl 93 rfl ?_
                refine at_aload_n hO 0 rfl rfl dX8_count_93 94 rfl ?_
                refine at_getR hO fl_X8_68 rfl rfl dX8_count_94 97 rfl ?_
                refine at_getIN hO fl_X8_260 rfl rfl dX8_count_97 100 rfl ?_
                exact at_ireturn hO dX8_count_100 hf
              · rw [if_neg e19] at hf
                by_cases e18 : p1 = 7
                · rw [if_pos e18] at hf
                  refine at_tsIn hO 7 dX8_count_1 (by omega) (by decide) (by decide) rfl 101 rfl ?_
                  refine at_aload_n hO 0 rfl rfl dX8_count_101 102 rfl ?_
                  refine at_callV1 (As := []) (st := []) hO (c_X8_allChances _ G hO.g s ) mb_X8_allChances mi_X8_allChances lk_X8_250 rfl ⟨_, rfl, rfl⟩ rfl ⟨(Nat.le_of_ble_eq_true rfl), (Nat.le_of_ble_eq_true rfl)⟩ (Nat.le_of_ble_eq_true rfl) rfl dX8_count_102 105 rfl hf (fun r15 s16 hf => ?_)
                  exact at_ireturn hO dX8_count_105 hf
                · rw [if_neg e18] at hf
                  by_cases e17 : p1 = 8
                  · rw [if_pos e17] at hf
                    refine at_tsIn hO 8 dX8_count_1 (by omega) (by decide) (by decide) rfl 106 rfl ?_
                    refine at_aload_n hO 0 rfl rfl dX8_count_106 107 rfl ?_
                    refine at_getI hO fl_X8_78 rfl rfl dX8_count_107 110 rfl ?_
                    exact at_ireturn hO dX8_count_110 hf
                  · rw [if_neg e17] at hf
                    refine at_tsOut hO h1 dX8_count_1 (by omega) 111 rfl ?_
                    refine at_bipush hO (by decide) dX8_count_111 113 rfl ?_
                    exact at_ireturn hO dX8_count_113 hf

def S_X8_digestSpring_172 (rec172 : St → Int → Int → Int → Option Rt) (s : St) (v3 v4 v6 : Int) : Option Rt := chk (in32 v6) ((if 3 ≤ v6 then cll (f_X8_closed s v3 0) (fun r2 s3 => chk (in32 r2) (some (((31 * v4) + r2), s3))) else cll (f_X8_keep s v3 5 0 4 2 v6) (fun r5 s6 => chk (in32 r5) (rec172 s6 v3 ((31 * v4) + r5) (v6 + 1)))))
def L_X8_digestSpring_172 : Nat → St → Int → Int → Int → Option Rt
  | 0, _, _, _, _ => none
  | n + 1, s, v3, v4, v6 => S_X8_digestSpring_172 (L_X8_digestSpring_172 n) s v3 v4 v6
set_option maxRecDepth 100000 in
set_option maxHeartbeats 4000000 in
theorem wS_X8_digestSpring_172 {X : CX} {G : Ge} {Z : Rt} {rec172 : St → Int → Int → Int → Option Rt} (hO : rr_OK X G cX8_digestSpring 7 RX8 (some .long) 5 124) (hrec172 : ∀ (s : St) (v3 v4 v6 : Int), rec172 s v3 v4 v6 = some Z → rr_AT X G 7 2 Z 172 [(0, vr G 0), (3, vi v3), (4, vl v4), (6, vi v6)] [] s) (s : St) (v3 v4 v6 : Int) (hf : S_X8_digestSpring_172 rec172 s v3 v4 v6 = some Z) : rr_AT X G 7 2 Z 172 [(0, vr G 0), (3, vi v3), (4, vl v4), (6, vi v6)] [] s := by
  unfold S_X8_digestSpring_172 at hf
  refine at_iload hO 3 rfl dX8_digestSpring_172 174 rfl ?_
  refine at_iconst hO dX8_digestSpring_174 175 rfl ?_
  obtain ⟨h1, hf⟩ := chk_some hf
  refine at_icmp_ge hO h1 (by decide) dX8_digestSpring_175 205 rfl 178 rfl hf (fun hf => ?_) (fun hf => ?_)
  · refine at_ldc2_w (n := 31) hO lc_X8_307 (by decide) dX8_digestSpring_205 208 rfl ?_
    refine at_lload hO 2 rfl dX8_digestSpring_208 210 rfl ?_
    refine at_lmul hO dX8_digestSpring_210 211 rfl ?_
    refine at_aload_n hO 0 rfl rfl dX8_digestSpring_211 212 rfl ?_
    refine at_iload_n hO 1 rfl rfl dX8_digestSpring_212 213 rfl ?_
    refine at_iconst hO dX8_digestSpring_213 214 rfl ?_
    refine at_callV1 (As := [vi v3, vi 0]) (st := [vl (31 * v4)]) hO (c_X8_closed _ G hO.g s v3 0) mb_X8_closed mi_X8_closed lk_X8_359 rfl ⟨_, rfl, rfl⟩ rfl ⟨(Nat.le_of_ble_eq_true rfl), (Nat.le_of_ble_eq_true rfl)⟩ (Nat.le_of_ble_eq_true rfl) rfl dX8_digestSpring_214 217 rfl hf (fun r2 s3 hf => ?_)
    obtain ⟨h4, hf⟩ := chk_some hf
    refine at_i2l hO h4 dX8_digestSpring_217 218 rfl ?_
    refine at_ladd hO dX8_digestSpring_218 219 rfl ?_
    exact at_lreturn hO dX8_digestSpring_219 hf
  · refine at_ldc2_w (n := 31) hO lc_X8_307 (by decide) dX8_digestSpring_178 181 rfl ?_
    refine at_lload hO 2 rfl dX8_digestSpring_181 183 rfl ?_
    refine at_lmul hO dX8_digestSpring_183 184 rfl ?_
    refine at_aload_n hO 0 rfl rfl dX8_digestSpring_184 185 rfl ?_
    refine at_iload_n hO 1 rfl rfl dX8_digestSpring_185 186 rfl ?_
    refine at_iconst hO dX8_digestSpring_186 187 rfl ?_
    refine at_iconst hO dX8_digestSpring_187 188 rfl ?_
    refine at_iconst hO dX8_digestSpring_188 189 rfl ?_
    refine at_iconst hO dX8_digestSpring_189 190 rfl ?_
    refine at_iload hO 3 rfl dX8_digestSpring_190 192 rfl ?_
    refine at_callV1 (As := [vi v3, vi 5, vi 0, vi 4, vi 2, vi v6]) (st := [vl (31 * v4)]) hO (c_X8_keep _ G hO.g s v3 5 0 4 2 v6) mb_X8_keep mi_X8_keep lk_X8_355 rfl ⟨_, rfl, rfl⟩ rfl ⟨(Nat.le_of_ble_eq_true rfl), (Nat.le_of_ble_eq_true rfl)⟩ (Nat.le_of_ble_eq_true rfl) rfl dX8_digestSpring_192 195 rfl hf (fun r5 s6 hf => ?_)
    obtain ⟨h7, hf⟩ := chk_some hf
    refine at_i2l hO h7 dX8_digestSpring_195 196 rfl ?_
    refine at_ladd hO dX8_digestSpring_196 197 rfl ?_
    refine at_lstore hO (lv' := [(4, vl ((31 * v4) + r5)), (0, vr G 0), (3, vi v3), (6, vi v6)]) (Nat.le_of_ble_eq_true rfl) rfl dX8_digestSpring_197 199 rfl ?_
    refine at_iinc hO (lv' := [(6, vi (v6 + 1)), (4, vl ((31 * v4) + r5)), (0, vr G 0), (3, vi v3)]) 3 rfl (Nat.le_of_ble_eq_true rfl) rfl dX8_digestSpring_199 202 rfl ?_
    refine at_goto hO dX8_digestSpring_202 172 rfl ?_
    exact at_sub (fun ls h => lv_sub h [2, 3, 1, 0] rfl) (hrec172 s6 v3 ((31 * v4) + r5) (v6 + 1) hf)
theorem wL_X8_digestSpring_172 {X : CX} {G : Ge} {Z : Rt} (hO : rr_OK X G cX8_digestSpring 7 RX8 (some .long) 5 124) : ∀ (n : Nat) (s : St) (v3 v4 v6 : Int), L_X8_digestSpring_172 n s v3 v4 v6 = some Z → rr_AT X G 7 2 Z 172 [(0, vr G 0), (3, vi v3), (4, vl v4), (6, vi v6)] [] s := by
  intro n
  induction n with
  | zero =>
    intro s v3 v4 v6 hf
    cases hf
  | succ n ih =>
    intro s v3 v4 v6 hf
    exact wS_X8_digestSpring_172 hO ih s v3 v4 v6 hf
def S_X8_digestSpring_86 (rec86 : St → Int → Int → Int → Option Rt) (s : St) (v3 v4 v6 : Int) : Option Rt := chk (in32 v6) ((if 3 ≤ v6 then cll (f_X8_waits s v3 4 0 2 0) (fun r2 s3 => cll (f_X8_waits s3 v3 4 0 2 1) (fun r4 s5 => cll (f_X8_goes s5 v3 4 0 2) (fun r6 s7 => chk (in32 r6) (L_X8_digestSpring_172 FU s7 v3 ((31 * ((31 * ((31 * v4) + r2)) + r4)) + r6) 0)))) else cll (f_X8_deed s v3 v6) (fun r9 s10 => chk (in32 r9) (rec86 s10 v3 ((31 * v4) + r9) (v6 + 1)))))
def L_X8_digestSpring_86 : Nat → St → Int → Int → Int → Option Rt
  | 0, _, _, _, _ => none
  | n + 1, s, v3, v4, v6 => S_X8_digestSpring_86 (L_X8_digestSpring_86 n) s v3 v4 v6
set_option maxRecDepth 100000 in
set_option maxHeartbeats 4000000 in
theorem wS_X8_digestSpring_86 {X : CX} {G : Ge} {Z : Rt} {rec86 : St → Int → Int → Int → Option Rt} (hO : rr_OK X G cX8_digestSpring 7 RX8 (some .long) 5 124) (hrec86 : ∀ (s : St) (v3 v4 v6 : Int), rec86 s v3 v4 v6 = some Z → rr_AT X G 7 2 Z 86 [(0, vr G 0), (3, vi v3), (4, vl v4), (6, vi v6)] [] s) (s : St) (v3 v4 v6 : Int) (hf : S_X8_digestSpring_86 rec86 s v3 v4 v6 = some Z) : rr_AT X G 7 2 Z 86 [(0, vr G 0), (3, vi v3), (4, vl v4), (6, vi v6)] [] s := by
  unfold S_X8_digestSpring_86 at hf
  refine at_iload hO 3 rfl dX8_digestSpring_86 88 rfl ?_
  refine at_iconst hO dX8_digestSpring_88 89 rfl ?_
  obtain ⟨h1, hf⟩ := chk_some hf
  refine at_icmp_ge hO h1 (by decide) dX8_digestSpring_89 115 rfl 92 rfl hf (fun hf => ?_) (fun hf => ?_)
  · refine at_ldc2_w (n := 31) hO lc_X8_307 (by decide) dX8_digestSpring_115 118 rfl ?_
    refine at_lload hO 2 rfl dX8_digestSpring_118 120 rfl ?_
    refine at_lmul hO dX8_digestSpring_120 121 rfl ?_
    refine at_aload_n hO 0 rfl rfl dX8_digestSpring_121 122 rfl ?_
    refine at_iload_n hO 1 rfl rfl dX8_digestSpring_122 123 rfl ?_
    refine at_iconst hO dX8_digestSpring_123 124 rfl ?_
    refine at_iconst hO dX8_digestSpring_124 125 rfl ?_
    refine at_iconst hO dX8_digestSpring_125 126 rfl ?_
    refine at_iconst hO dX8_digestSpring_126 127 rfl ?_
    refine at_callV2 (As := [vi v3, vi 4, vi 0, vi 2, vi 0]) (st := [vl (31 * v4)]) hO (c_X8_waits _ G hO.g s v3 4 0 2 0) mb_X8_waits mi_X8_waits lk_X8_348 rfl ⟨_, rfl, rfl⟩ rfl ⟨(Nat.le_of_ble_eq_true rfl), (Nat.le_of_ble_eq_true rfl)⟩ (Nat.le_of_ble_eq_true rfl) rfl dX8_digestSpring_127 130 rfl hf (fun r2 s3 hf => ?_)
    refine at_ladd hO dX8_digestSpring_130 131 rfl ?_
    refine at_lstore hO (lv' := [(4, vl ((31 * v4) + r2)), (0, vr G 0), (3, vi v3), (6, vi v6)]) (Nat.le_of_ble_eq_true rfl) rfl dX8_digestSpring_131 133 rfl ?_
    refine at_ldc2_w (n := 31) hO lc_X8_307 (by decide) dX8_digestSpring_133 136 rfl ?_
    refine at_lload hO 0 rfl dX8_digestSpring_136 138 rfl ?_
    refine at_lmul hO dX8_digestSpring_138 139 rfl ?_
    refine at_aload_n hO 1 rfl rfl dX8_digestSpring_139 140 rfl ?_
    refine at_iload_n hO 2 rfl rfl dX8_digestSpring_140 141 rfl ?_
    refine at_iconst hO dX8_digestSpring_141 142 rfl ?_
    refine at_iconst hO dX8_digestSpring_142 143 rfl ?_
    refine at_iconst hO dX8_digestSpring_143 144 rfl ?_
    refine at_iconst hO dX8_digestSpring_144 145 rfl ?_
    refine at_callV2 (As := [vi v3, vi 4, vi 0, vi 2, vi 1]) (st := [vl (31 * ((31 * v4) + r2))]) hO (c_X8_waits _ G hO.g s3 v3 4 0 2 1) mb_X8_waits mi_X8_waits lk_X8_348 rfl ⟨_, rfl, rfl⟩ rfl ⟨(Nat.le_of_ble_eq_true rfl), (Nat.le_of_ble_eq_true rfl)⟩ (Nat.le_of_ble_eq_true rfl) rfl dX8_digestSpring_145 148 rfl hf (fun r4 s5 hf => ?_)
    refine at_ladd hO dX8_digestSpring_148 149 rfl ?_
    refine at_lstore hO (lv' := [(4, vl ((31 * ((31 * v4) + r2)) + r4)), (0, vr G 0), (3, vi v3), (6, vi v6)]) (Nat.le_of_ble_eq_true rfl) rfl dX8_digestSpring_149 151 rfl ?_
    refine at_ldc2_w (n := 31) hO lc_X8_307 (by decide) dX8_digestSpring_151 154 rfl ?_
    refine at_lload hO 0 rfl dX8_digestSpring_154 156 rfl ?_
    refine at_lmul hO dX8_digestSpring_156 157 rfl ?_
    refine at_aload_n hO 1 rfl rfl dX8_digestSpring_157 158 rfl ?_
    refine at_iload_n hO 2 rfl rfl dX8_digestSpring_158 159 rfl ?_
    refine at_iconst hO dX8_digestSpring_159 160 rfl ?_
    refine at_iconst hO dX8_digestSpring_160 161 rfl ?_
    refine at_iconst hO dX8_digestSpring_161 162 rfl ?_
    refine at_callV1 (As := [vi v3, vi 4, vi 0, vi 2]) (st := [vl (31 * ((31 * ((31 * v4) + r2)) + r4))]) hO (c_X8_goes _ G hO.g s5 v3 4 0 2) mb_X8_goes mi_X8_goes lk_X8_352 rfl ⟨_, rfl, rfl⟩ rfl ⟨(Nat.le_of_ble_eq_true rfl), (Nat.le_of_ble_eq_true rfl)⟩ (Nat.le_of_ble_eq_true rfl) rfl dX8_digestSpring_162 165 rfl hf (fun r6 s7 hf => ?_)
    obtain ⟨h8, hf⟩ := chk_some hf
    refine at_i2l hO h8 dX8_digestSpring_165 166 rfl ?_
    refine at_ladd hO dX8_digestSpring_166 167 rfl ?_
    refine at_lstore hO (lv' := [(4, vl ((31 * ((31 * ((31 * v4) + r2)) + r4)) + r6)), (0, vr G 0), (3, vi v3), (6, vi v6)]) (Nat.le_of_ble_eq_true rfl) rfl dX8_digestSpring_167 169 rfl ?_
    refine at_iconst hO dX8_digestSpring_169 170 rfl ?_
    refine at_istore hO (lv' := [(6, vi 0), (4, vl ((31 * ((31 * ((31 * v4) + r2)) + r4)) + r6)), (0, vr G 0), (3, vi v3)]) (Nat.le_of_ble_eq_true rfl) rfl dX8_digestSpring_170 172 rfl ?_
    exact at_sub (fun ls h => lv_sub h [2, 3, 1, 0] rfl) (wL_X8_digestSpring_172 hO FU s7 v3 ((31 * ((31 * ((31 * v4) + r2)) + r4)) + r6) 0 hf)
  · refine at_ldc2_w (n := 31) hO lc_X8_307 (by decide) dX8_digestSpring_92 95 rfl ?_
    refine at_lload hO 2 rfl dX8_digestSpring_95 97 rfl ?_
    refine at_lmul hO dX8_digestSpring_97 98 rfl ?_
    refine at_aload_n hO 0 rfl rfl dX8_digestSpring_98 99 rfl ?_
    refine at_iload_n hO 1 rfl rfl dX8_digestSpring_99 100 rfl ?_
    refine at_iload hO 3 rfl dX8_digestSpring_100 102 rfl ?_
    refine at_callV1 (As := [vi v3, vi v6]) (st := [vl (31 * v4)]) hO (c_X8_deed _ G hO.g s v3 v6) mb_X8_deed mi_X8_deed lk_X8_345 rfl ⟨_, rfl, rfl⟩ rfl ⟨(Nat.le_of_ble_eq_true rfl), (Nat.le_of_ble_eq_true rfl)⟩ (Nat.le_of_ble_eq_true rfl) rfl dX8_digestSpring_102 105 rfl hf (fun r9 s10 hf => ?_)
    obtain ⟨h11, hf⟩ := chk_some hf
    refine at_i2l hO h11 dX8_digestSpring_105 106 rfl ?_
    refine at_ladd hO dX8_digestSpring_106 107 rfl ?_
    refine at_lstore hO (lv' := [(4, vl ((31 * v4) + r9)), (0, vr G 0), (3, vi v3), (6, vi v6)]) (Nat.le_of_ble_eq_true rfl) rfl dX8_digestSpring_107 109 rfl ?_
    refine at_iinc hO (lv' := [(6, vi (v6 + 1)), (4, vl ((31 * v4) + r9)), (0, vr G 0), (3, vi v3)]) 3 rfl (Nat.le_of_ble_eq_true rfl) rfl dX8_digestSpring_109 112 rfl ?_
    refine at_goto hO dX8_digestSpring_112 86 rfl ?_
    exact at_sub (fun ls h => lv_sub h [2, 3, 1, 0] rfl) (hrec86 s10 v3 ((31 * v4) + r9) (v6 + 1) hf)
theorem wL_X8_digestSpring_86 {X : CX} {G : Ge} {Z : Rt} (hO : rr_OK X G cX8_digestSpring 7 RX8 (some .long) 5 124) : ∀ (n : Nat) (s : St) (v3 v4 v6 : Int), L_X8_digestSpring_86 n s v3 v4 v6 = some Z → rr_AT X G 7 2 Z 86 [(0, vr G 0), (3, vi v3), (4, vl v4), (6, vi v6)] [] s := by
  intro n
  induction n with
  | zero =>
    intro s v3 v4 v6 hf
    cases hf
  | succ n ih =>
    intro s v3 v4 v6 hf
    exact wS_X8_digestSpring_86 hO ih s v3 v4 v6 hf
def S_X8_digestSpring_51 (rec51 : St → Int → Int → Int → Option Rt) (s : St) (v3 v4 v6 : Int) : Option Rt := chk (in32 v6) ((if 3 ≤ v6 then L_X8_digestSpring_86 FU s v3 v4 0 else cll (f_X8_cost s v3 5 0 3 v6) (fun r2 s3 => chk (in32 r2) (rec51 s3 v3 ((31 * v4) + r2) (v6 + 1)))))
def L_X8_digestSpring_51 : Nat → St → Int → Int → Int → Option Rt
  | 0, _, _, _, _ => none
  | n + 1, s, v3, v4, v6 => S_X8_digestSpring_51 (L_X8_digestSpring_51 n) s v3 v4 v6
set_option maxRecDepth 100000 in
set_option maxHeartbeats 4000000 in
theorem wS_X8_digestSpring_51 {X : CX} {G : Ge} {Z : Rt} {rec51 : St → Int → Int → Int → Option Rt} (hO : rr_OK X G cX8_digestSpring 7 RX8 (some .long) 5 124) (hrec51 : ∀ (s : St) (v3 v4 v6 : Int), rec51 s v3 v4 v6 = some Z → rr_AT X G 7 2 Z 51 [(0, vr G 0), (3, vi v3), (4, vl v4), (6, vi v6)] [] s) (s : St) (v3 v4 v6 : Int) (hf : S_X8_digestSpring_51 rec51 s v3 v4 v6 = some Z) : rr_AT X G 7 2 Z 51 [(0, vr G 0), (3, vi v3), (4, vl v4), (6, vi v6)] [] s := by
  unfold S_X8_digestSpring_51 at hf
  refine at_iload hO 3 rfl dX8_digestSpring_51 53 rfl ?_
  refine at_iconst hO dX8_digestSpring_53 54 rfl ?_
  obtain ⟨h1, hf⟩ := chk_some hf
  refine at_icmp_ge hO h1 (by decide) dX8_digestSpring_54 83 rfl 57 rfl hf (fun hf => ?_) (fun hf => ?_)
  · refine at_iconst hO dX8_digestSpring_83 84 rfl ?_
    refine at_istore hO (lv' := [(6, vi 0), (0, vr G 0), (3, vi v3), (4, vl v4)]) (Nat.le_of_ble_eq_true rfl) rfl dX8_digestSpring_84 86 rfl ?_
    exact at_sub (fun ls h => lv_sub h [1, 2, 3, 0] rfl) (wL_X8_digestSpring_86 hO FU s v3 v4 0 hf)
  · refine at_ldc2_w (n := 31) hO lc_X8_307 (by decide) dX8_digestSpring_57 60 rfl ?_
    refine at_lload hO 2 rfl dX8_digestSpring_60 62 rfl ?_
    refine at_lmul hO dX8_digestSpring_62 63 rfl ?_
    refine at_aload_n hO 0 rfl rfl dX8_digestSpring_63 64 rfl ?_
    refine at_iload_n hO 1 rfl rfl dX8_digestSpring_64 65 rfl ?_
    refine at_iconst hO dX8_digestSpring_65 66 rfl ?_
    refine at_iconst hO dX8_digestSpring_66 67 rfl ?_
    refine at_iconst hO dX8_digestSpring_67 68 rfl ?_
    refine at_iload hO 3 rfl dX8_digestSpring_68 70 rfl ?_
    refine at_callV1 (As := [vi v3, vi 5, vi 0, vi 3, vi v6]) (st := [vl (31 * v4)]) hO (c_X8_cost _ G hO.g s v3 5 0 3 v6) mb_X8_cost mi_X8_cost lk_X8_341 rfl ⟨_, rfl, rfl⟩ rfl ⟨(Nat.le_of_ble_eq_true rfl), (Nat.le_of_ble_eq_true rfl)⟩ (Nat.le_of_ble_eq_true rfl) rfl dX8_digestSpring_70 73 rfl hf (fun r2 s3 hf => ?_)
    obtain ⟨h4, hf⟩ := chk_some hf
    refine at_i2l hO h4 dX8_digestSpring_73 74 rfl ?_
    refine at_ladd hO dX8_digestSpring_74 75 rfl ?_
    refine at_lstore hO (lv' := [(4, vl ((31 * v4) + r2)), (0, vr G 0), (3, vi v3), (6, vi v6)]) (Nat.le_of_ble_eq_true rfl) rfl dX8_digestSpring_75 77 rfl ?_
    refine at_iinc hO (lv' := [(6, vi (v6 + 1)), (4, vl ((31 * v4) + r2)), (0, vr G 0), (3, vi v3)]) 3 rfl (Nat.le_of_ble_eq_true rfl) rfl dX8_digestSpring_77 80 rfl ?_
    refine at_goto hO dX8_digestSpring_80 51 rfl ?_
    exact at_sub (fun ls h => lv_sub h [2, 3, 1, 0] rfl) (hrec51 s3 v3 ((31 * v4) + r2) (v6 + 1) hf)
theorem wL_X8_digestSpring_51 {X : CX} {G : Ge} {Z : Rt} (hO : rr_OK X G cX8_digestSpring 7 RX8 (some .long) 5 124) : ∀ (n : Nat) (s : St) (v3 v4 v6 : Int), L_X8_digestSpring_51 n s v3 v4 v6 = some Z → rr_AT X G 7 2 Z 51 [(0, vr G 0), (3, vi v3), (4, vl v4), (6, vi v6)] [] s := by
  intro n
  induction n with
  | zero =>
    intro s v3 v4 v6 hf
    cases hf
  | succ n ih =>
    intro s v3 v4 v6 hf
    exact wS_X8_digestSpring_51 hO ih s v3 v4 v6 hf
def f_X8_digestSpring (s : St) (p1 p2 : Int) : Option Rt := cll (f_X8_possession s p2) (fun r1 s2 => chk (in32 r1) (cll (f_X8_water s2 p2 5 0) (fun r4 s5 => chk (in32 r4) (cll (f_X8_water s5 p2 5 1) (fun r7 s8 => chk (in32 r7) (L_X8_digestSpring_51 FU s8 p2 ((31 * ((31 * ((31 * p1) + r1)) + r4)) + r7) 0))))))
set_option maxRecDepth 100000 in
set_option maxHeartbeats 4000000 in
theorem c_X8_digestSpring (l : Launch) (G : Ge) (hG : rr_GD G) (s : St) (p1 p2 : Int) : rr_Ct l G yX8_digestSpring cX8_digestSpring 7 (some .long) 5 124 2 [vr G 0, vl p1, vi p2] s (f_X8_digestSpring s p1 p2) := by
  refine rr_mk (lv := [(0, vr G 0), (1, vl p1), (3, vi p2)]) RX8 (by decide) rfl hG (Nat.le_of_ble_eq_true rfl) rfl ?_
  intro X Z hO hf
  unfold f_X8_digestSpring at hf
  refine at_ldc2_w (n := 31) hO lc_X8_307 (by decide) dX8_digestSpring_0 3 rfl ?_
  refine at_lload_n hO 1 rfl rfl dX8_digestSpring_3 4 rfl ?_
  refine at_lmul hO dX8_digestSpring_4 5 rfl ?_
  refine at_aload_n hO 0 rfl rfl dX8_digestSpring_5 6 rfl ?_
  refine at_iload_n hO 2 rfl rfl dX8_digestSpring_6 7 rfl ?_
  refine at_callV1 (As := [vi p2]) (st := [vl (31 * p1)]) hO (c_X8_possession _ G hO.g s p2) mb_X8_possession mi_X8_possession lk_X8_335 rfl ⟨_, rfl, rfl⟩ rfl ⟨(Nat.le_of_ble_eq_true rfl), (Nat.le_of_ble_eq_true rfl)⟩ (Nat.le_of_ble_eq_true rfl) rfl dX8_digestSpring_7 10 rfl hf (fun r1 s2 hf => ?_)
  obtain ⟨h3, hf⟩ := chk_some hf
  refine at_i2l hO h3 dX8_digestSpring_10 11 rfl ?_
  refine at_ladd hO dX8_digestSpring_11 12 rfl ?_
  refine at_lstore hO (lv' := [(4, vl ((31 * p1) + r1)), (0, vr G 0), (1, vl p1), (3, vi p2)]) (Nat.le_of_ble_eq_true rfl) rfl dX8_digestSpring_12 14 rfl ?_
  refine at_ldc2_w (n := 31) hO lc_X8_307 (by decide) dX8_digestSpring_14 17 rfl ?_
  refine at_lload hO 0 rfl dX8_digestSpring_17 19 rfl ?_
  refine at_lmul hO dX8_digestSpring_19 20 rfl ?_
  refine at_aload_n hO 1 rfl rfl dX8_digestSpring_20 21 rfl ?_
  refine at_iload_n hO 3 rfl rfl dX8_digestSpring_21 22 rfl ?_
  refine at_iconst hO dX8_digestSpring_22 23 rfl ?_
  refine at_iconst hO dX8_digestSpring_23 24 rfl ?_
  refine at_callV1 (As := [vi p2, vi 5, vi 0]) (st := [vl (31 * ((31 * p1) + r1))]) hO (c_X8_water _ G hO.g s2 p2 5 0) mb_X8_water mi_X8_water lk_X8_338 rfl ⟨_, rfl, rfl⟩ rfl ⟨(Nat.le_of_ble_eq_true rfl), (Nat.le_of_ble_eq_true rfl)⟩ (Nat.le_of_ble_eq_true rfl) rfl dX8_digestSpring_24 27 rfl hf (fun r4 s5 hf => ?_)
  obtain ⟨h6, hf⟩ := chk_some hf
  refine at_i2l hO h6 dX8_digestSpring_27 28 rfl ?_
  refine at_ladd hO dX8_digestSpring_28 29 rfl ?_
  refine at_lstore hO (lv' := [(4, vl ((31 * ((31 * p1) + r1)) + r4)), (0, vr G 0), (1, vl p1), (3, vi p2)]) (Nat.le_of_ble_eq_true rfl) rfl dX8_digestSpring_29 31 rfl ?_
  refine at_ldc2_w (n := 31) hO lc_X8_307 (by decide) dX8_digestSpring_31 34 rfl ?_
  refine at_lload hO 0 rfl dX8_digestSpring_34 36 rfl ?_
  refine at_lmul hO dX8_digestSpring_36 37 rfl ?_
  refine at_aload_n hO 1 rfl rfl dX8_digestSpring_37 38 rfl ?_
  refine at_iload_n hO 3 rfl rfl dX8_digestSpring_38 39 rfl ?_
  refine at_iconst hO dX8_digestSpring_39 40 rfl ?_
  refine at_iconst hO dX8_digestSpring_40 41 rfl ?_
  refine at_callV1 (As := [vi p2, vi 5, vi 1]) (st := [vl (31 * ((31 * ((31 * p1) + r1)) + r4))]) hO (c_X8_water _ G hO.g s5 p2 5 1) mb_X8_water mi_X8_water lk_X8_338 rfl ⟨_, rfl, rfl⟩ rfl ⟨(Nat.le_of_ble_eq_true rfl), (Nat.le_of_ble_eq_true rfl)⟩ (Nat.le_of_ble_eq_true rfl) rfl dX8_digestSpring_41 44 rfl hf (fun r7 s8 hf => ?_)
  obtain ⟨h9, hf⟩ := chk_some hf
  refine at_i2l hO h9 dX8_digestSpring_44 45 rfl ?_
  refine at_ladd hO dX8_digestSpring_45 46 rfl ?_
  refine at_lstore hO (lv' := [(4, vl ((31 * ((31 * ((31 * p1) + r1)) + r4)) + r7)), (0, vr G 0), (1, vl p1), (3, vi p2)]) (Nat.le_of_ble_eq_true rfl) rfl dX8_digestSpring_46 48 rfl ?_
  refine at_iconst hO dX8_digestSpring_48 49 rfl ?_
  refine at_istore hO (lv' := [(6, vi 0), (4, vl ((31 * ((31 * ((31 * p1) + r1)) + r4)) + r7)), (0, vr G 0), (1, vl p1), (3, vi p2)]) (Nat.le_of_ble_eq_true rfl) rfl dX8_digestSpring_49 51 rfl ?_
  exact at_sub (fun ls h => lv_sub h [2, 4, 1, 0] rfl) (wL_X8_digestSpring_51 hO FU s8 p2 ((31 * ((31 * ((31 * p1) + r1)) + r4)) + r7) 0 hf)

def S_X8_digest_99 (rec99 : St → Int → Int → Option Rt) (s : St) (v1 v4 : Int) : Option Rt := chk (in32 v4) ((if 3 ≤ v4 then cll (f_X8_never s 0) (fun r2 s3 => chk (in32 r2) (cll (f_X8_never s3 1) (fun r5 s6 => chk (in32 r5) (cll (f_X8_gain s6 0) (fun r8 s9 => cll (f_X8_gain s9 1) (fun r10 s11 => cll (f_X8_watch s11) (fun r12 s13 => chk (in32 r12) (cll (f_X8_fit s13) (fun r15 s16 => chk (in32 r15) (some (((31 * ((31 * ((31 * ((31 * ((31 * ((31 * v1) + r2)) + r5)) + r8)) + r10)) + r12)) + r15), s16))))))))))) else cll (f_X8_digestSpring s v1 v4) (fun r18 s19 => rec99 s19 r18 (v4 + 1))))
def L_X8_digest_99 : Nat → St → Int → Int → Option Rt
  | 0, _, _, _ => none
  | n + 1, s, v1, v4 => S_X8_digest_99 (L_X8_digest_99 n) s v1 v4
set_option maxRecDepth 100000 in
set_option maxHeartbeats 4000000 in
theorem wS_X8_digest_99 {X : CX} {G : Ge} {Z : Rt} {rec99 : St → Int → Int → Option Rt} (hO : rr_OK X G cX8_digest 5 RX8 (some .long) 6 150) (hrec99 : ∀ (s : St) (v1 v4 : Int), rec99 s v1 v4 = some Z → rr_AT X G 5 2 Z 99 [(0, vr G 0), (1, vl v1), (4, vi v4)] [] s) (s : St) (v1 v4 : Int) (hf : S_X8_digest_99 rec99 s v1 v4 = some Z) : rr_AT X G 5 2 Z 99 [(0, vr G 0), (1, vl v1), (4, vi v4)] [] s := by
  unfold S_X8_digest_99 at hf
  refine at_iload hO 2 rfl dX8_digest_99 101 rfl ?_
  refine at_iconst hO dX8_digest_101 102 rfl ?_
  obtain ⟨h1, hf⟩ := chk_some hf
  refine at_icmp_ge hO h1 (by decide) dX8_digest_102 119 rfl 105 rfl hf (fun hf => ?_) (fun hf => ?_)
  · refine at_ldc2_w (n := 31) hO lc_X8_307 (by decide) dX8_digest_119 122 rfl ?_
    refine at_lload_n hO 1 rfl rfl dX8_digest_122 123 rfl ?_
    refine at_lmul hO dX8_digest_123 124 rfl ?_
    refine at_aload_n hO 0 rfl rfl dX8_digest_124 125 rfl ?_
    refine at_iconst hO dX8_digest_125 126 rfl ?_
    refine at_callV1 (As := [vi 0]) (st := [vl (31 * v1)]) hO (c_X8_never _ G hO.g s 0) mb_X8_never mi_X8_never lk_X8_322 rfl ⟨_, rfl, rfl⟩ rfl ⟨(Nat.le_of_ble_eq_true rfl), (Nat.le_of_ble_eq_true rfl)⟩ (Nat.le_of_ble_eq_true rfl) rfl dX8_digest_126 129 rfl hf (fun r2 s3 hf => ?_)
    obtain ⟨h4, hf⟩ := chk_some hf
    refine at_i2l hO h4 dX8_digest_129 130 rfl ?_
    refine at_ladd hO dX8_digest_130 131 rfl ?_
    refine at_lstore_n hO (lv' := [(1, vl ((31 * v1) + r2)), (0, vr G 0), (4, vi v4)]) rfl (Nat.le_of_ble_eq_true rfl) rfl dX8_digest_131 132 rfl ?_
    refine at_ldc2_w (n := 31) hO lc_X8_307 (by decide) dX8_digest_132 135 rfl ?_
    refine at_lload_n hO 0 rfl rfl dX8_digest_135 136 rfl ?_
    refine at_lmul hO dX8_digest_136 137 rfl ?_
    refine at_aload_n hO 1 rfl rfl dX8_digest_137 138 rfl ?_
    refine at_iconst hO dX8_digest_138 139 rfl ?_
    refine at_callV1 (As := [vi 1]) (st := [vl (31 * ((31 * v1) + r2))]) hO (c_X8_never _ G hO.g s3 1) mb_X8_never mi_X8_never lk_X8_322 rfl ⟨_, rfl, rfl⟩ rfl ⟨(Nat.le_of_ble_eq_true rfl), (Nat.le_of_ble_eq_true rfl)⟩ (Nat.le_of_ble_eq_true rfl) rfl dX8_digest_139 142 rfl hf (fun r5 s6 hf => ?_)
    obtain ⟨h7, hf⟩ := chk_some hf
    refine at_i2l hO h7 dX8_digest_142 143 rfl ?_
    refine at_ladd hO dX8_digest_143 144 rfl ?_
    refine at_lstore_n hO (lv' := [(1, vl ((31 * ((31 * v1) + r2)) + r5)), (0, vr G 0), (4, vi v4)]) rfl (Nat.le_of_ble_eq_true rfl) rfl dX8_digest_144 145 rfl ?_
    refine at_ldc2_w (n := 31) hO lc_X8_307 (by decide) dX8_digest_145 148 rfl ?_
    refine at_lload_n hO 0 rfl rfl dX8_digest_148 149 rfl ?_
    refine at_lmul hO dX8_digest_149 150 rfl ?_
    refine at_aload_n hO 1 rfl rfl dX8_digest_150 151 rfl ?_
    refine at_iconst hO dX8_digest_151 152 rfl ?_
    refine at_callV2 (As := [vi 0]) (st := [vl (31 * ((31 * ((31 * v1) + r2)) + r5))]) hO (c_X8_gain _ G hO.g s6 0) mb_X8_gain mi_X8_gain lk_X8_325 rfl ⟨_, rfl, rfl⟩ rfl ⟨(Nat.le_of_ble_eq_true rfl), (Nat.le_of_ble_eq_true rfl)⟩ (Nat.le_of_ble_eq_true rfl) rfl dX8_digest_152 155 rfl hf (fun r8 s9 hf => ?_)
    refine at_ladd hO dX8_digest_155 156 rfl ?_
    refine at_lstore_n hO (lv' := [(1, vl ((31 * ((31 * ((31 * v1) + r2)) + r5)) + r8)), (0, vr G 0), (4, vi v4)]) rfl (Nat.le_of_ble_eq_true rfl) rfl dX8_digest_156 157 rfl ?_
    refine at_ldc2_w (n := 31) hO lc_X8_307 (by decide) dX8_digest_157 160 rfl ?_
    refine at_lload_n hO 0 rfl rfl dX8_digest_160 161 rfl ?_
    refine at_lmul hO dX8_digest_161 162 rfl ?_
    refine at_aload_n hO 1 rfl rfl dX8_digest_162 163 rfl ?_
    refine at_iconst hO dX8_digest_163 164 rfl ?_
    refine at_callV2 (As := [vi 1]) (st := [vl (31 * ((31 * ((31 * ((31 * v1) + r2)) + r5)) + r8))]) hO (c_X8_gain _ G hO.g s9 1) mb_X8_gain mi_X8_gain lk_X8_325 rfl ⟨_, rfl, rfl⟩ rfl ⟨(Nat.le_of_ble_eq_true rfl), (Nat.le_of_ble_eq_true rfl)⟩ (Nat.le_of_ble_eq_true rfl) rfl dX8_digest_164 167 rfl hf (fun r10 s11 hf => ?_)
    refine at_ladd hO dX8_digest_167 168 rfl ?_
    refine at_lstore_n hO (lv' := [(1, vl ((31 * ((31 * ((31 * ((31 * v1) + r2)) + r5)) + r8)) + r10)), (0, vr G 0), (4, vi v4)]) rfl (Nat.le_of_ble_eq_true rfl) rfl dX8_digest_168 169 rfl ?_
    refine at_ldc2_w (n := 31) hO lc_X8_307 (by decide) dX8_digest_169 172 rfl ?_
    refine at_lload_n hO 0 rfl rfl dX8_digest_172 173 rfl ?_
    refine at_lmul hO dX8_digest_173 174 rfl ?_
    refine at_aload_n hO 1 rfl rfl dX8_digest_174 175 rfl ?_
    refine at_callV1 (As := []) (st := [vl (31 * ((31 * ((31 * ((31 * ((31 * v1) + r2)) + r5)) + r8)) + r10))]) hO (c_X8_watch _ G hO.g s11 ) mb_X8_watch mi_X8_watch lk_X8_329 rfl ⟨_, rfl, rfl⟩ rfl ⟨(Nat.le_of_ble_eq_true rfl), (Nat.le_of_ble_eq_true rfl)⟩ (Nat.le_of_ble_eq_true rfl) rfl dX8_digest_175 178 rfl hf (fun r12 s13 hf => ?_)
    obtain ⟨h14, hf⟩ := chk_some hf
    refine at_i2l hO h14 dX8_digest_178 179 rfl ?_
    refine at_ladd hO dX8_digest_179 180 rfl ?_
    refine at_lstore_n hO (lv' := [(1, vl ((31 * ((31 * ((31 * ((31 * ((31 * v1) + r2)) + r5)) + r8)) + r10)) + r12)), (0, vr G 0), (4, vi v4)]) rfl (Nat.le_of_ble_eq_true rfl) rfl dX8_digest_180 181 rfl ?_
    refine at_ldc2_w (n := 31) hO lc_X8_307 (by decide) dX8_digest_181 184 rfl ?_
    refine at_lload_n hO 0 rfl rfl dX8_digest_184 185 rfl ?_
    refine at_lmul hO dX8_digest_185 186 rfl ?_
    refine at_aload_n hO 1 rfl rfl dX8_digest_186 187 rfl ?_
    refine at_callV1 (As := []) (st := [vl (31 * ((31 * ((31 * ((31 * ((31 * ((31 * v1) + r2)) + r5)) + r8)) + r10)) + r12))]) hO (c_X8_fit _ G hO.g s13 ) mb_X8_fit mi_X8_fit lk_X8_332 rfl ⟨_, rfl, rfl⟩ rfl ⟨(Nat.le_of_ble_eq_true rfl), (Nat.le_of_ble_eq_true rfl)⟩ (Nat.le_of_ble_eq_true rfl) rfl dX8_digest_187 190 rfl hf (fun r15 s16 hf => ?_)
    obtain ⟨h17, hf⟩ := chk_some hf
    refine at_i2l hO h17 dX8_digest_190 191 rfl ?_
    refine at_ladd hO dX8_digest_191 192 rfl ?_
    exact at_lreturn hO dX8_digest_192 hf
  · refine at_aload_n hO 0 rfl rfl dX8_digest_105 106 rfl ?_
    refine at_lload_n hO 1 rfl rfl dX8_digest_106 107 rfl ?_
    refine at_iload hO 2 rfl dX8_digest_107 109 rfl ?_
    refine at_callV2 (As := [vl v1, vi v4]) (st := []) hO (c_X8_digestSpring _ G hO.g s v1 v4) mb_X8_digestSpring mi_X8_digestSpring lk_X8_318 rfl ⟨_, rfl, rfl⟩ rfl ⟨(Nat.le_of_ble_eq_true rfl), (Nat.le_of_ble_eq_true rfl)⟩ (Nat.le_of_ble_eq_true rfl) rfl dX8_digest_109 112 rfl hf (fun r18 s19 hf => ?_)
    refine at_lstore_n hO (lv' := [(1, vl r18), (0, vr G 0), (4, vi v4)]) rfl (Nat.le_of_ble_eq_true rfl) rfl dX8_digest_112 113 rfl ?_
    refine at_iinc hO (lv' := [(4, vi (v4 + 1)), (1, vl r18), (0, vr G 0)]) 2 rfl (Nat.le_of_ble_eq_true rfl) rfl dX8_digest_113 116 rfl ?_
    refine at_goto hO dX8_digest_116 99 rfl ?_
    exact at_sub (fun ls h => lv_sub h [2, 1, 0] rfl) (hrec99 s19 r18 (v4 + 1) hf)
theorem wL_X8_digest_99 {X : CX} {G : Ge} {Z : Rt} (hO : rr_OK X G cX8_digest 5 RX8 (some .long) 6 150) : ∀ (n : Nat) (s : St) (v1 v4 : Int), L_X8_digest_99 n s v1 v4 = some Z → rr_AT X G 5 2 Z 99 [(0, vr G 0), (1, vl v1), (4, vi v4)] [] s := by
  intro n
  induction n with
  | zero =>
    intro s v1 v4 hf
    cases hf
  | succ n ih =>
    intro s v1 v4 hf
    exact wS_X8_digest_99 hO ih s v1 v4 hf
def S_X8_digest_70 (rec70 : St → Int → Int → Int → Option Rt) (s : St) (v1 v3 v4 : Int) : Option Rt := chk (in32 v4) (chk (in32 v3) ((if v3 ≤ v4 then L_X8_digest_99 FU s v1 0 else cll (f_X8_height s v4) (fun r3 s4 => chk (in32 r3) (rec70 s4 ((31 * v1) + r3) v3 (v4 + 1))))))
def L_X8_digest_70 : Nat → St → Int → Int → Int → Option Rt
  | 0, _, _, _, _ => none
  | n + 1, s, v1, v3, v4 => S_X8_digest_70 (L_X8_digest_70 n) s v1 v3 v4
set_option maxRecDepth 100000 in
set_option maxHeartbeats 4000000 in
theorem wS_X8_digest_70 {X : CX} {G : Ge} {Z : Rt} {rec70 : St → Int → Int → Int → Option Rt} (hO : rr_OK X G cX8_digest 5 RX8 (some .long) 6 150) (hrec70 : ∀ (s : St) (v1 v3 v4 : Int), rec70 s v1 v3 v4 = some Z → rr_AT X G 5 2 Z 70 [(0, vr G 0), (1, vl v1), (3, vi v3), (4, vi v4)] [] s) (s : St) (v1 v3 v4 : Int) (hf : S_X8_digest_70 rec70 s v1 v3 v4 = some Z) : rr_AT X G 5 2 Z 70 [(0, vr G 0), (1, vl v1), (3, vi v3), (4, vi v4)] [] s := by
  unfold S_X8_digest_70 at hf
  refine at_iload hO 3 rfl dX8_digest_70 72 rfl ?_
  refine at_iload_n hO 2 rfl rfl dX8_digest_72 73 rfl ?_
  obtain ⟨h1, hf⟩ := chk_some hf
  obtain ⟨h2, hf⟩ := chk_some hf
  refine at_icmp_ge hO h1 h2 dX8_digest_73 96 rfl 76 rfl hf (fun hf => ?_) (fun hf => ?_)
  · refine at_iconst hO dX8_digest_96 97 rfl ?_
    refine at_istore hO (lv' := [(4, vi 0), (0, vr G 0), (1, vl v1), (3, vi v3)]) (Nat.le_of_ble_eq_true rfl) rfl dX8_digest_97 99 rfl ?_
    exact at_sub (fun ls h => lv_sub h [1, 2, 0] rfl) (wL_X8_digest_99 hO FU s v1 0 hf)
  · refine at_ldc2_w (n := 31) hO lc_X8_307 (by decide) dX8_digest_76 79 rfl ?_
    refine at_lload_n hO 1 rfl rfl dX8_digest_79 80 rfl ?_
    refine at_lmul hO dX8_digest_80 81 rfl ?_
    refine at_aload_n hO 0 rfl rfl dX8_digest_81 82 rfl ?_
    refine at_iload hO 3 rfl dX8_digest_82 84 rfl ?_
    refine at_callV1 (As := [vi v4]) (st := [vl (31 * v1)]) hO (c_X8_height _ G hO.g s v4) mb_X8_height mi_X8_height lk_X8_315 rfl ⟨_, rfl, rfl⟩ rfl ⟨(Nat.le_of_ble_eq_true rfl), (Nat.le_of_ble_eq_true rfl)⟩ (Nat.le_of_ble_eq_true rfl) rfl dX8_digest_84 87 rfl hf (fun r3 s4 hf => ?_)
    obtain ⟨h5, hf⟩ := chk_some hf
    refine at_i2l hO h5 dX8_digest_87 88 rfl ?_
    refine at_ladd hO dX8_digest_88 89 rfl ?_
    refine at_lstore_n hO (lv' := [(1, vl ((31 * v1) + r3)), (0, vr G 0), (3, vi v3), (4, vi v4)]) rfl (Nat.le_of_ble_eq_true rfl) rfl dX8_digest_89 90 rfl ?_
    refine at_iinc hO (lv' := [(4, vi (v4 + 1)), (1, vl ((31 * v1) + r3)), (0, vr G 0), (3, vi v3)]) 3 rfl (Nat.le_of_ble_eq_true rfl) rfl dX8_digest_90 93 rfl ?_
    refine at_goto hO dX8_digest_93 70 rfl ?_
    exact at_sub (fun ls h => lv_sub h [2, 1, 3, 0] rfl) (hrec70 s4 ((31 * v1) + r3) v3 (v4 + 1) hf)
theorem wL_X8_digest_70 {X : CX} {G : Ge} {Z : Rt} (hO : rr_OK X G cX8_digest 5 RX8 (some .long) 6 150) : ∀ (n : Nat) (s : St) (v1 v3 v4 : Int), L_X8_digest_70 n s v1 v3 v4 = some Z → rr_AT X G 5 2 Z 70 [(0, vr G 0), (1, vl v1), (3, vi v3), (4, vi v4)] [] s := by
  intro n
  induction n with
  | zero =>
    intro s v1 v3 v4 hf
    cases hf
  | succ n ih =>
    intro s v1 v3 v4 hf
    exact wS_X8_digest_70 hO ih s v1 v3 v4 hf
def S_X8_digest_33 (rec33 : St → Int → Int → Option Rt) (s : St) (v1 v3 : Int) : Option Rt := chk (in32 v3) ((if 4 ≤ v3 then cll (f_X5_told 3 s) (fun r2 s3 => L_X8_digest_70 FU s3 v1 r2 0) else cll (f_X8_fault s v3) (fun r4 s5 => chk (in32 r4) (rec33 s5 ((31 * v1) + r4) (v3 + 1)))))
def L_X8_digest_33 : Nat → St → Int → Int → Option Rt
  | 0, _, _, _ => none
  | n + 1, s, v1, v3 => S_X8_digest_33 (L_X8_digest_33 n) s v1 v3
set_option maxRecDepth 100000 in
set_option maxHeartbeats 4000000 in
theorem wS_X8_digest_33 {X : CX} {G : Ge} {Z : Rt} {rec33 : St → Int → Int → Option Rt} (hO : rr_OK X G cX8_digest 5 RX8 (some .long) 6 150) (hrec33 : ∀ (s : St) (v1 v3 : Int), rec33 s v1 v3 = some Z → rr_AT X G 5 2 Z 33 [(0, vr G 0), (1, vl v1), (3, vi v3)] [] s) (s : St) (v1 v3 : Int) (hf : S_X8_digest_33 rec33 s v1 v3 = some Z) : rr_AT X G 5 2 Z 33 [(0, vr G 0), (1, vl v1), (3, vi v3)] [] s := by
  unfold S_X8_digest_33 at hf
  refine at_iload_n hO 2 rfl rfl dX8_digest_33 34 rfl ?_
  refine at_iconst hO dX8_digest_34 35 rfl ?_
  obtain ⟨h1, hf⟩ := chk_some hf
  refine at_icmp_ge hO h1 (by decide) dX8_digest_35 57 rfl 38 rfl hf (fun hf => ?_) (fun hf => ?_)
  · refine at_aload_n hO 0 rfl rfl dX8_digest_57 58 rfl ?_
    refine at_getR hO fl_X8_11 rfl rfl dX8_digest_58 61 rfl ?_
    refine at_iconst hO dX8_digest_61 62 rfl ?_
    refine at_aaload3 hO rfl (Nat.le_of_ble_eq_true rfl) (by decide) 5 rfl dX8_digest_62 63 rfl ?_
    refine at_callV1 (As := []) (st := []) hO (c_X5_told _ G hO.g 3 (by decide) s ) mb_X5_told mi_X5_told lk_X8_262 rfl ⟨_, rfl, rfl⟩ rfl ⟨(Nat.le_of_ble_eq_true rfl), (Nat.le_of_ble_eq_true rfl)⟩ (Nat.le_of_ble_eq_true rfl) rfl dX8_digest_63 66 rfl hf (fun r2 s3 hf => ?_)
    refine at_istore_n hO (lv' := [(3, vi r2), (0, vr G 0), (1, vl v1)]) rfl (Nat.le_of_ble_eq_true rfl) rfl dX8_digest_66 67 rfl ?_
    refine at_iconst hO dX8_digest_67 68 rfl ?_
    refine at_istore hO (lv' := [(4, vi 0), (3, vi r2), (0, vr G 0), (1, vl v1)]) (Nat.le_of_ble_eq_true rfl) rfl dX8_digest_68 70 rfl ?_
    exact at_sub (fun ls h => lv_sub h [2, 3, 1, 0] rfl) (wL_X8_digest_70 hO FU s3 v1 r2 0 hf)
  · refine at_ldc2_w (n := 31) hO lc_X8_307 (by decide) dX8_digest_38 41 rfl ?_
    refine at_lload_n hO 1 rfl rfl dX8_digest_41 42 rfl ?_
    refine at_lmul hO dX8_digest_42 43 rfl ?_
    refine at_aload_n hO 0 rfl rfl dX8_digest_43 44 rfl ?_
    refine at_iload_n hO 2 rfl rfl dX8_digest_44 45 rfl ?_
    refine at_callV1 (As := [vi v3]) (st := [vl (31 * v1)]) hO (c_X8_fault _ G hO.g s v3) mb_X8_fault mi_X8_fault lk_X8_312 rfl ⟨_, rfl, rfl⟩ rfl ⟨(Nat.le_of_ble_eq_true rfl), (Nat.le_of_ble_eq_true rfl)⟩ (Nat.le_of_ble_eq_true rfl) rfl dX8_digest_45 48 rfl hf (fun r4 s5 hf => ?_)
    obtain ⟨h6, hf⟩ := chk_some hf
    refine at_i2l hO h6 dX8_digest_48 49 rfl ?_
    refine at_ladd hO dX8_digest_49 50 rfl ?_
    refine at_lstore_n hO (lv' := [(1, vl ((31 * v1) + r4)), (0, vr G 0), (3, vi v3)]) rfl (Nat.le_of_ble_eq_true rfl) rfl dX8_digest_50 51 rfl ?_
    refine at_iinc hO (lv' := [(3, vi (v3 + 1)), (1, vl ((31 * v1) + r4)), (0, vr G 0)]) 2 rfl (Nat.le_of_ble_eq_true rfl) rfl dX8_digest_51 54 rfl ?_
    refine at_goto hO dX8_digest_54 33 rfl ?_
    exact at_sub (fun ls h => lv_sub h [2, 1, 0] rfl) (hrec33 s5 ((31 * v1) + r4) (v3 + 1) hf)
theorem wL_X8_digest_33 {X : CX} {G : Ge} {Z : Rt} (hO : rr_OK X G cX8_digest 5 RX8 (some .long) 6 150) : ∀ (n : Nat) (s : St) (v1 v3 : Int), L_X8_digest_33 n s v1 v3 = some Z → rr_AT X G 5 2 Z 33 [(0, vr G 0), (1, vl v1), (3, vi v3)] [] s := by
  intro n
  induction n with
  | zero =>
    intro s v1 v3 hf
    cases hf
  | succ n ih =>
    intro s v1 v3 hf
    exact wS_X8_digest_33 hO ih s v1 v3 hf
def S_X8_digest_6 (rec6 : St → Int → Int → Option Rt) (s : St) (v1 v3 : Int) : Option Rt := chk (in32 v3) ((if 7 < v3 then L_X8_digest_33 FU s v1 0 else cll (f_X8_count s v3) (fun r2 s3 => chk (in32 r2) (rec6 s3 ((31 * v1) + r2) (v3 + 1)))))
def L_X8_digest_6 : Nat → St → Int → Int → Option Rt
  | 0, _, _, _ => none
  | n + 1, s, v1, v3 => S_X8_digest_6 (L_X8_digest_6 n) s v1 v3
set_option maxRecDepth 100000 in
set_option maxHeartbeats 4000000 in
theorem wS_X8_digest_6 {X : CX} {G : Ge} {Z : Rt} {rec6 : St → Int → Int → Option Rt} (hO : rr_OK X G cX8_digest 5 RX8 (some .long) 6 150) (hrec6 : ∀ (s : St) (v1 v3 : Int), rec6 s v1 v3 = some Z → rr_AT X G 5 2 Z 6 [(0, vr G 0), (1, vl v1), (3, vi v3)] [] s) (s : St) (v1 v3 : Int) (hf : S_X8_digest_6 rec6 s v1 v3 = some Z) : rr_AT X G 5 2 Z 6 [(0, vr G 0), (1, vl v1), (3, vi v3)] [] s := by
  unfold S_X8_digest_6 at hf
  refine at_iload_n hO 2 rfl rfl dX8_digest_6 7 rfl ?_
  refine at_bipush hO (by decide) dX8_digest_7 9 rfl ?_
  obtain ⟨h1, hf⟩ := chk_some hf
  refine at_icmp_gt hO h1 (by decide) dX8_digest_9 31 rfl 12 rfl hf (fun hf => ?_) (fun hf => ?_)
  · refine at_iconst hO dX8_digest_31 32 rfl ?_
    refine at_istore_n hO (lv' := [(3, vi 0), (0, vr G 0), (1, vl v1)]) rfl (Nat.le_of_ble_eq_true rfl) rfl dX8_digest_32 33 rfl ?_
    exact at_sub (fun ls h => lv_sub h [1, 2, 0] rfl) (wL_X8_digest_33 hO FU s v1 0 hf)
  · refine at_ldc2_w (n := 31) hO lc_X8_307 (by decide) dX8_digest_12 15 rfl ?_
    refine at_lload_n hO 1 rfl rfl dX8_digest_15 16 rfl ?_
    refine at_lmul hO dX8_digest_16 17 rfl ?_
    refine at_aload_n hO 0 rfl rfl dX8_digest_17 18 rfl ?_
    refine at_iload_n hO 2 rfl rfl dX8_digest_18 19 rfl ?_
    refine at_callV1 (As := [vi v3]) (st := [vl (31 * v1)]) hO (c_X8_count _ G hO.g s v3) mb_X8_count mi_X8_count lk_X8_309 rfl ⟨_, rfl, rfl⟩ rfl ⟨(Nat.le_of_ble_eq_true rfl), (Nat.le_of_ble_eq_true rfl)⟩ (Nat.le_of_ble_eq_true rfl) rfl dX8_digest_19 22 rfl hf (fun r2 s3 hf => ?_)
    obtain ⟨h4, hf⟩ := chk_some hf
    refine at_i2l hO h4 dX8_digest_22 23 rfl ?_
    refine at_ladd hO dX8_digest_23 24 rfl ?_
    refine at_lstore_n hO (lv' := [(1, vl ((31 * v1) + r2)), (0, vr G 0), (3, vi v3)]) rfl (Nat.le_of_ble_eq_true rfl) rfl dX8_digest_24 25 rfl ?_
    refine at_iinc hO (lv' := [(3, vi (v3 + 1)), (1, vl ((31 * v1) + r2)), (0, vr G 0)]) 2 rfl (Nat.le_of_ble_eq_true rfl) rfl dX8_digest_25 28 rfl ?_
    refine at_goto hO dX8_digest_28 6 rfl ?_
    exact at_sub (fun ls h => lv_sub h [2, 1, 0] rfl) (hrec6 s3 ((31 * v1) + r2) (v3 + 1) hf)
theorem wL_X8_digest_6 {X : CX} {G : Ge} {Z : Rt} (hO : rr_OK X G cX8_digest 5 RX8 (some .long) 6 150) : ∀ (n : Nat) (s : St) (v1 v3 : Int), L_X8_digest_6 n s v1 v3 = some Z → rr_AT X G 5 2 Z 6 [(0, vr G 0), (1, vl v1), (3, vi v3)] [] s := by
  intro n
  induction n with
  | zero =>
    intro s v1 v3 hf
    cases hf
  | succ n ih =>
    intro s v1 v3 hf
    exact wS_X8_digest_6 hO ih s v1 v3 hf
def f_X8_digest (s : St) : Option Rt := L_X8_digest_6 FU s 17 0
set_option maxRecDepth 100000 in
set_option maxHeartbeats 4000000 in
theorem c_X8_digest (l : Launch) (G : Ge) (hG : rr_GD G) (s : St) : rr_Ct l G yX8_digest cX8_digest 5 (some .long) 6 150 2 [vr G 0] s (f_X8_digest s ) := by
  refine rr_mk (lv := [(0, vr G 0)]) RX8 (by decide) rfl hG (Nat.le_of_ble_eq_true rfl) rfl ?_
  intro X Z hO hf
  unfold f_X8_digest at hf
  refine at_ldc2_w (n := 17) hO lc_X8_305 (by decide) dX8_digest_0 3 rfl ?_
  refine at_lstore_n hO (lv' := [(1, vl 17), (0, vr G 0)]) rfl (Nat.le_of_ble_eq_true rfl) rfl dX8_digest_3 4 rfl ?_
  refine at_iconst hO dX8_digest_4 5 rfl ?_
  refine at_istore_n hO (lv' := [(3, vi 0), (1, vl 17), (0, vr G 0)]) rfl (Nat.le_of_ble_eq_true rfl) rfl dX8_digest_5 6 rfl ?_
  exact at_sub (fun ls h => lv_sub h [2, 1, 0] rfl) (wL_X8_digest_6 hO FU s 17 0 hf)
