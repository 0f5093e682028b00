def S_X1_keptYards_4 (rec4 : St → Int → Int → Int → Option Rt) (s : St) (v1 v2 v3 : Int) : Option Rt := chk (in32 v3) (chk (in32 (s 12 3)) ((if (s 12 3) ≤ v3 then some (v2, s) else (if 8 ≤ v3 then some (v2, s) else chk (ix v3 8) (chk (in32 v1) (chk (in32 (s 15 v3.toNat)) ((if v1 < (s 15 v3.toNat) then rec4 s v1 v2 (v3 + 1) else chk (in32 ((s 15 v3.toNat) + 7)) ((if ((s 15 v3.toNat) + 7) ≤ v1 then rec4 s v1 v2 (v3 + 1) else cll (f_X8_yardBits s (s 13 v3.toNat) (s 14 v3.toNat)) (fun r7 s8 => rec4 s8 v1 (orZ v2 r7) (v3 + 1))))))))))))
def L_X1_keptYards_4 : Nat → St → Int → Int → Int → Option Rt
  | 0, _, _, _, _ => none
  | n + 1, s, v1, v2, v3 => S_X1_keptYards_4 (L_X1_keptYards_4 n) s v1 v2 v3
set_option maxRecDepth 100000 in
set_option maxHeartbeats 4000000 in
theorem wS_X1_keptYards_4 {X : CX} {G : Ge} {Z : Rt} {rec4 : St → Int → Int → Int → Option Rt} (hO : rr_OK X G cX1_keptYards 4 RX1 (some .int) 1 21) (hrec4 : ∀ (s : St) (v1 v2 v3 : Int), rec4 s v1 v2 v3 = some Z → rr_AT X G 4 1 Z 4 [(0, vr G 12), (1, vi v1), (2, vi v2), (3, vi v3)] [] s) (s : St) (v1 v2 v3 : Int) (hf : S_X1_keptYards_4 rec4 s v1 v2 v3 = some Z) : rr_AT X G 4 1 Z 4 [(0, vr G 12), (1, vi v1), (2, vi v2), (3, vi v3)] [] s := by
  unfold S_X1_keptYards_4 at hf
  refine at_iload_n hO 3 rfl rfl dX1_keptYards_4 5 rfl ?_
  refine at_aload_n hO 0 rfl rfl dX1_keptYards_5 6 rfl ?_
  refine at_getI hO fl_X1_21 rfl rfl dX1_keptYards_6 9 rfl ?_
  obtain ⟨h1, hf⟩ := chk_some hf
  obtain ⟨h2, hf⟩ := chk_some hf
  refine at_icmp_ge hO h1 h2 dX1_keptYards_9 65 rfl 12 rfl hf (fun hf => ?_) (fun hf => ?_)
  · refine at_iload_n hO 2 rfl rfl dX1_keptYards_65 66 rfl ?_
    exact at_ireturn hO dX1_keptYards_66 hf
  · refine at_iload_n hO 3 rfl rfl dX1_keptYards_12 13 rfl ?_
    refine at_bipush hO (by decide) dX1_keptYards_13 15 rfl ?_
    refine at_icmp_ge hO h1 (by decide) dX1_keptYards_15 65 rfl 18 rfl hf (fun hf => ?_) (fun hf => ?_)
    · refine at_iload_n hO 2 rfl rfl dX1_keptYards_65 66 rfl ?_
      exact at_ireturn hO dX1_keptYards_66 hf
    · refine at_iload_n hO 1 rfl rfl dX1_keptYards_18 19 rfl ?_
      refine at_aload_n hO 0 rfl rfl dX1_keptYards_19 20 rfl ?_
      refine at_getR hO fl_X1_18 rfl rfl dX1_keptYards_20 23 rfl ?_
      refine at_iload_n hO 3 rfl rfl dX1_keptYards_23 24 rfl ?_
      obtain ⟨h3, hf⟩ := chk_some hf
      refine at_iaload hO rfl (Nat.le_of_ble_eq_true rfl) h3 (v3.toNat) rfl dX1_keptYards_24 25 rfl ?_
      obtain ⟨h4, hf⟩ := chk_some hf
      obtain ⟨h5, hf⟩ := chk_some hf
      refine at_icmp_lt hO h4 h5 dX1_keptYards_25 59 rfl 28 rfl hf (fun hf => ?_) (fun hf => ?_)
      · refine at_iinc hO (lv' := [(3, vi (v3 + 1)), (0, vr G 12), (1, vi v1), (2, vi v2)]) 3 rfl (Nat.le_of_ble_eq_true rfl) rfl dX1_keptYards_59 62 rfl ?_
        refine at_goto hO dX1_keptYards_62 4 rfl ?_
        exact at_sub (fun ls h => lv_sub h [1, 2, 3, 0] rfl) (hrec4 s v1 v2 (v3 + 1) hf)
      · refine at_iload_n hO 1 rfl rfl dX1_keptYards_28 29 rfl ?_
        refine at_aload_n hO 0 rfl rfl dX1_keptYards_29 30 rfl ?_
        refine at_getR hO fl_X1_18 rfl rfl dX1_keptYards_30 33 rfl ?_
        refine at_iload_n hO 3 rfl rfl dX1_keptYards_33 34 rfl ?_
        refine at_iaload hO rfl (Nat.le_of_ble_eq_true rfl) h3 (v3.toNat) rfl dX1_keptYards_34 35 rfl ?_
        refine at_bipush hO (by decide) dX1_keptYards_35 37 rfl ?_
        refine at_iadd hO dX1_keptYards_37 38 rfl ?_
        obtain ⟨h6, hf⟩ := chk_some hf
        refine at_icmp_ge hO h4 h6 dX1_keptYards_38 59 rfl 41 rfl hf (fun hf => ?_) (fun hf => ?_)
        · refine at_iinc hO (lv' := [(3, vi (v3 + 1)), (0, vr G 12), (1, vi v1), (2, vi v2)]) 3 rfl (Nat.le_of_ble_eq_true rfl) rfl dX1_keptYards_59 62 rfl ?_
          refine at_goto hO dX1_keptYards_62 4 rfl ?_
          exact at_sub (fun ls h => lv_sub h [1, 2, 3, 0] rfl) (hrec4 s v1 v2 (v3 + 1) hf)
        · refine at_iload_n hO 2 rfl rfl dX1_keptYards_41 42 rfl ?_
          refine at_aload_n hO 0 rfl rfl dX1_keptYards_42 43 rfl ?_
          refine at_getR hO fl_X1_9 rfl rfl dX1_keptYards_43 46 rfl ?_
          refine at_iload_n hO 3 rfl rfl dX1_keptYards_46 47 rfl ?_
          refine at_iaload hO rfl (Nat.le_of_ble_eq_true rfl) h3 (v3.toNat) rfl dX1_keptYards_47 48 rfl ?_
          refine at_aload_n hO 0 rfl rfl dX1_keptYards_48 49 rfl ?_
          refine at_getR hO fl_X1_15 rfl rfl dX1_keptYards_49 52 rfl ?_
          refine at_iload_n hO 3 rfl rfl dX1_keptYards_52 53 rfl ?_
          refine at_iaload hO rfl (Nat.le_of_ble_eq_true rfl) h3 (v3.toNat) rfl dX1_keptYards_53 54 rfl ?_
          refine at_callSN1 (As := [vi (s 13 v3.toNat), vi (s 14 v3.toNat)]) (st := [vi v2]) hO (c_X8_yardBits _ G hO.g s (s 13 v3.toNat) (s 14 v3.toNat)) mb_X8_yardBits ms_X8_yardBits lk_X1_54 rfl ⟨(Nat.le_of_ble_eq_true rfl), (Nat.le_of_ble_eq_true rfl)⟩ (Nat.le_of_ble_eq_true rfl) rfl dX1_keptYards_54 57 rfl hf (fun r7 s8 hf => ?_)
          refine at_ior hO dX1_keptYards_57 58 rfl ?_
          refine at_istore_n hO (lv' := [(2, vi (orZ v2 r7)), (0, vr G 12), (1, vi v1), (3, vi v3)]) rfl (Nat.le_of_ble_eq_true rfl) rfl dX1_keptYards_58 59 rfl ?_
          refine at_iinc hO (lv' := [(3, vi (v3 + 1)), (2, vi (orZ v2 r7)), (0, vr G 12), (1, vi v1)]) 3 rfl (Nat.le_of_ble_eq_true rfl) rfl dX1_keptYards_59 62 rfl ?_
          refine at_goto hO dX1_keptYards_62 4 rfl ?_
          exact at_sub (fun ls h => lv_sub h [2, 3, 1, 0] rfl) (hrec4 s8 v1 (orZ v2 r7) (v3 + 1) hf)
theorem wL_X1_keptYards_4 {X : CX} {G : Ge} {Z : Rt} (hO : rr_OK X G cX1_keptYards 4 RX1 (some .int) 1 21) : ∀ (n : Nat) (s : St) (v1 v2 v3 : Int), L_X1_keptYards_4 n s v1 v2 v3 = some Z → rr_AT X G 4 1 Z 4 [(0, vr G 12), (1, vi v1), (2, vi v2), (3, vi v3)] [] s := by
  intro n
  induction n with
  | zero =>
    intro s v1 v2 v3 hf
    cases hf
  | succ n ih =>
    intro s v1 v2 v3 hf
    exact wS_X1_keptYards_4 hO ih s v1 v2 v3 hf
def f_X1_keptYards (s : St) (p1 : Int) : Option Rt := L_X1_keptYards_4 FU s p1 0 0
set_option maxRecDepth 100000 in
set_option maxHeartbeats 4000000 in
theorem c_X1_keptYards (l : Launch) (G : Ge) (hG : rr_GD G) (s : St) (p1 : Int) : rr_Ct l G yX1_keptYards cX1_keptYards 4 (some .int) 1 21 1 [vr G 12, vi p1] s (f_X1_keptYards s p1) := by
  refine rr_mk (lv := [(0, vr G 12), (1, vi p1)]) RX1 (by decide) rfl hG (Nat.le_of_ble_eq_true rfl) rfl ?_
  intro X Z hO hf
  unfold f_X1_keptYards at hf
  refine at_iconst hO dX1_keptYards_0 1 rfl ?_
  refine at_istore_n hO (lv' := [(2, vi 0), (0, vr G 12), (1, vi p1)]) rfl (Nat.le_of_ble_eq_true rfl) rfl dX1_keptYards_1 2 rfl ?_
  refine at_iconst hO dX1_keptYards_2 3 rfl ?_
  refine at_istore_n hO (lv' := [(3, vi 0), (2, vi 0), (0, vr G 12), (1, vi p1)]) rfl (Nat.le_of_ble_eq_true rfl) rfl dX1_keptYards_3 4 rfl ?_
  exact at_sub (fun ls h => lv_sub h [2, 3, 1, 0] rfl) (wL_X1_keptYards_4 hO FU s p1 0 0 hf)

def f_X2_isFull (s : St) : Option Rt := chk (in32 (s 45 3)) ((if (s 45 3) < 8 then some (0, s) else some (1, s)))
set_option maxRecDepth 100000 in
set_option maxHeartbeats 4000000 in
theorem c_X2_isFull (l : Launch) (G : Ge) (hG : rr_GD G) (s : St) : rr_Ct l G yX2_isFull cX2_isFull 1 (some .boolean) 0 0 1 [vr G 45] s (f_X2_isFull s ) := by
  refine rr_mk (lv := [(0, vr G 45)]) RX2 (by decide) rfl hG (Nat.le_of_ble_eq_true rfl) rfl ?_
  intro X Z hO hf
  unfold f_X2_isFull at hf
  refine at_aload_n hO 0 rfl rfl dX2_isFull_0 1 rfl ?_
  refine at_getI hO fl_X2_21 rfl rfl dX2_isFull_1 4 rfl ?_
  refine at_bipush hO (by decide) dX2_isFull_4 6 rfl ?_
  obtain ⟨h1, hf⟩ := chk_some hf
  refine at_icmp_lt hO h1 (by decide) dX2_isFull_6 13 rfl 9 rfl hf (fun hf => ?_) (fun hf => ?_)
  · refine at_iconst hO dX2_isFull_13 14 rfl ?_
    exact at_zreturn hO (Or.inl rfl) dX2_isFull_14 hf
  · refine at_iconst hO dX2_isFull_9 10 rfl ?_
    refine at_goto hO dX2_isFull_10 14 rfl ?_
    exact at_zreturn hO (Or.inr rfl) dX2_isFull_14 hf

def f_X2_learn (s : St) (p1 p2 p3 : Int) : Option Rt := cll (f_X8_inside s (s 45 3) 8) (fun r1 s2 => chk (in32 r1) ((if r1 = 0 then some (0, s2) else chk (ix (s2 45 3) 8) (chk (ix ((su s2 46 (s2 45 3).toNat p1) 45 3) 8) (chk (ix ((su (su s2 46 (s2 45 3).toNat p1) 47 ((su s2 46 (s2 45 3).toNat p1) 45 3).toNat p2) 45 3) 8) (some (0, (su (su (su (su s2 46 (s2 45 3).toNat p1) 47 ((su s2 46 (s2 45 3).toNat p1) 45 3).toNat p2) 48 ((su (su s2 46 (s2 45 3).toNat p1) 47 ((su s2 46 (s2 45 3).toNat p1) 45 3).toNat p2) 45 3).toNat p3) 45 3 (((su (su (su s2 46 (s2 45 3).toNat p1) 47 ((su s2 46 (s2 45 3).toNat p1) 45 3).toNat p2) 48 ((su (su s2 46 (s2 45 3).toNat p1) 47 ((su s2 46 (s2 45 3).toNat p1) 45 3).toNat p2) 45 3).toNat p3) 45 3) + 1)))))))))
set_option maxRecDepth 100000 in
set_option maxHeartbeats 4000000 in
theorem c_X2_learn (l : Launch) (G : Ge) (hG : rr_GD G) (s : St) (p1 p2 p3 : Int) : rr_Ct l G yX2_learn cX2_learn 4 none 1 21 0 [vr G 45, vi p1, vi p2, vi p3] s (f_X2_learn s p1 p2 p3) := by
  refine rr_mk (lv := [(0, vr G 45), (1, vi p1), (2, vi p2), (3, vi p3)]) RX2 (by decide) rfl hG (Nat.le_of_ble_eq_true rfl) rfl ?_
  intro X Z hO hf
  unfold f_X2_learn at hf
  refine at_aload_n hO 0 rfl rfl dX2_learn_0 1 rfl ?_
  refine at_getI hO fl_X2_21 rfl rfl dX2_learn_1 4 rfl ?_
  refine at_bipush hO (by decide) dX2_learn_4 6 rfl ?_
  refine at_callSN1 (As := [vi (s 45 3), vi 8]) (st := []) hO (c_X8_inside _ G hO.g s (s 45 3) 8) mb_X8_inside ms_X8_inside lk_X2_25 rfl ⟨(Nat.le_of_ble_eq_true rfl), (Nat.le_of_ble_eq_true rfl)⟩ (Nat.le_of_ble_eq_true rfl) rfl dX2_learn_6 9 rfl hf (fun r1 s2 hf => ?_)
  obtain ⟨h3, hf⟩ := chk_some hf
  refine at_if_eq hO h3 dX2_learn_9 52 rfl 12 rfl hf (fun hf => ?_) (fun hf => ?_)
  · exact at_return hO dX2_learn_52 hf
  · refine at_aload_n hO 0 rfl rfl dX2_learn_12 13 rfl ?_
    refine at_getR hO fl_X2_9 rfl rfl dX2_learn_13 16 rfl ?_
    refine at_aload_n hO 0 rfl rfl dX2_learn_16 17 rfl ?_
    refine at_getI hO fl_X2_21 rfl rfl dX2_learn_17 20 rfl ?_
    refine at_iload_n hO 1 rfl rfl dX2_learn_20 21 rfl ?_
    obtain ⟨h4, hf⟩ := chk_some hf
    refine at_iastore hO rfl (Nat.le_of_ble_eq_true rfl) h4 ((s2 45 3).toNat) rfl dX2_learn_21 22 rfl ?_
    refine at_aload_n hO 0 rfl rfl dX2_learn_22 23 rfl ?_
    refine at_getR hO fl_X2_15 rfl rfl dX2_learn_23 26 rfl ?_
    refine at_aload_n hO 0 rfl rfl dX2_learn_26 27 rfl ?_
    refine at_getI hO fl_X2_21 rfl rfl dX2_learn_27 30 rfl ?_
    refine at_iload_n hO 2 rfl rfl dX2_learn_30 31 rfl ?_
    obtain ⟨h5, hf⟩ := chk_some hf
    refine at_iastore hO rfl (Nat.le_of_ble_eq_true rfl) h5 (((su s2 46 (s2 45 3).toNat p1) 45 3).toNat) rfl dX2_learn_31 32 rfl ?_
    refine at_aload_n hO 0 rfl rfl dX2_learn_32 33 rfl ?_
    refine at_getR hO fl_X2_18 rfl rfl dX2_learn_33 36 rfl ?_
    refine at_aload_n hO 0 rfl rfl dX2_learn_36 37 rfl ?_
    refine at_getI hO fl_X2_21 rfl rfl dX2_learn_37 40 rfl ?_
    refine at_iload_n hO 3 rfl rfl dX2_learn_40 41 rfl ?_
    obtain ⟨h6, hf⟩ := chk_some hf
    refine at_iastore hO rfl (Nat.le_of_ble_eq_true rfl) h6 (((su (su s2 46 (s2 45 3).toNat p1) 47 ((su s2 46 (s2 45 3).toNat p1) 45 3).toNat p2) 45 3).toNat) rfl dX2_learn_41 42 rfl ?_
    refine at_aload_n hO 0 rfl rfl dX2_learn_42 43 rfl ?_
    refine at_dup hO rfl dX2_learn_43 44 rfl ?_
    refine at_getI hO fl_X2_21 rfl rfl dX2_learn_44 47 rfl ?_
    refine at_iconst hO dX2_learn_47 48 rfl ?_
    refine at_iadd hO dX2_learn_48 49 rfl ?_
    refine at_putI hO fp_X2_21 rfl rfl dX2_learn_49 52 rfl ?_
    exact at_return hO dX2_learn_52 hf

def f_X2_clear (s : St) : Option Rt := some (0, (su s 45 3 0))
set_option maxRecDepth 100000 in
set_option maxHeartbeats 4000000 in
theorem c_X2_clear (l : Launch) (G : Ge) (hG : rr_GD G) (s : St) : rr_Ct l G yX2_clear cX2_clear 1 none 0 0 0 [vr G 45] s (f_X2_clear s ) := by
  refine rr_mk (lv := [(0, vr G 45)]) RX2 (by decide) rfl hG (Nat.le_of_ble_eq_true rfl) rfl ?_
  intro X Z hO hf
  unfold f_X2_clear at hf
  refine at_aload_n hO 0 rfl rfl dX2_clear_0 1 rfl ?_
  refine at_iconst hO dX2_clear_1 2 rfl ?_
  refine at_putI hO fp_X2_21 rfl rfl dX2_clear_2 5 rfl ?_
  exact at_return hO dX2_clear_5 hf

def f_X8_isSpringDay (s : St) (p1 p2 : Int) : Option Rt := chk (in32 p1) ((if p1 < 0 then some (0, s) else (if 3 ≤ p1 then some (0, s) else chk (in32 p2) ((if p2 < 0 then some (0, s) else (if 30 ≤ p2 then some (0, s) else some (1, s)))))))
set_option maxRecDepth 100000 in
set_option maxHeartbeats 4000000 in
theorem c_X8_isSpringDay (l : Launch) (G : Ge) (hG : rr_GD G) (s : St) (p1 p2 : Int) : rr_Ct l G yX8_isSpringDay cX8_isSpringDay 2 (some .boolean) 0 0 1 [vi p1, vi p2] s (f_X8_isSpringDay s p1 p2) := by
  refine rr_mk (lv := [(0, vi p1), (1, vi p2)]) RX8 (by decide) rfl hG (Nat.le_of_ble_eq_true rfl) rfl ?_
  intro X Z hO hf
  unfold f_X8_isSpringDay at hf
  refine at_iload_n hO 0 rfl rfl dX8_isSpringDay_0 1 rfl ?_
  obtain ⟨h1, hf⟩ := chk_some hf
  refine at_if_lt hO h1 dX8_isSpringDay_1 23 rfl 4 rfl hf (fun hf => ?_) (fun hf => ?_)
  · refine at_iconst hO dX8_isSpringDay_23 24 rfl ?_
    exact at_zreturn hO (Or.inl rfl) dX8_isSpringDay_24 hf
  · refine at_iload_n hO 0 rfl rfl dX8_isSpringDay_4 5 rfl ?_
    refine at_iconst hO dX8_isSpringDay_5 6 rfl ?_
    refine at_icmp_ge hO h1 (by decide) dX8_isSpringDay_6 23 rfl 9 rfl hf (fun hf => ?_) (fun hf => ?_)
    · refine at_iconst hO dX8_isSpringDay_23 24 rfl ?_
      exact at_zreturn hO (Or.inl rfl) dX8_isSpringDay_24 hf
    · refine at_iload_n hO 1 rfl rfl dX8_isSpringDay_9 10 rfl ?_
      obtain ⟨h2, hf⟩ := chk_some hf
      refine at_if_lt hO h2 dX8_isSpringDay_10 23 rfl 13 rfl hf (fun hf => ?_) (fun hf => ?_)
      · refine at_iconst hO dX8_isSpringDay_23 24 rfl ?_
        exact at_zreturn hO (Or.inl rfl) dX8_isSpringDay_24 hf
      · refine at_iload_n hO 1 rfl rfl dX8_isSpringDay_13 14 rfl ?_
        refine at_bipush hO (by decide) dX8_isSpringDay_14 16 rfl ?_
        refine at_icmp_ge hO h2 (by decide) dX8_isSpringDay_16 23 rfl 19 rfl hf (fun hf => ?_) (fun hf => ?_)
        · refine at_iconst hO dX8_isSpringDay_23 24 rfl ?_
          exact at_zreturn hO (Or.inl rfl) dX8_isSpringDay_24 hf
        · refine at_iconst hO dX8_isSpringDay_19 20 rfl ?_
          refine at_goto hO dX8_isSpringDay_20 24 rfl ?_
          exact at_zreturn hO (Or.inr rfl) dX8_isSpringDay_24 hf

def f_X6_wetYards (s : St) (p1 p2 : Int) : Option Rt := cll (f_X8_isSpringDay s p1 p2) (fun r1 s2 => chk (in32 r1) ((if r1 = 0 then some (0, s2) else chk (ix p1 3) (chk (ix p2 30) (some ((s2 (22 + p1.toNat) p2.toNat), s2))))))
set_option maxRecDepth 100000 in
set_option maxHeartbeats 4000000 in
theorem c_X6_wetYards (l : Launch) (G : Ge) (hG : rr_GD G) (s : St) (p1 p2 : Int) : rr_Ct l G yX6_wetYards cX6_wetYards 3 (some .int) 1 21 1 [vr G 16, vi p1, vi p2] s (f_X6_wetYards s p1 p2) := by
  refine rr_mk (lv := [(0, vr G 16), (1, vi p1), (2, vi p2)]) RX6 (by decide) rfl hG (Nat.le_of_ble_eq_true rfl) rfl ?_
  intro X Z hO hf
  unfold f_X6_wetYards at hf
  refine at_iload_n hO 1 rfl rfl dX6_wetYards_0 1 rfl ?_
  refine at_iload_n hO 2 rfl rfl dX6_wetYards_1 2 rfl ?_
  refine at_callSN1 (As := [vi p1, vi p2]) (st := []) hO (c_X8_isSpringDay _ G hO.g s p1 p2) mb_X8_isSpringDay ms_X8_isSpringDay lk_X6_62 rfl ⟨(Nat.le_of_ble_eq_true rfl), (Nat.le_of_ble_eq_true rfl)⟩ (Nat.le_of_ble_eq_true rfl) rfl dX6_wetYards_2 5 rfl hf (fun r1 s2 hf => ?_)
  obtain ⟨h3, hf⟩ := chk_some hf
  refine at_if_eq hO h3 dX6_wetYards_5 19 rfl 8 rfl hf (fun hf => ?_) (fun hf => ?_)
  · refine at_iconst hO dX6_wetYards_19 20 rfl ?_
    exact at_ireturn hO dX6_wetYards_20 hf
  · refine at_aload_n hO 0 rfl rfl dX6_wetYards_8 9 rfl ?_
    refine at_getR hO fl_X6_16 rfl rfl dX6_wetYards_9 12 rfl ?_
    refine at_iload_n hO 1 rfl rfl dX6_wetYards_12 13 rfl ?_
    obtain ⟨h4, hf⟩ := chk_some hf
    refine at_aaload5 hO rfl (Nat.le_of_ble_eq_true rfl) h4 (22 + p1.toNat) rfl dX6_wetYards_13 14 rfl ?_
    refine at_iload_n hO 2 rfl rfl dX6_wetYards_14 15 rfl ?_
    obtain ⟨h5, hf⟩ := chk_some hf
    refine at_iaload hO (tb_wet (ix_nat h4)) (Nat.le_of_ble_eq_true rfl) h5 (p2.toNat) rfl dX6_wetYards_15 16 rfl ?_
    refine at_goto hO dX6_wetYards_16 20 rfl ?_
    exact at_ireturn hO dX6_wetYards_20 hf

def S_X2_comeOutBy_3 (rec3 : St → Int → Int → Int → Option Rt) (s : St) (v2 v3 v4 : Int) : Option Rt := chk (in32 v4) (chk (in32 (s 45 3)) ((if (s 45 3) ≤ v4 then some (1, s) else (if 8 ≤ v4 then some (1, s) else chk (ix v4 8) (cll (f_X6_wetYards s v2 (s 46 v4.toNat)) (fun r4 s5 => chk (in32 (s5 47 v4.toNat)) (chk (in32 v3) ((if v3 ≤ (s5 47 v4.toNat) then rec3 s5 v2 v3 (v4 + 1) else chk (in32 (andZ (shrZ r4 (s5 47 v4.toNat)) 1)) (chk (in32 (s5 48 v4.toNat)) ((if (andZ (shrZ r4 (s5 47 v4.toNat)) 1) = (s5 48 v4.toNat) then rec3 s5 v2 v3 (v4 + 1) else some (0, s5)))))))))))))
def L_X2_comeOutBy_3 : Nat → St → Int → Int → Int → Option Rt
  | 0, _, _, _, _ => none
  | n + 1, s, v2, v3, v4 => S_X2_comeOutBy_3 (L_X2_comeOutBy_3 n) s v2 v3 v4
set_option maxRecDepth 100000 in
set_option maxHeartbeats 4000000 in
theorem wS_X2_comeOutBy_3 {X : CX} {G : Ge} {Z : Rt} {rec3 : St → Int → Int → Int → Option Rt} (hO : rr_OK X G cX2_comeOutBy 6 RX2 (some .boolean) 2 43) (hrec3 : ∀ (s : St) (v2 v3 v4 : Int), rec3 s v2 v3 v4 = some Z → rr_AT X G 6 1 Z 3 [(0, vr G 45), (1, vr G 16), (2, vi v2), (3, vi v3), (4, vi v4)] [] s) (s : St) (v2 v3 v4 : Int) (hf : S_X2_comeOutBy_3 rec3 s v2 v3 v4 = some Z) : rr_AT X G 6 1 Z 3 [(0, vr G 45), (1, vr G 16), (2, vi v2), (3, vi v3), (4, vi v4)] [] s := by
  unfold S_X2_comeOutBy_3 at hf
  refine at_iload hO 4 rfl dX2_comeOutBy_3 5 rfl ?_
  refine at_aload_n hO 0 rfl rfl dX2_comeOutBy_5 6 rfl ?_
  refine at_getI hO fl_X2_21 rfl rfl dX2_comeOutBy_6 9 rfl ?_
  obtain ⟨h1, hf⟩ := chk_some hf
  obtain ⟨h2, hf⟩ := chk_some hf
  refine at_icmp_ge hO h1 h2 dX2_comeOutBy_9 74 rfl 12 rfl hf (fun hf => ?_) (fun hf => ?_)
  · refine at_iconst hO dX2_comeOutBy_74 75 rfl ?_
    exact at_zreturn hO (Or.inr rfl) dX2_comeOutBy_75 hf
  · refine at_iload hO 4 rfl dX2_comeOutBy_12 14 rfl ?_
    refine at_bipush hO (by decide) dX2_comeOutBy_14 16 rfl ?_
    refine at_icmp_ge hO h1 (by decide) dX2_comeOutBy_16 74 rfl 19 rfl hf (fun hf => ?_) (fun hf => ?_)
    · refine at_iconst hO dX2_comeOutBy_74 75 rfl ?_
      exact at_zreturn hO (Or.inr rfl) dX2_comeOutBy_75 hf
    · refine at_aload_n hO 1 rfl rfl dX2_comeOutBy_19 20 rfl ?_
      refine at_iload_n hO 2 rfl rfl dX2_comeOutBy_20 21 rfl ?_
      refine at_aload_n hO 0 rfl rfl dX2_comeOutBy_21 22 rfl ?_
      refine at_getR hO fl_X2_9 rfl rfl dX2_comeOutBy_22 25 rfl ?_
      refine at_iload hO 4 rfl dX2_comeOutBy_25 27 rfl ?_
      obtain ⟨h3, hf⟩ := chk_some hf
      refine at_iaload hO rfl (Nat.le_of_ble_eq_true rfl) h3 (v4.toNat) rfl dX2_comeOutBy_27 28 rfl ?_
      refine at_callV1 (As := [vi v2, vi (s 46 v4.toNat)]) (st := []) hO (c_X6_wetYards _ G hO.g s v2 (s 46 v4.toNat)) mb_X6_wetYards mi_X6_wetYards lk_X2_29 rfl ⟨_, rfl, rfl⟩ rfl ⟨(Nat.le_of_ble_eq_true rfl), (Nat.le_of_ble_eq_true rfl)⟩ (Nat.le_of_ble_eq_true rfl) rfl dX2_comeOutBy_28 31 rfl hf (fun r4 s5 hf => ?_)
      refine at_aload_n hO 0 rfl rfl dX2_comeOutBy_31 32 rfl ?_
      refine at_getR hO fl_X2_15 rfl rfl dX2_comeOutBy_32 35 rfl ?_
      refine at_iload hO 4 rfl dX2_comeOutBy_35 37 rfl ?_
      refine at_iaload hO rfl (Nat.le_of_ble_eq_true rfl) h3 (v4.toNat) rfl dX2_comeOutBy_37 38 rfl ?_
      refine at_ishr hO dX2_comeOutBy_38 39 rfl ?_
      refine at_iconst hO dX2_comeOutBy_39 40 rfl ?_
      refine at_iand hO dX2_comeOutBy_40 41 rfl ?_
      refine at_istore hO (lv' := [(5, vi (andZ (shrZ r4 (s5 47 v4.toNat)) 1)), (0, vr G 45), (1, vr G 16), (2, vi v2), (3, vi v3), (4, vi v4)]) (Nat.le_of_ble_eq_true rfl) rfl dX2_comeOutBy_41 43 rfl ?_
      refine at_aload_n hO 1 rfl rfl dX2_comeOutBy_43 44 rfl ?_
      refine at_getR hO fl_X2_15 rfl rfl dX2_comeOutBy_44 47 rfl ?_
      refine at_iload hO 5 rfl dX2_comeOutBy_47 49 rfl ?_
      refine at_iaload hO rfl (Nat.le_of_ble_eq_true rfl) h3 (v4.toNat) rfl dX2_comeOutBy_49 50 rfl ?_
      refine at_iload_n hO 4 rfl rfl dX2_comeOutBy_50 51 rfl ?_
      obtain ⟨h6, hf⟩ := chk_some hf
      obtain ⟨h7, hf⟩ := chk_some hf
      refine at_icmp_ge hO h6 h7 dX2_comeOutBy_51 68 rfl 54 rfl hf (fun hf => ?_) (fun hf => ?_)
      · refine at_iinc hO (lv' := [(4, vi (v4 + 1)), (5, vi (andZ (shrZ r4 (s5 47 v4.toNat)) 1)), (0, vr G 45), (1, vr G 16), (2, vi v2), (3, vi v3)]) 5 rfl (Nat.le_of_ble_eq_true rfl) rfl dX2_comeOutBy_68 71 rfl ?_
        refine at_goto hO dX2_comeOutBy_71 3 rfl ?_
        exact at_sub (fun ls h => lv_sub h [2, 3, 4, 5, 0] rfl) (hrec3 s5 v2 v3 (v4 + 1) hf)
      · refine at_iload hO 0 rfl dX2_comeOutBy_54 56 rfl ?_
        refine at_aload_n hO 1 rfl rfl dX2_comeOutBy_56 57 rfl ?_
        refine at_getR hO fl_X2_18 rfl rfl dX2_comeOutBy_57 60 rfl ?_
        refine at_iload hO 5 rfl dX2_comeOutBy_60 62 rfl ?_
        refine at_iaload hO rfl (Nat.le_of_ble_eq_true rfl) h3 (v4.toNat) rfl dX2_comeOutBy_62 63 rfl ?_
        obtain ⟨h8, hf⟩ := chk_some hf
        obtain ⟨h9, hf⟩ := chk_some hf
        refine at_icmp_eq hO h8 h9 dX2_comeOutBy_63 68 rfl 66 rfl hf (fun hf => ?_) (fun hf => ?_)
        · refine at_iinc hO (lv' := [(4, vi (v4 + 1)), (5, vi (andZ (shrZ r4 (s5 47 v4.toNat)) 1)), (0, vr G 45), (1, vr G 16), (2, vi v2), (3, vi v3)]) 5 rfl (Nat.le_of_ble_eq_true rfl) rfl dX2_comeOutBy_68 71 rfl ?_
          refine at_goto hO dX2_comeOutBy_71 3 rfl ?_
          exact at_sub (fun ls h => lv_sub h [2, 3, 4, 5, 0] rfl) (hrec3 s5 v2 v3 (v4 + 1) hf)
        · refine at_iconst hO dX2_comeOutBy_66 67 rfl ?_
          exact at_zreturn hO (Or.inl rfl) dX2_comeOutBy_67 hf
theorem wL_X2_comeOutBy_3 {X : CX} {G : Ge} {Z : Rt} (hO : rr_OK X G cX2_comeOutBy 6 RX2 (some .boolean) 2 43) : ∀ (n : Nat) (s : St) (v2 v3 v4 : Int), L_X2_comeOutBy_3 n s v2 v3 v4 = some Z → rr_AT X G 6 1 Z 3 [(0, vr G 45), (1, vr G 16), (2, vi v2), (3, vi v3), (4, vi v4)] [] s := by
  intro n
  induction n with
  | zero =>
    intro s v2 v3 v4 hf
    cases hf
  | succ n ih =>
    intro s v2 v3 v4 hf
    exact wS_X2_comeOutBy_3 hO ih s v2 v3 v4 hf
def f_X2_comeOutBy (s : St) (p2 p3 : Int) : Option Rt := L_X2_comeOutBy_3 FU s p2 p3 0
set_option maxRecDepth 100000 in
set_option maxHeartbeats 4000000 in
theorem c_X2_comeOutBy (l : Launch) (G : Ge) (hG : rr_GD G) (s : St) (p2 p3 : Int) : rr_Ct l G yX2_comeOutBy cX2_comeOutBy 6 (some .boolean) 2 43 1 [vr G 45, vr G 16, vi p2, vi p3] s (f_X2_comeOutBy s p2 p3) := by
  refine rr_mk (lv := [(0, vr G 45), (1, vr G 16), (2, vi p2), (3, vi p3)]) RX2 (by decide) rfl hG (Nat.le_of_ble_eq_true rfl) rfl ?_
  intro X Z hO hf
  unfold f_X2_comeOutBy at hf
  refine at_iconst hO dX2_comeOutBy_0 1 rfl ?_
  refine at_istore hO (lv' := [(4, vi 0), (0, vr G 45), (1, vr G 16), (2, vi p2), (3, vi p3)]) (Nat.le_of_ble_eq_true rfl) rfl dX2_comeOutBy_1 3 rfl ?_
  exact at_sub (fun ls h => lv_sub h [1, 2, 3, 4, 0] rfl) (wL_X2_comeOutBy_3 hO FU s p2 p3 0 hf)

def S_X3_dryDays_6 (rec6 : St → Int → Int → Int → Int → Int → Option Rt) (s : St) (v1 v2 v3 v4 v5 : Int) : Option Rt := chk (in32 v5) (chk (in32 (v2 + 7)) ((if (v2 + 7) ≤ v5 then some (v4, s) else (if 30 ≤ v5 then some (v4, s) else cll (f_X6_wetYards s v1 v5) (fun r3 s4 => chk (in32 (andZ r3 v3)) ((if (andZ r3 v3) = 0 then rec6 s4 v1 v2 v3 (v4 + 1) (v5 + 1) else rec6 s4 v1 v2 v3 v4 (v5 + 1))))))))
def L_X3_dryDays_6 : Nat → St → Int → Int → Int → Int → Int → Option Rt
  | 0, _, _, _, _, _, _ => none
  | n + 1, s, v1, v2, v3, v4, v5 => S_X3_dryDays_6 (L_X3_dryDays_6 n) s v1 v2 v3 v4 v5
set_option maxRecDepth 100000 in
set_option maxHeartbeats 4000000 in
theorem wS_X3_dryDays_6 {X : CX} {G : Ge} {Z : Rt} {rec6 : St → Int → Int → Int → Int → Int → Option Rt} (hO : rr_OK X G cX3_dryDays 6 RX3 (some .int) 2 43) (hrec6 : ∀ (s : St) (v1 v2 v3 v4 v5 : Int), rec6 s v1 v2 v3 v4 v5 = some Z → rr_AT X G 6 1 Z 6 [(0, vr G 36), (1, vi v1), (2, vi v2), (3, vi v3), (4, vi v4), (5, vi v5)] [] s) (s : St) (v1 v2 v3 v4 v5 : Int) (hf : S_X3_dryDays_6 rec6 s v1 v2 v3 v4 v5 = some Z) : rr_AT X G 6 1 Z 6 [(0, vr G 36), (1, vi v1), (2, vi v2), (3, vi v3), (4, vi v4), (5, vi v5)] [] s := by
  unfold S_X3_dryDays_6 at hf
  refine at_iload hO 5 rfl dX3_dryDays_6 8 rfl ?_
  refine at_iload_n hO 2 rfl rfl dX3_dryDays_8 9 rfl ?_
  refine at_bipush hO (by decide) dX3_dryDays_9 11 rfl ?_
  refine at_iadd hO dX3_dryDays_11 12 rfl ?_
  obtain ⟨h1, hf⟩ := chk_some hf
  obtain ⟨h2, hf⟩ := chk_some hf
  refine at_icmp_ge hO h1 h2 dX3_dryDays_12 46 rfl 15 rfl hf (fun hf => ?_) (fun hf => ?_)
  · refine at_iload hO 4 rfl dX3_dryDays_46 48 rfl ?_
    exact at_ireturn hO dX3_dryDays_48 hf
  · refine at_iload hO 5 rfl dX3_dryDays_15 17 rfl ?_
    refine at_bipush hO (by decide) dX3_dryDays_17 19 rfl ?_
    refine at_icmp_ge hO h1 (by decide) dX3_dryDays_19 46 rfl 22 rfl hf (fun hf => ?_) (fun hf => ?_)
    · refine at_iload hO 4 rfl dX3_dryDays_46 48 rfl ?_
      exact at_ireturn hO dX3_dryDays_48 hf
    · refine at_aload_n hO 0 rfl rfl dX3_dryDays_22 23 rfl ?_
      refine at_getR hO fl_X3_21 rfl rfl dX3_dryDays_23 26 rfl ?_
      refine at_iload_n hO 1 rfl rfl dX3_dryDays_26 27 rfl ?_
      refine at_iload hO 5 rfl dX3_dryDays_27 29 rfl ?_
      refine at_callV1 (As := [vi v1, vi v5]) (st := []) hO (c_X6_wetYards _ G hO.g s v1 v5) mb_X6_wetYards mi_X6_wetYards lk_X3_33 rfl ⟨_, rfl, rfl⟩ rfl ⟨(Nat.le_of_ble_eq_true rfl), (Nat.le_of_ble_eq_true rfl)⟩ (Nat.le_of_ble_eq_true rfl) rfl dX3_dryDays_29 32 rfl hf (fun r3 s4 hf => ?_)
      refine at_iload_n hO 3 rfl rfl dX3_dryDays_32 33 rfl ?_
      refine at_iand hO dX3_dryDays_33 34 rfl ?_
      obtain ⟨h5, hf⟩ := chk_some hf
      refine at_if_ne hO h5 dX3_dryDays_34 40 rfl 37 rfl hf (fun hf => ?_) (fun hf => ?_)
      · refine at_iinc hO (lv' := [(5, vi (v5 + 1)), (0, vr G 36), (1, vi v1), (2, vi v2), (3, vi v3), (4, vi v4)]) 5 rfl (Nat.le_of_ble_eq_true rfl) rfl dX3_dryDays_40 43 rfl ?_
        refine at_goto hO dX3_dryDays_43 6 rfl ?_
        exact at_sub (fun ls h => lv_sub h [1, 2, 3, 4, 5, 0] rfl) (hrec6 s4 v1 v2 v3 v4 (v5 + 1) hf)
      · refine at_iinc hO (lv' := [(4, vi (v4 + 1)), (0, vr G 36), (1, vi v1), (2, vi v2), (3, vi v3), (5, vi v5)]) 4 rfl (Nat.le_of_ble_eq_true rfl) rfl dX3_dryDays_37 40 rfl ?_
        refine at_iinc hO (lv' := [(5, vi (v5 + 1)), (4, vi (v4 + 1)), (0, vr G 36), (1, vi v1), (2, vi v2), (3, vi v3)]) 5 rfl (Nat.le_of_ble_eq_true rfl) rfl dX3_dryDays_40 43 rfl ?_
        refine at_goto hO dX3_dryDays_43 6 rfl ?_
        exact at_sub (fun ls h => lv_sub h [2, 3, 4, 5, 1, 0] rfl) (hrec6 s4 v1 v2 v3 (v4 + 1) (v5 + 1) hf)
theorem wL_X3_dryDays_6 {X : CX} {G : Ge} {Z : Rt} (hO : rr_OK X G cX3_dryDays 6 RX3 (some .int) 2 43) : ∀ (n : Nat) (s : St) (v1 v2 v3 v4 v5 : Int), L_X3_dryDays_6 n s v1 v2 v3 v4 v5 = some Z → rr_AT X G 6 1 Z 6 [(0, vr G 36), (1, vi v1), (2, vi v2), (3, vi v3), (4, vi v4), (5, vi v5)] [] s := by
  intro n
  induction n with
  | zero =>
    intro s v1 v2 v3 v4 v5 hf
    cases hf
  | succ n ih =>
    intro s v1 v2 v3 v4 v5 hf
    exact wS_X3_dryDays_6 hO ih s v1 v2 v3 v4 v5 hf
def f_X3_dryDays (s : St) (p1 p2 p3 : Int) : Option Rt := L_X3_dryDays_6 FU s p1 p2 p3 0 p2
set_option maxRecDepth 100000 in
set_option maxHeartbeats 4000000 in
theorem c_X3_dryDays (l : Launch) (G : Ge) (hG : rr_GD G) (s : St) (p1 p2 p3 : Int) : rr_Ct l G yX3_dryDays cX3_dryDays 6 (some .int) 2 43 1 [vr G 36, vi p1, vi p2, vi p3] s (f_X3_dryDays s p1 p2 p3) := by
  refine rr_mk (lv := [(0, vr G 36), (1, vi p1), (2, vi p2), (3, vi p3)]) RX3 (by decide) rfl hG (Nat.le_of_ble_eq_true rfl) rfl ?_
  intro X Z hO hf
  unfold f_X3_dryDays at hf
  refine at_iconst hO dX3_dryDays_0 1 rfl ?_
  refine at_istore hO (lv' := [(4, vi 0), (0, vr G 36), (1, vi p1), (2, vi p2), (3, vi p3)]) (Nat.le_of_ble_eq_true rfl) rfl dX3_dryDays_1 3 rfl ?_
  refine at_iload_n hO 3 rfl rfl dX3_dryDays_3 4 rfl ?_
  refine at_istore hO (lv' := [(5, vi p2), (4, vi 0), (0, vr G 36), (1, vi p1), (2, vi p2), (3, vi p3)]) (Nat.le_of_ble_eq_true rfl) rfl dX3_dryDays_4 6 rfl ?_
  exact at_sub (fun ls h => lv_sub h [2, 3, 4, 5, 1, 0] rfl) (wL_X3_dryDays_6 hO FU s p1 p2 p3 0 p2 hf)

def S_X3_reckon_54 (rec33 : St → Int → Int → Int → Int → Int → Int → Int → Option Rt) (rec54 : St → Int → Int → Int → Int → Int → Int → Int → Int → Option Rt) (s : St) (v1 v2 v3 v4 v5 v6 v7 v8 : Int) : Option Rt := chk (in32 ((v8 + v7) - 1)) (chk (in32 v4) ((if v4 < ((v8 + v7) - 1) then rec33 s v1 v2 v3 v4 v5 v6 (v7 + 1) else cll (f_X8_yardBits s v8 ((v8 + v7) - 1)) (fun r3 s4 => cll (f_X3_dryDays s4 v1 v2 (andZ v6 (xorZ r3 (-1)))) (fun r5 s6 => chk (in32 r5) (chk (in32 (s6 36 1)) ((if r5 ≤ (s6 36 1) then rec54 s6 v1 v2 v3 v4 v5 v6 v7 (v8 + 1) else rec54 (su (su (su s6 36 1 r5) 36 2 v8) 36 3 v7) v1 v2 v3 v4 v5 v6 v7 (v8 + 1)))))))))
def L_X3_reckon_54 (rec33 : St → Int → Int → Int → Int → Int → Int → Int → Option Rt) : Nat → St → Int → Int → Int → Int → Int → Int → Int → Int → Option Rt
  | 0, _, _, _, _, _, _, _, _, _ => none
  | n + 1, s, v1, v2, v3, v4, v5, v6, v7, v8 => S_X3_reckon_54 rec33 (L_X3_reckon_54 rec33 n) s v1 v2 v3 v4 v5 v6 v7 v8
set_option maxRecDepth 100000 in
set_option maxHeartbeats 4000000 in
theorem wS_X3_reckon_54 {X : CX} {G : Ge} {Z : Rt} {rec33 : St → Int → Int → Int → Int → Int → Int → Int → Option Rt} {rec54 : St → Int → Int → Int → Int → Int → Int → Int → Int → Option Rt} (hO : rr_OK X G cX3_reckon 11 RX3 none 3 68) (hrec33 : ∀ (s : St) (v1 v2 v3 v4 v5 v6 v7 : Int), rec33 s v1 v2 v3 v4 v5 v6 v7 = some Z → rr_AT X G 11 0 Z 33 [(0, vr G 36), (1, vi v1), (2, vi v2), (3, vi v3), (4, vi v4), (5, vi v5), (6, vi v6), (7, vi v7)] [] s) (hrec54 : ∀ (s : St) (v1 v2 v3 v4 v5 v6 v7 v8 : Int), rec54 s v1 v2 v3 v4 v5 v6 v7 v8 = some Z → rr_AT X G 11 0 Z 54 [(0, vr G 36), (1, vi v1), (2, vi v2), (3, vi v3), (4, vi v4), (5, vi v5), (6, vi v6), (7, vi v7), (8, vi v8)] [] s) (s : St) (v1 v2 v3 v4 v5 v6 v7 v8 : Int) (hf : S_X3_reckon_54 rec33 rec54 s v1 v2 v3 v4 v5 v6 v7 v8 = some Z) : rr_AT X G 11 0 Z 54 [(0, vr G 36), (1, vi v1), (2, vi v2), (3, vi v3), (4, vi v4), (5, vi v5), (6, vi v6), (7, vi v7), (8, vi v8)] [] s := by
  unfold S_X3_reckon_54 at hf
  refine at_iload hO 8 rfl dX3_reckon_54 56 rfl ?_
  refine at_iload hO 7 rfl dX3_reckon_56 58 rfl ?_
  refine at_iadd hO dX3_reckon_58 59 rfl ?_
  refine at_iconst hO dX3_reckon_59 60 rfl ?_
  refine at_isub hO dX3_reckon_60 61 rfl ?_
  refine at_iload hO 4 rfl dX3_reckon_61 63 rfl ?_
  obtain ⟨h1, hf⟩ := chk_some hf
  obtain ⟨h2, hf⟩ := chk_some hf
  refine at_icmp_gt hO h1 h2 dX3_reckon_63 128 rfl 66 rfl hf (fun hf => ?_) (fun hf => ?_)
  · refine at_iinc hO (lv' := [(7, vi (v7 + 1)), (0, vr G 36), (1, vi v1), (2, vi v2), (3, vi v3), (4, vi v4), (5, vi v5), (6, vi v6), (8, vi v8)]) 7 rfl (Nat.le_of_ble_eq_true rfl) rfl dX3_reckon_128 131 rfl ?_
    refine at_goto hO dX3_reckon_131 33 rfl ?_
    exact at_sub (fun ls h => lv_sub h [1, 2, 3, 4, 5, 6, 7, 0] rfl) (hrec33 s v1 v2 v3 v4 v5 v6 (v7 + 1) hf)
  · refine at_iload hO 6 rfl dX3_reckon_66 68 rfl ?_
    refine at_iload hO 8 rfl dX3_reckon_68 70 rfl ?_
    refine at_iload hO 8 rfl dX3_reckon_70 72 rfl ?_
    refine at_iload hO 7 rfl dX3_reckon_72 74 rfl ?_
    refine at_iadd hO dX3_reckon_74 75 rfl ?_
    refine at_iconst hO dX3_reckon_75 76 rfl ?_
    refine at_isub hO dX3_reckon_76 77 rfl ?_
    refine at_callSN1 (As := [vi v8, vi ((v8 + v7) - 1)]) (st := [vi v6]) hO (c_X8_yardBits _ G hO.g s v8 ((v8 + v7) - 1)) mb_X8_yardBits ms_X8_yardBits lk_X3_25 rfl ⟨(Nat.le_of_ble_eq_true rfl), (Nat.le_of_ble_eq_true rfl)⟩ (Nat.le_of_ble_eq_true rfl) rfl dX3_reckon_77 80 rfl hf (fun r3 s4 hf => ?_)
    refine at_iconst hO dX3_reckon_80 81 rfl ?_
    refine at_ixor hO dX3_reckon_81 82 rfl ?_
    refine at_iand hO dX3_reckon_82 83 rfl ?_
    refine at_istore hO (lv' := [(9, vi (andZ v6 (xorZ r3 (-1)))), (0, vr G 36), (1, vi v1), (2, vi v2), (3, vi v3), (4, vi v4), (5, vi v5), (6, vi v6), (7, vi v7), (8, vi v8)]) (Nat.le_of_ble_eq_true rfl) rfl dX3_reckon_83 85 rfl ?_
    refine at_aload_n hO 1 rfl rfl dX3_reckon_85 86 rfl ?_
    refine at_iload_n hO 2 rfl rfl dX3_reckon_86 87 rfl ?_
    refine at_iload_n hO 3 rfl rfl dX3_reckon_87 88 rfl ?_
    refine at_iload hO 0 rfl dX3_reckon_88 90 rfl ?_
    refine at_callV1 (As := [vi v1, vi v2, vi (andZ v6 (xorZ r3 (-1)))]) (st := []) hO (c_X3_dryDays _ G hO.g s4 v1 v2 (andZ v6 (xorZ r3 (-1)))) mb_X3_dryDays mi_X3_dryDays lk_X3_29 rfl ⟨_, rfl, rfl⟩ rfl ⟨(Nat.le_of_ble_eq_true rfl), (Nat.le_of_ble_eq_true rfl)⟩ (Nat.le_of_ble_eq_true rfl) rfl dX3_reckon_90 93 rfl hf (fun r5 s6 hf => ?_)
    refine at_istore hO (lv' := [(10, vi r5), (9, vi (andZ v6 (xorZ r3 (-1)))), (0, vr G 36), (1, vi v1), (2, vi v2), (3, vi v3), (4, vi v4), (5, vi v5), (6, vi v6), (7, vi v7), (8, vi v8)]) (Nat.le_of_ble_eq_true rfl) rfl dX3_reckon_93 95 rfl ?_
    refine at_iload hO 0 rfl dX3_reckon_95 97 rfl ?_
    refine at_aload_n hO 2 rfl rfl dX3_reckon_97 98 rfl ?_
    refine at_getI hO fl_X3_9 rfl rfl dX3_reckon_98 101 rfl ?_
    obtain ⟨h7, hf⟩ := chk_some hf
    obtain ⟨h8, hf⟩ := chk_some hf
    refine at_icmp_le hO h7 h8 dX3_reckon_101 122 rfl 104 rfl hf (fun hf => ?_) (fun hf => ?_)
    · refine at_iinc hO (lv' := [(8, vi (v8 + 1)), (10, vi r5), (9, vi (andZ v6 (xorZ r3 (-1)))), (0, vr G 36), (1, vi v1), (2, vi v2), (3, vi v3), (4, vi v4), (5, vi v5), (6, vi v6), (7, vi v7)]) 10 rfl (Nat.le_of_ble_eq_true rfl) rfl dX3_reckon_122 125 rfl ?_
      refine at_goto hO dX3_reckon_125 54 rfl ?_
      exact at_sub (fun ls h => lv_sub h [3, 4, 5, 6, 7, 8, 9, 10, 0] rfl) (hrec54 s6 v1 v2 v3 v4 v5 v6 v7 (v8 + 1) hf)
    · refine at_aload_n hO 2 rfl rfl dX3_reckon_104 105 rfl ?_
      refine at_iload hO 0 rfl dX3_reckon_105 107 rfl ?_
      refine at_putI hO fp_X3_9 rfl rfl dX3_reckon_107 110 rfl ?_
      refine at_aload_n hO 2 rfl rfl dX3_reckon_110 111 rfl ?_
      refine at_iload hO 10 rfl dX3_reckon_111 113 rfl ?_
      refine at_putI hO fp_X3_15 rfl rfl dX3_reckon_113 116 rfl ?_
      refine at_aload_n hO 2 rfl rfl dX3_reckon_116 117 rfl ?_
      refine at_iload hO 9 rfl dX3_reckon_117 119 rfl ?_
      refine at_putI hO fp_X3_18 rfl rfl dX3_reckon_119 122 rfl ?_
      refine at_iinc hO (lv' := [(8, vi (v8 + 1)), (10, vi r5), (9, vi (andZ v6 (xorZ r3 (-1)))), (0, vr G 36), (1, vi v1), (2, vi v2), (3, vi v3), (4, vi v4), (5, vi v5), (6, vi v6), (7, vi v7)]) 10 rfl (Nat.le_of_ble_eq_true rfl) rfl dX3_reckon_122 125 rfl ?_
      refine at_goto hO dX3_reckon_125 54 rfl ?_
      exact at_sub (fun ls h => lv_sub h [3, 4, 5, 6, 7, 8, 9, 10, 0] rfl) (hrec54 (su (su (su s6 36 1 r5) 36 2 v8) 36 3 v7) v1 v2 v3 v4 v5 v6 v7 (v8 + 1) hf)
theorem wL_X3_reckon_54 {X : CX} {G : Ge} {Z : Rt} {rec33 : St → Int → Int → Int → Int → Int → Int → Int → Option Rt} (hO : rr_OK X G cX3_reckon 11 RX3 none 3 68) (hrec33 : ∀ (s : St) (v1 v2 v3 v4 v5 v6 v7 : Int), rec33 s v1 v2 v3 v4 v5 v6 v7 = some Z → rr_AT X G 11 0 Z 33 [(0, vr G 36), (1, vi v1), (2, vi v2), (3, vi v3), (4, vi v4), (5, vi v5), (6, vi v6), (7, vi v7)] [] s) : ∀ (n : Nat) (s : St) (v1 v2 v3 v4 v5 v6 v7 v8 : Int), L_X3_reckon_54 rec33 n s v1 v2 v3 v4 v5 v6 v7 v8 = some Z → rr_AT X G 11 0 Z 54 [(0, vr G 36), (1, vi v1), (2, vi v2), (3, vi v3), (4, vi v4), (5, vi v5), (6, vi v6), (7, vi v7), (8, vi v8)] [] s := by
  intro n
  induction n with
  | zero =>
    intro s v1 v2 v3 v4 v5 v6 v7 v8 hf
    cases hf
  | succ n ih =>
    intro s v1 v2 v3 v4 v5 v6 v7 v8 hf
    exact wS_X3_reckon_54 hO hrec33 ih s v1 v2 v3 v4 v5 v6 v7 v8 hf
def S_X3_reckon_33 (rec33 : St → Int → Int → Int → Int → Int → Int → Int → Option Rt) (s : St) (v1 v2 v3 v4 v5 v6 v7 : Int) : Option Rt := chk (in32 v7) (chk (in32 v5) ((if v5 < v7 then some (0, s) else chk (in32 ((v4 - v3) + 1)) ((if ((v4 - v3) + 1) < v7 then some (0, s) else L_X3_reckon_54 rec33 FU s v1 v2 v3 v4 v5 v6 v7 v3)))))
def L_X3_reckon_33 : Nat → St → Int → Int → Int → Int → Int → Int → Int → Option Rt
  | 0, _, _, _, _, _, _, _, _ => none
  | n + 1, s, v1, v2, v3, v4, v5, v6, v7 => S_X3_reckon_33 (L_X3_reckon_33 n) s v1 v2 v3 v4 v5 v6 v7
set_option maxRecDepth 100000 in
set_option maxHeartbeats 4000000 in
theorem wS_X3_reckon_33 {X : CX} {G : Ge} {Z : Rt} {rec33 : St → Int → Int → Int → Int → Int → Int → Int → Option Rt} (hO : rr_OK X G cX3_reckon 11 RX3 none 3 68) (hrec33 : ∀ (s : St) (v1 v2 v3 v4 v5 v6 v7 : Int), rec33 s v1 v2 v3 v4 v5 v6 v7 = some Z → rr_AT X G 11 0 Z 33 [(0, vr G 36), (1, vi v1), (2, vi v2), (3, vi v3), (4, vi v4), (5, vi v5), (6, vi v6), (7, vi v7)] [] s) (s : St) (v1 v2 v3 v4 v5 v6 v7 : Int) (hf : S_X3_reckon_33 rec33 s v1 v2 v3 v4 v5 v6 v7 = some Z) : rr_AT X G 11 0 Z 33 [(0, vr G 36), (1, vi v1), (2, vi v2), (3, vi v3), (4, vi v4), (5, vi v5), (6, vi v6), (7, vi v7)] [] s := by
  unfold S_X3_reckon_33 at hf
  refine at_iload hO 7 rfl dX3_reckon_33 35 rfl ?_
  refine at_iload hO 5 rfl dX3_reckon_35 37 rfl ?_
  obtain ⟨h1, hf⟩ := chk_some hf
  obtain ⟨h2, hf⟩ := chk_some hf
  refine at_icmp_gt hO h1 h2 dX3_reckon_37 134 rfl 40 rfl hf (fun hf => ?_) (fun hf => ?_)
  · exact at_return hO dX3_reckon_134 hf
  · refine at_iload hO 7 rfl dX3_reckon_40 42 rfl ?_
    refine at_iload hO 4 rfl dX3_reckon_42 44 rfl ?_
    refine at_iload_n hO 3 rfl rfl dX3_reckon_44 45 rfl ?_
    refine at_isub hO dX3_reckon_45 46 rfl ?_
    refine at_iconst hO dX3_reckon_46 47 rfl ?_
    refine at_iadd hO dX3_reckon_47 48 rfl ?_
    obtain ⟨h3, hf⟩ := chk_some hf
    refine at_icmp_gt hO h1 h3 dX3_reckon_48 134 rfl 51 rfl hf (fun hf => ?_) (fun hf => ?_)
    · exact at_return hO dX3_reckon_134 hf
    · refine at_iload_n hO 3 rfl rfl dX3_reckon_51 52 rfl ?_
      refine at_istore hO (lv' := [(8, vi v3), (0, vr G 36), (1, vi v1), (2, vi v2), (3, vi v3), (4, vi v4), (5, vi v5), (6, vi v6), (7, vi v7)]) (Nat.le_of_ble_eq_true rfl) rfl dX3_reckon_52 54 rfl ?_
      exact at_sub (fun ls h => lv_sub h [1, 2, 3, 4, 5, 6, 7, 8, 0] rfl) (wL_X3_reckon_54 hO hrec33 FU s v1 v2 v3 v4 v5 v6 v7 v3 hf)
theorem wL_X3_reckon_33 {X : CX} {G : Ge} {Z : Rt} (hO : rr_OK X G cX3_reckon 11 RX3 none 3 68) : ∀ (n : Nat) (s : St) (v1 v2 v3 v4 v5 v6 v7 : Int), L_X3_reckon_33 n s v1 v2 v3 v4 v5 v6 v7 = some Z → rr_AT X G 11 0 Z 33 [(0, vr G 36), (1, vi v1), (2, vi v2), (3, vi v3), (4, vi v4), (5, vi v5), (6, vi v6), (7, vi v7)] [] s := by
  intro n
  induction n with
  | zero =>
    intro s v1 v2 v3 v4 v5 v6 v7 hf
    cases hf
  | succ n ih =>
    intro s v1 v2 v3 v4 v5 v6 v7 hf
    exact wS_X3_reckon_33 hO ih s v1 v2 v3 v4 v5 v6 v7 hf
def f_X3_reckon (s : St) (p1 p2 p3 p4 p5 : Int) : Option Rt := cll (f_X8_yardBits s p3 p4) (fun r1 s2 => cll (f_X3_dryDays s2 p1 p2 r1) (fun r3 s4 => L_X3_reckon_33 FU (su (su (su s4 36 1 r3) 36 2 0) 36 3 0) p1 p2 p3 p4 p5 r1 1))
set_option maxRecDepth 100000 in
set_option maxHeartbeats 4000000 in
theorem c_X3_reckon (l : Launch) (G : Ge) (hG : rr_GD G) (s : St) (p1 p2 p3 p4 p5 : Int) : rr_Ct l G yX3_reckon cX3_reckon 11 none 3 68 0 [vr G 36, vi p1, vi p2, vi p3, vi p4, vi p5] s (f_X3_reckon s p1 p2 p3 p4 p5) := by
  refine rr_mk (lv := [(0, vr G 36), (1, vi p1), (2, vi p2), (3, vi p3), (4, vi p4), (5, vi p5)]) RX3 (by decide) rfl hG (Nat.le_of_ble_eq_true rfl) rfl ?_
  intro X Z hO hf
  unfold f_X3_reckon at hf
  refine at_iload_n hO 3 rfl rfl dX3_reckon_0 1 rfl ?_
  refine at_iload hO 4 rfl dX3_reckon_1 3 rfl ?_
  refine at_callSN1 (As := [vi p3, vi p4]) (st := []) hO (c_X8_yardBits _ G hO.g s p3 p4) mb_X8_yardBits ms_X8_yardBits lk_X3_25 rfl ⟨(Nat.le_of_ble_eq_true rfl), (Nat.le_of_ble_eq_true rfl)⟩ (Nat.le_of_ble_eq_true rfl) rfl dX3_reckon_3 6 rfl hf (fun r1 s2 hf => ?_)
  refine at_istore hO (lv' := [(6, vi r1), (0, vr G 36), (1, vi p1), (2, vi p2), (3, vi p3), (4, vi p4), (5, vi p5)]) (Nat.le_of_ble_eq_true rfl) rfl dX3_reckon_6 8 rfl ?_
  refine at_aload_n hO 1 rfl rfl dX3_reckon_8 9 rfl ?_
  refine at_aload_n hO 1 rfl rfl dX3_reckon_9 10 rfl ?_
  refine at_iload_n hO 2 rfl rfl dX3_reckon_10 11 rfl ?_
  refine at_iload_n hO 3 rfl rfl dX3_reckon_11 12 rfl ?_
  refine at_iload hO 0 rfl dX3_reckon_12 14 rfl ?_
  refine at_callV1 (As := [vi p1, vi p2, vi r1]) (st := [vr G 36]) hO (c_X3_dryDays _ G hO.g s2 p1 p2 r1) mb_X3_dryDays mi_X3_dryDays lk_X3_29 rfl ⟨_, rfl, rfl⟩ rfl ⟨(Nat.le_of_ble_eq_true rfl), (Nat.le_of_ble_eq_true rfl)⟩ (Nat.le_of_ble_eq_true rfl) rfl dX3_reckon_14 17 rfl hf (fun r3 s4 hf => ?_)
  refine at_putI hO fp_X3_9 rfl rfl dX3_reckon_17 20 rfl ?_
  refine at_aload_n hO 1 rfl rfl dX3_reckon_20 21 rfl ?_
  refine at_iconst hO dX3_reckon_21 22 rfl ?_
  refine at_putI hO fp_X3_15 rfl rfl dX3_reckon_22 25 rfl ?_
  refine at_aload_n hO 1 rfl rfl dX3_reckon_25 26 rfl ?_
  refine at_iconst hO dX3_reckon_26 27 rfl ?_
  refine at_putI hO fp_X3_18 rfl rfl dX3_reckon_27 30 rfl ?_
  refine at_iconst hO dX3_reckon_30 31 rfl ?_
  refine at_istore hO (lv' := [(7, vi 1), (6, vi r1), (0, vr G 36), (1, vi p1), (2, vi p2), (3, vi p3), (4, vi p4), (5, vi p5)]) (Nat.le_of_ble_eq_true rfl) rfl dX3_reckon_31 33 rfl ?_
  exact at_sub (fun ls h => lv_sub h [2, 3, 4, 5, 6, 7, 1, 0] rfl) (wL_X3_reckon_33 hO FU (su (su (su s4 36 1 r3) 36 2 0) 36 3 0) p1 p2 p3 p4 p5 r1 1 hf)

def f_X4_isLost (q0 : Nat) (s : St) : Option Rt := chk (in32 (s (50 + q0) 1)) ((if (s (50 + q0) 1) = (-1) then some (1, s) else some (0, s)))
set_option maxRecDepth 100000 in
set_option maxHeartbeats 4000000 in
theorem c_X4_isLost (l : Launch) (G : Ge) (hG : rr_GD G) (q0 : Nat) (hq0 : q0 < 4) (s : St) : rr_Ct l G yX4_isLost cX4_isLost 1 (some .boolean) 0 0 1 [vr G (50 + q0)] s (f_X4_isLost q0 s ) := by
  refine rr_mk (lv := [(0, vr G (50 + q0))]) RX4 (by decide) rfl hG (Nat.le_of_ble_eq_true rfl) rfl ?_
  intro X Z hO hf
  unfold f_X4_isLost at hf
  refine at_aload_n hO 0 rfl rfl dX4_isLost_0 1 rfl ?_
  refine at_getI hO fl_X4_15 (tb_sheet hq0) rfl dX4_isLost_1 4 rfl ?_
  refine at_iconst hO dX4_isLost_4 5 rfl ?_
  obtain ⟨h1, hf⟩ := chk_some hf
  refine at_icmp_ne hO h1 (by decide) dX4_isLost_5 12 rfl 8 rfl hf (fun hf => ?_) (fun hf => ?_)
  · refine at_iconst hO dX4_isLost_12 13 rfl ?_
    exact at_zreturn hO (Or.inl rfl) dX4_isLost_13 hf
  · refine at_iconst hO dX4_isLost_8 9 rfl ?_
    refine at_goto hO dX4_isLost_9 13 rfl ?_
    exact at_zreturn hO (Or.inr rfl) dX4_isLost_13 hf

def S_X4_renew_21 (q0 : Nat) (rec21 : St → Int → Option Rt) (s : St) (v3 : Int) : Option Rt := chk (in32 v3) ((if 60 ≤ v3 then some (0, s) else chk (ix v3 60) (rec21 (su s (54 + q0) v3.toNat 0) (v3 + 1))))
def L_X4_renew_21 (q0 : Nat) : Nat → St → Int → Option Rt
  | 0, _, _ => none
  | n + 1, s, v3 => S_X4_renew_21 q0 (L_X4_renew_21 q0 n) s v3
set_option maxRecDepth 100000 in
set_option maxHeartbeats 4000000 in
theorem wS_X4_renew_21 {X : CX} {G : Ge} {Z : Rt} {q0 : Nat} {rec21 : St → Int → Option Rt} (hO : rr_OK X G cX4_renew 4 RX4 none 1 21) (hq0 : q0 < 4) (hrec21 : ∀ (s : St) (v3 : Int), rec21 s v3 = some Z → rr_AT X G 4 0 Z 21 [(0, vr G (50 + q0)), (3, vi v3)] [] s) (s : St) (v3 : Int) (hf : S_X4_renew_21 q0 rec21 s v3 = some Z) : rr_AT X G 4 0 Z 21 [(0, vr G (50 + q0)), (3, vi v3)] [] s := by
  unfold S_X4_renew_21 at hf
  refine at_iload_n hO 1 rfl rfl dX4_renew_21 22 rfl ?_
  refine at_bipush hO (by decide) dX4_renew_22 24 rfl ?_
  obtain ⟨h1, hf⟩ := chk_some hf
  refine at_icmp_ge hO h1 (by decide) dX4_renew_24 40 rfl 27 rfl hf (fun hf => ?_) (fun hf => ?_)
  · exact at_return hO dX4_renew_40 hf
  · refine at_aload_n hO 0 rfl rfl dX4_renew_27 28 rfl ?_
    refine at_getR hO fl_X4_9 (tb_sheet hq0) rfl dX4_renew_28 31 rfl ?_
    refine at_iload_n hO 1 rfl rfl dX4_renew_31 32 rfl ?_
    refine at_iconst hO dX4_renew_32 33 rfl ?_
    obtain ⟨h2, hf⟩ := chk_some hf
    refine at_iastore hO (tb_items hq0) (Nat.le_of_ble_eq_true rfl) h2 (v3.toNat) rfl dX4_renew_33 34 rfl ?_
    refine at_iinc hO (lv' := [(3, vi (v3 + 1)), (0, vr G (50 + q0))]) 1 rfl (Nat.le_of_ble_eq_true rfl) rfl dX4_renew_34 37 rfl ?_
    refine at_goto hO dX4_renew_37 21 rfl ?_
    exact at_sub (fun ls h => lv_sub h [1, 0] rfl) (hrec21 (su s (54 + q0) v3.toNat 0) (v3 + 1) hf)
theorem wL_X4_renew_21 {X : CX} {G : Ge} {Z : Rt} {q0 : Nat} (hO : rr_OK X G cX4_renew 4 RX4 none 1 21) (hq0 : q0 < 4) : ∀ (n : Nat) (s : St) (v3 : Int), L_X4_renew_21 q0 n s v3 = some Z → rr_AT X G 4 0 Z 21 [(0, vr G (50 + q0)), (3, vi v3)] [] s := by
  intro n
  induction n with
  | zero =>
    intro s v3 hf
    cases hf
  | succ n ih =>
    intro s v3 hf
    exact wS_X4_renew_21 hO hq0 ih s v3 hf
def f_X4_renew (q0 : Nat) (s : St) (p1 p2 : Int) : Option Rt := chk (in32 p2) (chk (in32 (min p2 60)) (L_X4_renew_21 q0 FU (su (su s (50 + q0) 1 p1) (50 + q0) 2 (max 0 (min p2 60))) 0))
set_option maxRecDepth 100000 in
set_option maxHeartbeats 4000000 in
theorem c_X4_renew (l : Launch) (G : Ge) (hG : rr_GD G) (q0 : Nat) (hq0 : q0 < 4) (s : St) (p1 p2 : Int) : rr_Ct l G yX4_renew cX4_renew 4 none 1 21 0 [vr G (50 + q0), vi p1, vi p2] s (f_X4_renew q0 s p1 p2) := by
  refine rr_mk (lv := [(0, vr G (50 + q0)), (1, vi p1), (2, vi p2)]) RX4 (by decide) rfl hG (Nat.le_of_ble_eq_true rfl) rfl ?_
  intro X Z hO hf
  unfold f_X4_renew at hf
  refine at_aload_n hO 0 rfl rfl dX4_renew_0 1 rfl ?_
  refine at_iload_n hO 1 rfl rfl dX4_renew_1 2 rfl ?_
  refine at_putI hO fp_X4_15 (tb_sheet hq0) rfl dX4_renew_2 5 rfl ?_
  refine at_aload_n hO 0 rfl rfl dX4_renew_5 6 rfl ?_
  refine at_iconst hO dX4_renew_6 7 rfl ?_
  refine at_iload_n hO 2 rfl rfl dX4_renew_7 8 rfl ?_
  refine at_bipush hO (by decide) dX4_renew_8 10 rfl ?_
  obtain ⟨h1, hf⟩ := chk_some hf
  refine at_mmin hO h1 (by decide) lk_X4_22 ⟨(Nat.le_of_ble_eq_true rfl), (Nat.le_of_ble_eq_true rfl)⟩ dX4_renew_10 13 rfl ?_
  obtain ⟨h2, hf⟩ := chk_some hf
  refine at_mmax hO (by decide) h2 lk_X4_28 ⟨(Nat.le_of_ble_eq_true rfl), (Nat.le_of_ble_eq_true rfl)⟩ dX4_renew_13 16 rfl ?_
  refine at_putI hO fp_X4_19 (tb_sheet hq0) rfl dX4_renew_16 19 rfl ?_
  refine at_iconst hO dX4_renew_19 20 rfl ?_
  refine at_istore_n hO (lv' := [(3, vi 0), (0, vr G (50 + q0)), (1, vi p1), (2, vi p2)]) rfl (Nat.le_of_ble_eq_true rfl) rfl dX4_renew_20 21 rfl ?_
  exact at_sub (fun ls h => lv_sub h [1, 0] rfl) (wL_X4_renew_21 hO hq0 FU (su (su s (50 + q0) 1 p1) (50 + q0) 2 (max 0 (min p2 60))) 0 hf)

def f_X4_drop (q0 : Nat) (s : St) : Option Rt := some (0, (su (su s (50 + q0) 1 (-1)) (50 + q0) 2 0))
set_option maxRecDepth 100000 in
set_option maxHeartbeats 4000000 in
theorem c_X4_drop (l : Launch) (G : Ge) (hG : rr_GD G) (q0 : Nat) (hq0 : q0 < 4) (s : St) : rr_Ct l G yX4_drop cX4_drop 1 none 0 0 0 [vr G (50 + q0)] s (f_X4_drop q0 s ) := by
  refine rr_mk (lv := [(0, vr G (50 + q0))]) RX4 (by decide) rfl hG (Nat.le_of_ble_eq_true rfl) rfl ?_
  intro X Z hO hf
  unfold f_X4_drop at hf
  refine at_aload_n hO 0 rfl rfl dX4_drop_0 1 rfl ?_
  refine at_iconst hO dX4_drop_1 2 rfl ?_
  refine at_putI hO fp_X4_15 (tb_sheet hq0) rfl dX4_drop_2 5 rfl ?_
  refine at_aload_n hO 0 rfl rfl dX4_drop_5 6 rfl ?_
  refine at_iconst hO dX4_drop_6 7 rfl ?_
  refine at_putI hO fp_X4_19 (tb_sheet hq0) rfl dX4_drop_7 10 rfl ?_
  exact at_return hO dX4_drop_10 hf

def f_X4_trouble (q0 : Nat) (s : St) (p1 p2 : Int) : Option Rt := cll (f_X4_isLost q0 s) (fun r1 s2 => chk (in32 r1) ((if r1 = 0 then chk (in32 (s2 (50 + q0) 1)) (chk (in32 p1) ((if (s2 (50 + q0) 1) = p1 then cll (f_X8_inside s2 p2 (s2 (50 + q0) 2)) (fun r6 s7 => chk (in32 r6) ((if r6 = 0 then some (2, s7) else some (0, s7)))) else some (3, s2)))) else some (1, s2))))
set_option maxRecDepth 100000 in
set_option maxHeartbeats 4000000 in
theorem c_X4_trouble (l : Launch) (G : Ge) (hG : rr_GD G) (q0 : Nat) (hq0 : q0 < 4) (s : St) (p1 p2 : Int) : rr_Ct l G yX4_trouble cX4_trouble 3 (some .int) 1 21 1 [vr G (50 + q0), vi p1, vi p2] s (f_X4_trouble q0 s p1 p2) := by
  refine rr_mk (lv := [(0, vr G (50 + q0)), (1, vi p1), (2, vi p2)]) RX4 (by decide) rfl hG (Nat.le_of_ble_eq_true rfl) rfl ?_
  intro X Z hO hf
  unfold f_X4_trouble at hf
  refine at_aload_n hO 0 rfl rfl dX4_trouble_0 1 rfl ?_
  refine at_callV1 (As := []) (st := []) hO (c_X4_isLost _ G hO.g q0 hq0 s ) mb_X4_isLost mi_X4_isLost lk_X4_31 (tb_sheet hq0) ⟨_, rfl, rfl⟩ rfl ⟨(Nat.le_of_ble_eq_true rfl), (Nat.le_of_ble_eq_true rfl)⟩ (Nat.le_of_ble_eq_true rfl) rfl dX4_trouble_1 4 rfl hf (fun r1 s2 hf => ?_)
  obtain ⟨h3, hf⟩ := chk_some hf
  refine at_if_eq hO h3 dX4_trouble_4 9 rfl 7 rfl hf (fun hf => ?_) (fun hf => ?_)
  · refine at_aload_n hO 0 rfl rfl dX4_trouble_9 10 rfl ?_
    refine at_getI hO fl_X4_15 (tb_sheet hq0) rfl dX4_trouble_10 13 rfl ?_
    refine at_iload_n hO 1 rfl rfl dX4_trouble_13 14 rfl ?_
    obtain ⟨h4, hf⟩ := chk_some hf
    obtain ⟨h5, hf⟩ := chk_some hf
    refine at_icmp_eq hO h4 h5 dX4_trouble_14 19 rfl 17 rfl hf (fun hf => ?_) (fun hf => ?_)
    · refine at_iload_n hO 2 rfl rfl dX4_trouble_19 20 rfl ?_
      refine at_aload_n hO 0 rfl rfl dX4_trouble_20 21 rfl ?_
      refine at_getI hO fl_X4_19 (tb_sheet hq0) rfl dX4_trouble_21 24 rfl ?_
      refine at_callSN1 (As := [vi p2, vi (s2 (50 + q0) 2)]) (st := []) hO (c_X8_inside _ G hO.g s2 p2 (s2 (50 + q0) 2)) mb_X8_inside ms_X8_inside lk_X4_35 rfl ⟨(Nat.le_of_ble_eq_true rfl), (Nat.le_of_ble_eq_true rfl)⟩ (Nat.le_of_ble_eq_true rfl) rfl dX4_trouble_24 27 rfl hf (fun r6 s7 hf => ?_)
      obtain ⟨h8, hf⟩ := chk_some hf
      refine at_if_eq hO h8 dX4_trouble_27 34 rfl 30 rfl hf (fun hf => ?_) (fun hf => ?_)
      · refine at_iconst hO dX4_trouble_34 35 rfl ?_
        exact at_ireturn hO dX4_trouble_35 hf
      · refine at_iconst hO dX4_trouble_30 31 rfl ?_
        refine at_goto hO dX4_trouble_31 35 rfl ?_
        exact at_ireturn hO dX4_trouble_35 hf
    · refine at_iconst hO dX4_trouble_17 18 rfl ?_
      exact at_ireturn hO dX4_trouble_18 hf
  · refine at_iconst hO dX4_trouble_7 8 rfl ?_
    exact at_ireturn hO dX4_trouble_8 hf

def f_X4_cut (q0 : Nat) (s : St) (p1 : Int) : Option Rt := chk (in32 (s (50 + q0) 1)) ((if (s (50 + q0) 1) = 0 then some ((i2bZ p1), s) else (if (s (50 + q0) 1) = 1 then some ((i2sZ p1), s) else some (p1, s))))
set_option maxRecDepth 100000 in
set_option maxHeartbeats 4000000 in
theorem c_X4_cut (l : Launch) (G : Ge) (hG : rr_GD G) (q0 : Nat) (hq0 : q0 < 4) (s : St) (p1 : Int) : rr_Ct l G yX4_cut cX4_cut 2 (some .int) 0 0 1 [vr G (50 + q0), vi p1] s (f_X4_cut q0 s p1) := by
  refine rr_mk (lv := [(0, vr G (50 + q0)), (1, vi p1)]) RX4 (by decide) rfl hG (Nat.le_of_ble_eq_true rfl) rfl ?_
  intro X Z hO hf
  unfold f_X4_cut at hf
  refine at_aload_n hO 0 rfl rfl dX4_cut_0 1 rfl ?_
  refine at_getI hO fl_X4_15 (tb_sheet hq0) rfl dX4_cut_1 4 rfl ?_
  obtain ⟨h1, hf⟩ := chk_some hf
  refine at_if_ne hO h1 dX4_cut_4 10 rfl 7 rfl hf (fun hf => ?_) (fun hf => ?_)
  · refine at_aload_n hO 0 rfl rfl dX4_cut_10 11 rfl ?_
    refine at_getI hO fl_X4_15 (tb_sheet hq0) rfl dX4_cut_11 14 rfl ?_
    refine at_iconst hO dX4_cut_14 15 rfl ?_
    refine at_icmp_ne hO h1 (by decide) dX4_cut_15 23 rfl 18 rfl hf (fun hf => ?_) (fun hf => ?_)
    · refine at_iload_n hO 1 rfl rfl dX4_cut_23 24 rfl ?_
      exact at_ireturn hO dX4_cut_24 hf
    · refine at_iload_n hO 1 rfl rfl dX4_cut_18 19 rfl ?_
      refine at_i2s hO dX4_cut_19 20 rfl ?_
      refine at_goto hO dX4_cut_20 24 rfl ?_
      exact at_ireturn hO dX4_cut_24 hf
  · refine at_iload_n hO 1 rfl rfl dX4_cut_7 8 rfl ?_
    refine at_i2b hO dX4_cut_8 9 rfl ?_
    exact at_ireturn hO dX4_cut_9 hf

def f_X4_put (q0 : Nat) (s : St) (p1 p2 : Int) : Option Rt := cll (f_X8_inside s p1 (s (50 + q0) 2)) (fun r1 s2 => chk (in32 r1) ((if r1 = 0 then some (0, s2) else cll (f_X8_inside s2 p1 60) (fun r4 s5 => chk (in32 r4) ((if r4 = 0 then some (0, s5) else cll (f_X4_cut q0 s5 p2) (fun r7 s8 => chk (ix p1 60) (some (0, (su s8 (54 + q0) p1.toNat r7))))))))))
set_option maxRecDepth 100000 in
set_option maxHeartbeats 4000000 in
theorem c_X4_put (l : Launch) (G : Ge) (hG : rr_GD G) (q0 : Nat) (hq0 : q0 < 4) (s : St) (p1 p2 : Int) : rr_Ct l G yX4_put cX4_put 3 none 1 21 0 [vr G (50 + q0), vi p1, vi p2] s (f_X4_put q0 s p1 p2) := by
  refine rr_mk (lv := [(0, vr G (50 + q0)), (1, vi p1), (2, vi p2)]) RX4 (by decide) rfl hG (Nat.le_of_ble_eq_true rfl) rfl ?_
  intro X Z hO hf
  unfold f_X4_put at hf
  refine at_iload_n hO 1 rfl rfl dX4_put_0 1 rfl ?_
  refine at_aload_n hO 0 rfl rfl dX4_put_1 2 rfl ?_
  refine at_getI hO fl_X4_19 (tb_sheet hq0) rfl dX4_put_2 5 rfl ?_
  refine at_callSN1 (As := [vi p1, vi (s (50 + q0) 2)]) (st := []) hO (c_X8_inside _ G hO.g s p1 (s (50 + q0) 2)) mb_X8_inside ms_X8_inside lk_X4_35 rfl ⟨(Nat.le_of_ble_eq_true rfl), (Nat.le_of_ble_eq_true rfl)⟩ (Nat.le_of_ble_eq_true rfl) rfl dX4_put_5 8 rfl hf (fun r1 s2 hf => ?_)
  obtain ⟨h3, hf⟩ := chk_some hf
  refine at_if_eq hO h3 dX4_put_8 31 rfl 11 rfl hf (fun hf => ?_) (fun hf => ?_)
  · exact at_return hO dX4_put_31 hf
  · refine at_iload_n hO 1 rfl rfl dX4_put_11 12 rfl ?_
    refine at_bipush hO (by decide) dX4_put_12 14 rfl ?_
    refine at_callSN1 (As := [vi p1, vi 60]) (st := []) hO (c_X8_inside _ G hO.g s2 p1 60) mb_X8_inside ms_X8_inside lk_X4_35 rfl ⟨(Nat.le_of_ble_eq_true rfl), (Nat.le_of_ble_eq_true rfl)⟩ (Nat.le_of_ble_eq_true rfl) rfl dX4_put_14 17 rfl hf (fun r4 s5 hf => ?_)
    obtain ⟨h6, hf⟩ := chk_some hf
    refine at_if_eq hO h6 dX4_put_17 31 rfl 20 rfl hf (fun hf => ?_) (fun hf => ?_)
    · exact at_return hO dX4_put_31 hf
    · refine at_aload_n hO 0 rfl rfl dX4_put_20 21 rfl ?_
      refine at_getR hO fl_X4_9 (tb_sheet hq0) rfl dX4_put_21 24 rfl ?_
      refine at_iload_n hO 1 rfl rfl dX4_put_24 25 rfl ?_
      refine at_aload_n hO 0 rfl rfl dX4_put_25 26 rfl ?_
      refine at_iload_n hO 2 rfl rfl dX4_put_26 27 rfl ?_
      refine at_callV1 (As := [vi p2]) (st := [vi p1, vr G (54 + q0)]) hO (c_X4_cut _ G hO.g q0 hq0 s5 p2) mb_X4_cut mi_X4_cut lk_X4_39 (tb_sheet hq0) ⟨_, rfl, rfl⟩ rfl ⟨(Nat.le_of_ble_eq_true rfl), (Nat.le_of_ble_eq_true rfl)⟩ (Nat.le_of_ble_eq_true rfl) rfl dX4_put_27 30 rfl hf (fun r7 s8 hf => ?_)
      obtain ⟨h9, hf⟩ := chk_some hf
      refine at_iastore hO (tb_items hq0) (Nat.le_of_ble_eq_true rfl) h9 (p1.toNat) rfl dX4_put_30 31 rfl ?_
      exact at_return hO dX4_put_31 hf

def f_X4_hasRun (q0 : Nat) (s : St) (p1 p2 : Int) : Option Rt := chk (in32 p1) ((if p1 < 0 then some (0, s) else chk (in32 p2) ((if p2 < 0 then some (0, s) else chk (in32 (s (50 + q0) 2)) ((if (s (50 + q0) 2) < p1 then some (0, s) else chk (in32 ((s (50 + q0) 2) - p1)) ((if ((s (50 + q0) 2) - p1) < p2 then some (0, s) else some (1, s)))))))))
set_option maxRecDepth 100000 in
set_option maxHeartbeats 4000000 in
theorem c_X4_hasRun (l : Launch) (G : Ge) (hG : rr_GD G) (q0 : Nat) (hq0 : q0 < 4) (s : St) (p1 p2 : Int) : rr_Ct l G yX4_hasRun cX4_hasRun 3 (some .boolean) 0 0 1 [vr G (50 + q0), vi p1, vi p2] s (f_X4_hasRun q0 s p1 p2) := by
  refine rr_mk (lv := [(0, vr G (50 + q0)), (1, vi p1), (2, vi p2)]) RX4 (by decide) rfl hG (Nat.le_of_ble_eq_true rfl) rfl ?_
  intro X Z hO hf
  unfold f_X4_hasRun at hf
  refine at_iload_n hO 1 rfl rfl dX4_hasRun_0 1 rfl ?_
  obtain ⟨h1, hf⟩ := chk_some hf
  refine at_if_lt hO h1 dX4_hasRun_1 30 rfl 4 rfl hf (fun hf => ?_) (fun hf => ?_)
  · refine at_iconst hO dX4_hasRun_30 31 rfl ?_
    exact at_zreturn hO (Or.inl rfl) dX4_hasRun_31 hf
  · refine at_iload_n hO 2 rfl rfl dX4_hasRun_4 5 rfl ?_
    obtain ⟨h2, hf⟩ := chk_some hf
    refine at_if_lt hO h2 dX4_hasRun_5 30 rfl 8 rfl hf (fun hf => ?_) (fun hf => ?_)
    · refine at_iconst hO dX4_hasRun_30 31 rfl ?_
      exact at_zreturn hO (Or.inl rfl) dX4_hasRun_31 hf
    · refine at_iload_n hO 1 rfl rfl dX4_hasRun_8 9 rfl ?_
      refine at_aload_n hO 0 rfl rfl dX4_hasRun_9 10 rfl ?_
      refine at_getI hO fl_X4_19 (tb_sheet hq0) rfl dX4_hasRun_10 13 rfl ?_
      obtain ⟨h3, hf⟩ := chk_some hf
      refine at_icmp_gt hO h1 h3 dX4_hasRun_13 30 rfl 16 rfl hf (fun hf => ?_) (fun hf => ?_)
      · refine at_iconst hO dX4_hasRun_30 31 rfl ?_
        exact at_zreturn hO (Or.inl rfl) dX4_hasRun_31 hf
      · refine at_iload_n hO 2 rfl rfl dX4_hasRun_16 17 rfl ?_
        refine at_aload_n hO 0 rfl rfl dX4_hasRun_17 18 rfl ?_
        refine at_getI hO fl_X4_19 (tb_sheet hq0) rfl dX4_hasRun_18 21 rfl ?_
        refine at_iload_n hO 1 rfl rfl dX4_hasRun_21 22 rfl ?_
        refine at_isub hO dX4_hasRun_22 23 rfl ?_
        obtain ⟨h4, hf⟩ := chk_some hf
        refine at_icmp_gt hO h2 h4 dX4_hasRun_23 30 rfl 26 rfl hf (fun hf => ?_) (fun hf => ?_)
        · refine at_iconst hO dX4_hasRun_30 31 rfl ?_
          exact at_zreturn hO (Or.inl rfl) dX4_hasRun_31 hf
        · refine at_iconst hO dX4_hasRun_26 27 rfl ?_
          refine at_goto hO dX4_hasRun_27 31 rfl ?_
          exact at_zreturn hO (Or.inr rfl) dX4_hasRun_31 hf

def f_X5_isFull (q0 : Nat) (s : St) : Option Rt := chk (in32 (s (2 + q0) 1)) (chk (in32 ((rr_tl q0) : Int)) ((if (s (2 + q0) 1) < ((rr_tl q0) : Int) then some (0, s) else some (1, s))))
set_option maxRecDepth 100000 in
set_option maxHeartbeats 4000000 in
theorem c_X5_isFull (l : Launch) (G : Ge) (hG : rr_GD G) (q0 : Nat) (hq0 : q0 < 4) (s : St) : rr_Ct l G yX5_isFull cX5_isFull 1 (some .boolean) 0 0 1 [vr G (2 + q0)] s (f_X5_isFull q0 s ) := by
  refine rr_mk (lv := [(0, vr G (2 + q0))]) RX5 (by decide) rfl hG (Nat.le_of_ble_eq_true rfl) rfl ?_
  intro X Z hO hf
  unfold f_X5_isFull at hf
  refine at_aload_n hO 0 rfl rfl dX5_isFull_0 1 rfl ?_
  refine at_getI hO fl_X5_9 (tb_text hq0) rfl dX5_isFull_1 4 rfl ?_
  refine at_aload_n hO 0 rfl rfl dX5_isFull_4 5 rfl ?_
  refine at_getR hO fl_X5_21 (tb_text hq0) rfl dX5_isFull_5 8 rfl ?_
  refine at_alen hO (tb_bytes hq0) dX5_isFull_8 9 rfl ?_
  obtain ⟨h1, hf⟩ := chk_some hf
  obtain ⟨h2, hf⟩ := chk_some hf
  refine at_icmp_lt hO h1 h2 dX5_isFull_9 16 rfl 12 rfl hf (fun hf => ?_) (fun hf => ?_)
  · refine at_iconst hO dX5_isFull_16 17 rfl ?_
    exact at_zreturn hO (Or.inl rfl) dX5_isFull_17 hf
  · refine at_iconst hO dX5_isFull_12 13 rfl ?_
    refine at_goto hO dX5_isFull_13 17 rfl ?_
    exact at_zreturn hO (Or.inr rfl) dX5_isFull_17 hf

def f_X5_append (q0 : Nat) (s : St) (p1 : Int) : Option Rt := cll (f_X8_inside s (s (2 + q0) 1) ((rr_tl q0) : Int)) (fun r1 s2 => chk (in32 r1) ((if r1 = 0 then some (0, s2) else chk (ix (s2 (2 + q0) 1) (rr_tl q0)) (some (0, (su (su s2 (6 + q0) (s2 (2 + q0) 1).toNat p1) (2 + q0) 1 (((su s2 (6 + q0) (s2 (2 + q0) 1).toNat p1) (2 + q0) 1) + 1)))))))
set_option maxRecDepth 100000 in
set_option maxHeartbeats 4000000 in
theorem c_X5_append (l : Launch) (G : Ge) (hG : rr_GD G) (q0 : Nat) (hq0 : q0 < 4) (s : St) (p1 : Int) : rr_Ct l G yX5_append cX5_append 2 none 1 21 0 [vr G (2 + q0), vi p1] s (f_X5_append q0 s p1) := by
  refine rr_mk (lv := [(0, vr G (2 + q0)), (1, vi p1)]) RX5 (by decide) rfl hG (Nat.le_of_ble_eq_true rfl) rfl ?_
  intro X Z hO hf
  unfold f_X5_append at hf
  refine at_aload_n hO 0 rfl rfl dX5_append_0 1 rfl ?_
  refine at_getI hO fl_X5_9 (tb_text hq0) rfl dX5_append_1 4 rfl ?_
  refine at_aload_n hO 0 rfl rfl dX5_append_4 5 rfl ?_
  refine at_getR hO fl_X5_21 (tb_text hq0) rfl dX5_append_5 8 rfl ?_
  refine at_alen hO (tb_bytes hq0) dX5_append_8 9 rfl ?_
  refine at_callSN1 (As := [vi (s (2 + q0) 1), vi ((rr_tl q0) : Int)]) (st := []) hO (c_X8_inside _ G hO.g s (s (2 + q0) 1) ((rr_tl q0) : Int)) mb_X8_inside ms_X8_inside lk_X5_25 rfl ⟨(Nat.le_of_ble_eq_true rfl), (Nat.le_of_ble_eq_true rfl)⟩ (Nat.le_of_ble_eq_true rfl) rfl dX5_append_9 12 rfl hf (fun r1 s2 hf => ?_)
  obtain ⟨h3, hf⟩ := chk_some hf
  refine at_if_eq hO h3 dX5_append_12 35 rfl 15 rfl hf (fun hf => ?_) (fun hf => ?_)
  · exact at_return hO dX5_append_35 hf
  · refine at_aload_n hO 0 rfl rfl dX5_append_15 16 rfl ?_
    refine at_getR hO fl_X5_21 (tb_text hq0) rfl dX5_append_16 19 rfl ?_
    refine at_aload_n hO 0 rfl rfl dX5_append_19 20 rfl ?_
    refine at_getI hO fl_X5_9 (tb_text hq0) rfl dX5_append_20 23 rfl ?_
    refine at_iload_n hO 1 rfl rfl dX5_append_23 24 rfl ?_
    obtain ⟨h4, hf⟩ := chk_some hf
    refine at_iastore hO (tb_bytes hq0) (rr_tl_le _) h4 ((s2 (2 + q0) 1).toNat) rfl dX5_append_24 25 rfl ?_
    refine at_aload_n hO 0 rfl rfl dX5_append_25 26 rfl ?_
    refine at_dup hO rfl dX5_append_26 27 rfl ?_
    refine at_getI hO fl_X5_9 (tb_text hq0) rfl dX5_append_27 30 rfl ?_
    refine at_iconst hO dX5_append_30 31 rfl ?_
    refine at_iadd hO dX5_append_31 32 rfl ?_
    refine at_putI hO fp_X5_9 (tb_text hq0) rfl dX5_append_32 35 rfl ?_
    exact at_return hO dX5_append_35 hf

def f_X5_dropLast (q0 : Nat) (s : St) : Option Rt := chk (in32 ((s (2 + q0) 1) - 1)) (some (0, (su s (2 + q0) 1 (max ((s (2 + q0) 1) - 1) 0))))
set_option maxRecDepth 100000 in
set_option maxHeartbeats 4000000 in
theorem c_X5_dropLast (l : Launch) (G : Ge) (hG : rr_GD G) (q0 : Nat) (hq0 : q0 < 4) (s : St) : rr_Ct l G yX5_dropLast cX5_dropLast 1 none 1 21 0 [vr G (2 + q0)] s (f_X5_dropLast q0 s ) := by
  refine rr_mk (lv := [(0, vr G (2 + q0))]) RX5 (by decide) rfl hG (Nat.le_of_ble_eq_true rfl) rfl ?_
  intro X Z hO hf
  unfold f_X5_dropLast at hf
  refine at_aload_n hO 0 rfl rfl dX5_dropLast_0 1 rfl ?_
  refine at_aload_n hO 0 rfl rfl dX5_dropLast_1 2 rfl ?_
  refine at_getI hO fl_X5_9 (tb_text hq0) rfl dX5_dropLast_2 5 rfl ?_
  refine at_iconst hO dX5_dropLast_5 6 rfl ?_
  refine at_isub hO dX5_dropLast_6 7 rfl ?_
  refine at_iconst hO dX5_dropLast_7 8 rfl ?_
  obtain ⟨h1, hf⟩ := chk_some hf
  refine at_mmax hO h1 (by decide) lk_X5_15 ⟨(Nat.le_of_ble_eq_true rfl), (Nat.le_of_ble_eq_true rfl)⟩ dX5_dropLast_8 11 rfl ?_
  refine at_putI hO fp_X5_9 (tb_text hq0) rfl dX5_dropLast_11 14 rfl ?_
  exact at_return hO dX5_dropLast_14 hf

def f_X5_clear (q0 : Nat) (s : St) : Option Rt := some (0, (su s (2 + q0) 1 0))
set_option maxRecDepth 100000 in
set_option maxHeartbeats 4000000 in
theorem c_X5_clear (l : Launch) (G : Ge) (hG : rr_GD G) (q0 : Nat) (hq0 : q0 < 4) (s : St) : rr_Ct l G yX5_clear cX5_clear 1 none 0 0 0 [vr G (2 + q0)] s (f_X5_clear q0 s ) := by
  refine rr_mk (lv := [(0, vr G (2 + q0))]) RX5 (by decide) rfl hG (Nat.le_of_ble_eq_true rfl) rfl ?_
  intro X Z hO hf
  unfold f_X5_clear at hf
  refine at_aload_n hO 0 rfl rfl dX5_clear_0 1 rfl ?_
  refine at_iconst hO dX5_clear_1 2 rfl ?_
  refine at_putI hO fp_X5_9 (tb_text hq0) rfl dX5_clear_2 5 rfl ?_
  exact at_return hO dX5_clear_5 hf

def S_X5_firstFault_2 (q0 : Nat) (rec2 : St → Int → Option Rt) (s : St) (v1 : Int) : Option Rt := chk (in32 v1) (chk (in32 (s (2 + q0) 1)) ((if (s (2 + q0) 1) ≤ v1 then some ((-1), s) else chk (in32 ((rr_tl q0) : Int)) ((if ((rr_tl q0) : Int) ≤ v1 then some ((-1), s) else chk (ix v1 (rr_tl q0)) (chk (in32 (s (6 + q0) v1.toNat)) ((if (s (6 + q0) v1.toNat) < 48 then some (v1, s) else (if (s (6 + q0) v1.toNat) ≤ 57 then rec2 s (v1 + 1) else some (v1, s))))))))))
def L_X5_firstFault_2 (q0 : Nat) : Nat → St → Int → Option Rt
  | 0, _, _ => none
  | n + 1, s, v1 => S_X5_firstFault_2 q0 (L_X5_firstFault_2 q0 n) s v1
set_option maxRecDepth 100000 in
set_option maxHeartbeats 4000000 in
theorem wS_X5_firstFault_2 {X : CX} {G : Ge} {Z : Rt} {q0 : Nat} {rec2 : St → Int → Option Rt} (hO : rr_OK X G cX5_firstFault 2 RX5 (some .int) 0 0) (hq0 : q0 < 4) (hrec2 : ∀ (s : St) (v1 : Int), rec2 s v1 = some Z → rr_AT X G 2 1 Z 2 [(0, vr G (2 + q0)), (1, vi v1)] [] s) (s : St) (v1 : Int) (hf : S_X5_firstFault_2 q0 rec2 s v1 = some Z) : rr_AT X G 2 1 Z 2 [(0, vr G (2 + q0)), (1, vi v1)] [] s := by
  unfold S_X5_firstFault_2 at hf
  refine at_iload_n hO 1 rfl rfl dX5_firstFault_2 3 rfl ?_
  refine at_aload_n hO 0 rfl rfl dX5_firstFault_3 4 rfl ?_
  refine at_getI hO fl_X5_9 (tb_text hq0) rfl dX5_firstFault_4 7 rfl ?_
  obtain ⟨h1, hf⟩ := chk_some hf
  obtain ⟨h2, hf⟩ := chk_some hf
  refine at_icmp_ge hO h1 h2 dX5_firstFault_7 49 rfl 10 rfl hf (fun hf => ?_) (fun hf => ?_)
  · refine at_iconst hO dX5_firstFault_49 50 rfl ?_
    exact at_ireturn hO dX5_firstFault_50 hf
  · refine at_iload_n hO 1 rfl rfl dX5_firstFault_10 11 rfl ?_
    refine at_aload_n hO 0 rfl rfl dX5_firstFault_11 12 rfl ?_
    refine at_getR hO fl_X5_21 (tb_text hq0) rfl dX5_firstFault_12 15 rfl ?_
    refine at_alen hO (tb_bytes hq0) dX5_firstFault_15 16 rfl ?_
    obtain ⟨h3, hf⟩ := chk_some hf
    refine at_icmp_ge hO h1 h3 dX5_firstFault_16 49 rfl 19 rfl hf (fun hf => ?_) (fun hf => ?_)
    · refine at_iconst hO dX5_firstFault_49 50 rfl ?_
      exact at_ireturn hO dX5_firstFault_50 hf
    · refine at_aload_n hO 0 rfl rfl dX5_firstFault_19 20 rfl ?_
      refine at_getR hO fl_X5_21 (tb_text hq0) rfl dX5_firstFault_20 23 rfl ?_
      refine at_iload_n hO 1 rfl rfl dX5_firstFault_23 24 rfl ?_
      obtain ⟨h4, hf⟩ := chk_some hf
      refine at_iaload hO (tb_bytes hq0) (rr_tl_le _) h4 (v1.toNat) rfl dX5_firstFault_24 25 rfl ?_
      refine at_bipush hO (by decide) dX5_firstFault_25 27 rfl ?_
      obtain ⟨h5, hf⟩ := chk_some hf
      refine at_icmp_lt hO h5 (by decide) dX5_firstFault_27 41 rfl 30 rfl hf (fun hf => ?_) (fun hf => ?_)
      · refine at_iload_n hO 1 rfl rfl dX5_firstFault_41 42 rfl ?_
        exact at_ireturn hO dX5_firstFault_42 hf
      · refine at_aload_n hO 0 rfl rfl dX5_firstFault_30 31 rfl ?_
        refine at_getR hO fl_X5_21 (tb_text hq0) rfl dX5_firstFault_31 34 rfl ?_
        refine at_iload_n hO 1 rfl rfl dX5_firstFault_34 35 rfl ?_
        refine at_iaload hO (tb_bytes hq0) (rr_tl_le _) h4 (v1.toNat) rfl dX5_firstFault_35 36 rfl ?_
        refine at_bipush hO (by decide) dX5_firstFault_36 38 rfl ?_
        refine at_icmp_le hO h5 (by decide) dX5_firstFault_38 43 rfl 41 rfl hf (fun hf => ?_) (fun hf => ?_)
        · refine at_iinc hO (lv' := [(1, vi (v1 + 1)), (0, vr G (2 + q0))]) 1 rfl (Nat.le_of_ble_eq_true rfl) rfl dX5_firstFault_43 46 rfl ?_
          refine at_goto hO dX5_firstFault_46 2 rfl ?_
          exact at_sub (fun ls h => lv_sub h [1, 0] rfl) (hrec2 s (v1 + 1) hf)
        · refine at_iload_n hO 1 rfl rfl dX5_firstFault_41 42 rfl ?_
          exact at_ireturn hO dX5_firstFault_42 hf
theorem wL_X5_firstFault_2 {X : CX} {G : Ge} {Z : Rt} {q0 : Nat} (hO : rr_OK X G cX5_firstFault 2 RX5 (some .int) 0 0) (hq0 : q0 < 4) : ∀ (n : Nat) (s : St) (v1 : Int), L_X5_firstFault_2 q0 n s v1 = some Z → rr_AT X G 2 1 Z 2 [(0, vr G (2 + q0)), (1, vi v1)] [] s := by
  intro n
  induction n with
  | zero =>
    intro s v1 hf
    cases hf
  | succ n ih =>
    intro s v1 hf
    exact wS_X5_firstFault_2 hO hq0 ih s v1 hf
def f_X5_firstFault (q0 : Nat) (s : St) : Option Rt := L_X5_firstFault_2 q0 FU s 0
set_option maxRecDepth 100000 in
set_option maxHeartbeats 4000000 in
theorem c_X5_firstFault (l : Launch) (G : Ge) (hG : rr_GD G) (q0 : Nat) (hq0 : q0 < 4) (s : St) : rr_Ct l G yX5_firstFault cX5_firstFault 2 (some .int) 0 0 1 [vr G (2 + q0)] s (f_X5_firstFault q0 s ) := by
  refine rr_mk (lv := [(0, vr G (2 + q0))]) RX5 (by decide) rfl hG (Nat.le_of_ble_eq_true rfl) rfl ?_
  intro X Z hO hf
  unfold f_X5_firstFault at hf
  refine at_iconst hO dX5_firstFault_0 1 rfl ?_
  refine at_istore_n hO (lv' := [(1, vi 0), (0, vr G (2 + q0))]) rfl (Nat.le_of_ble_eq_true rfl) rfl dX5_firstFault_1 2 rfl ?_
  exact at_sub (fun ls h => lv_sub h [1, 0] rfl) (wL_X5_firstFault_2 hO hq0 FU s 0 hf)

def f_X5_told (q0 : Nat) (s : St) : Option Rt := cll (f_X5_firstFault q0 s) (fun r1 s2 => chk (in32 r1) ((if r1 = (-1) then some ((s2 (2 + q0) 1), s2) else some (0, s2))))
set_option maxRecDepth 100000 in
set_option maxHeartbeats 4000000 in
theorem c_X5_told (l : Launch) (G : Ge) (hG : rr_GD G) (q0 : Nat) (hq0 : q0 < 4) (s : St) : rr_Ct l G yX5_told cX5_told 1 (some .int) 1 21 1 [vr G (2 + q0)] s (f_X5_told q0 s ) := by
  refine rr_mk (lv := [(0, vr G (2 + q0))]) RX5 (by decide) rfl hG (Nat.le_of_ble_eq_true rfl) rfl ?_
  intro X Z hO hf
  unfold f_X5_told at hf
  refine at_aload_n hO 0 rfl rfl dX5_told_0 1 rfl ?_
  refine at_callV1 (As := []) (st := []) hO (c_X5_firstFault _ G hO.g q0 hq0 s ) mb_X5_firstFault mi_X5_firstFault lk_X5_29 (tb_text hq0) ⟨_, rfl, rfl⟩ rfl ⟨(Nat.le_of_ble_eq_true rfl), (Nat.le_of_ble_eq_true rfl)⟩ (Nat.le_of_ble_eq_true rfl) rfl dX5_told_1 4 rfl hf (fun r1 s2 hf => ?_)
  refine at_iconst hO dX5_told_4 5 rfl ?_
  obtain ⟨h3, hf⟩ := chk_some hf
  refine at_icmp_ne hO h3 (by decide) dX5_told_5 15 rfl 8 rfl hf (fun hf => ?_) (fun hf => ?_)
  · refine at_iconst hO dX5_told_15 16 rfl ?_
    exact at_ireturn hO dX5_told_16 hf
  · refine at_aload_n hO 0 rfl rfl dX5_told_8 9 rfl ?_
    refine at_getI hO fl_X5_9 (tb_text hq0) rfl dX5_told_9 12 rfl ?_
    refine at_goto hO dX5_told_12 16 rfl ?_
    exact at_ireturn hO dX5_told_16 hf
