def f_X8_inside (s : St) (p1 p2 : Int) : Option Rt := chk (in32 p1) ((if p1 < 0 then some (0, s) else chk (in32 p2) ((if p2 ≤ p1 then some (0, s) else some (1, s)))))
set_option maxRecDepth 100000 in
set_option maxHeartbeats 4000000 in
theorem c_X8_inside (l : Launch) (G : Ge) (hG : rr_GD G) (s : St) (p1 p2 : Int) : rr_Ct l G yX8_inside cX8_inside 2 (some .boolean) 0 0 1 [vi p1, vi p2] s (f_X8_inside s p1 p2) := by
  refine rr_mk (lv := [(0, vi p1), (1, vi p2)]) RX8 (by decide) rfl hG (Nat.le_of_ble_eq_true rfl) rfl ?_
  intro X Z hO hf
  unfold f_X8_inside at hf
  refine at_iload_n hO 0 rfl rfl dX8_inside_0 1 rfl ?_
  obtain ⟨h1, hf⟩ := chk_some hf
  refine at_if_lt hO h1 dX8_inside_1 13 rfl 4 rfl hf (fun hf => ?_) (fun hf => ?_)
  · refine at_iconst hO dX8_inside_13 14 rfl ?_
    exact at_zreturn hO (Or.inl rfl) dX8_inside_14 hf
  · refine at_iload_n hO 0 rfl rfl dX8_inside_4 5 rfl ?_
    refine at_iload_n hO 1 rfl rfl dX8_inside_5 6 rfl ?_
    obtain ⟨h2, hf⟩ := chk_some hf
    refine at_icmp_ge hO h1 h2 dX8_inside_6 13 rfl 9 rfl hf (fun hf => ?_) (fun hf => ?_)
    · refine at_iconst hO dX8_inside_13 14 rfl ?_
      exact at_zreturn hO (Or.inl rfl) dX8_inside_14 hf
    · refine at_iconst hO dX8_inside_9 10 rfl ?_
      refine at_goto hO dX8_inside_10 14 rfl ?_
      exact at_zreturn hO (Or.inr rfl) dX8_inside_14 hf

def f_X0_sign (s : St) (p1 p2 p3 p4 : Int) : Option Rt := cll (f_X8_inside s p1 8) (fun r1 s2 => chk (in32 r1) ((if r1 = 0 then some (0, s2) else chk (ix p1 8) (some (0, (su (su (su (su s2 38 p1.toNat p2) 39 p1.toNat p3) 40 p1.toNat p4) 37 6 (orZ ((su (su (su s2 38 p1.toNat p2) 39 p1.toNat p3) 40 p1.toNat p4) 37 6) (shlZ 1 p1))))))))
set_option maxRecDepth 100000 in
set_option maxHeartbeats 4000000 in
theorem c_X0_sign (l : Launch) (G : Ge) (hG : rr_GD G) (s : St) (p1 p2 p3 p4 : Int) : rr_Ct l G yX0_sign cX0_sign 5 none 1 21 0 [vr G 37, vi p1, vi p2, vi p3, vi p4] s (f_X0_sign s p1 p2 p3 p4) := by
  refine rr_mk (lv := [(0, vr G 37), (1, vi p1), (2, vi p2), (3, vi p3), (4, vi p4)]) RX0 (by decide) rfl hG (Nat.le_of_ble_eq_true rfl) rfl ?_
  intro X Z hO hf
  unfold f_X0_sign at hf
  refine at_iload_n hO 1 rfl rfl dX0_sign_0 1 rfl ?_
  refine at_bipush hO (by decide) dX0_sign_1 3 rfl ?_
  refine at_callSN1 (As := [vi p1, vi 8]) (st := []) hO (c_X8_inside _ G hO.g s p1 8) mb_X8_inside ms_X8_inside lk_X0_46 rfl ⟨(Nat.le_of_ble_eq_true rfl), (Nat.le_of_ble_eq_true rfl)⟩ (Nat.le_of_ble_eq_true rfl) rfl dX0_sign_3 6 rfl hf (fun r1 s2 hf => ?_)
  obtain ⟨h3, hf⟩ := chk_some hf
  refine at_if_eq hO h3 dX0_sign_6 43 rfl 9 rfl hf (fun hf => ?_) (fun hf => ?_)
  · exact at_return hO dX0_sign_43 hf
  · refine at_aload_n hO 0 rfl rfl dX0_sign_9 10 rfl ?_
    refine at_getR hO fl_X0_9 rfl rfl dX0_sign_10 13 rfl ?_
    refine at_iload_n hO 1 rfl rfl dX0_sign_13 14 rfl ?_
    refine at_iload_n hO 2 rfl rfl dX0_sign_14 15 rfl ?_
    obtain ⟨h4, hf⟩ := chk_some hf
    refine at_iastore hO rfl (Nat.le_of_ble_eq_true rfl) h4 (p1.toNat) rfl dX0_sign_15 16 rfl ?_
    refine at_aload_n hO 0 rfl rfl dX0_sign_16 17 rfl ?_
    refine at_getR hO fl_X0_15 rfl rfl dX0_sign_17 20 rfl ?_
    refine at_iload_n hO 1 rfl rfl dX0_sign_20 21 rfl ?_
    refine at_iload_n hO 3 rfl rfl dX0_sign_21 22 rfl ?_
    refine at_iastore hO rfl (Nat.le_of_ble_eq_true rfl) h4 (p1.toNat) rfl dX0_sign_22 23 rfl ?_
    refine at_aload_n hO 0 rfl rfl dX0_sign_23 24 rfl ?_
    refine at_getR hO fl_X0_18 rfl rfl dX0_sign_24 27 rfl ?_
    refine at_iload_n hO 1 rfl rfl dX0_sign_27 28 rfl ?_
    refine at_iload hO 4 rfl dX0_sign_28 30 rfl ?_
    refine at_iastore hO rfl (Nat.le_of_ble_eq_true rfl) h4 (p1.toNat) rfl dX0_sign_30 31 rfl ?_
    refine at_aload_n hO 0 rfl rfl dX0_sign_31 32 rfl ?_
    refine at_dup hO rfl dX0_sign_32 33 rfl ?_
    refine at_getI hO fl_X0_26 rfl rfl dX0_sign_33 36 rfl ?_
    refine at_iconst hO dX0_sign_36 37 rfl ?_
    refine at_iload_n hO 1 rfl rfl dX0_sign_37 38 rfl ?_
    refine at_ishl hO dX0_sign_38 39 rfl ?_
    refine at_ior hO dX0_sign_39 40 rfl ?_
    refine at_putI hO fp_X0_26 rfl rfl dX0_sign_40 43 rfl ?_
    exact at_return hO dX0_sign_43 hf

def f_X0_isSigned (s : St) (p1 : Int) : Option Rt := chk (in32 (andZ (shrZ (s 37 6) p1) 1)) ((if (andZ (shrZ (s 37 6) p1) 1) = 1 then some (1, s) else some (0, s)))
set_option maxRecDepth 100000 in
set_option maxHeartbeats 4000000 in
theorem c_X0_isSigned (l : Launch) (G : Ge) (hG : rr_GD G) (s : St) (p1 : Int) : rr_Ct l G yX0_isSigned cX0_isSigned 2 (some .boolean) 0 0 1 [vr G 37, vi p1] s (f_X0_isSigned s p1) := by
  refine rr_mk (lv := [(0, vr G 37), (1, vi p1)]) RX0 (by decide) rfl hG (Nat.le_of_ble_eq_true rfl) rfl ?_
  intro X Z hO hf
  unfold f_X0_isSigned at hf
  refine at_aload_n hO 0 rfl rfl dX0_isSigned_0 1 rfl ?_
  refine at_getI hO fl_X0_26 rfl rfl dX0_isSigned_1 4 rfl ?_
  refine at_iload_n hO 1 rfl rfl dX0_isSigned_4 5 rfl ?_
  refine at_ishr hO dX0_isSigned_5 6 rfl ?_
  refine at_iconst hO dX0_isSigned_6 7 rfl ?_
  refine at_iand hO dX0_isSigned_7 8 rfl ?_
  refine at_iconst hO dX0_isSigned_8 9 rfl ?_
  obtain ⟨h1, hf⟩ := chk_some hf
  refine at_icmp_ne hO h1 (by decide) dX0_isSigned_9 16 rfl 12 rfl hf (fun hf => ?_) (fun hf => ?_)
  · refine at_iconst hO dX0_isSigned_16 17 rfl ?_
    exact at_zreturn hO (Or.inl rfl) dX0_isSigned_17 hf
  · refine at_iconst hO dX0_isSigned_12 13 rfl ?_
    refine at_goto hO dX0_isSigned_13 17 rfl ?_
    exact at_zreturn hO (Or.inr rfl) dX0_isSigned_17 hf

def f_X0_tearUp (s : St) (p1 : Int) : Option Rt := some (0, (su s 37 6 (andZ (s 37 6) (xorZ (shlZ 1 p1) (-1)))))
set_option maxRecDepth 100000 in
set_option maxHeartbeats 4000000 in
theorem c_X0_tearUp (l : Launch) (G : Ge) (hG : rr_GD G) (s : St) (p1 : Int) : rr_Ct l G yX0_tearUp cX0_tearUp 2 none 0 0 0 [vr G 37, vi p1] s (f_X0_tearUp s p1) := by
  refine rr_mk (lv := [(0, vr G 37), (1, vi p1)]) RX0 (by decide) rfl hG (Nat.le_of_ble_eq_true rfl) rfl ?_
  intro X Z hO hf
  unfold f_X0_tearUp at hf
  refine at_aload_n hO 0 rfl rfl dX0_tearUp_0 1 rfl ?_
  refine at_dup hO rfl dX0_tearUp_1 2 rfl ?_
  refine at_getI hO fl_X0_26 rfl rfl dX0_tearUp_2 5 rfl ?_
  refine at_iconst hO dX0_tearUp_5 6 rfl ?_
  refine at_iload_n hO 1 rfl rfl dX0_tearUp_6 7 rfl ?_
  refine at_ishl hO dX0_tearUp_7 8 rfl ?_
  refine at_iconst hO dX0_tearUp_8 9 rfl ?_
  refine at_ixor hO dX0_tearUp_9 10 rfl ?_
  refine at_iand hO dX0_tearUp_10 11 rfl ?_
  refine at_putI hO fp_X0_26 rfl rfl dX0_tearUp_11 14 rfl ?_
  exact at_return hO dX0_tearUp_14 hf

def f_X6_lentFrom (s : St) (p1 : Int) : Option Rt := cll (f_X8_inside s p1 3) (fun r1 s2 => chk (in32 r1) ((if r1 = 0 then some ((-1), s2) else chk (ix p1 3) (some ((s2 25 p1.toNat), s2)))))
set_option maxRecDepth 100000 in
set_option maxHeartbeats 4000000 in
theorem c_X6_lentFrom (l : Launch) (G : Ge) (hG : rr_GD G) (s : St) (p1 : Int) : rr_Ct l G yX6_lentFrom cX6_lentFrom 2 (some .int) 1 21 1 [vr G 16, vi p1] s (f_X6_lentFrom s p1) := by
  refine rr_mk (lv := [(0, vr G 16), (1, vi p1)]) RX6 (by decide) rfl hG (Nat.le_of_ble_eq_true rfl) rfl ?_
  intro X Z hO hf
  unfold f_X6_lentFrom at hf
  refine at_iload_n hO 1 rfl rfl dX6_lentFrom_0 1 rfl ?_
  refine at_iconst hO dX6_lentFrom_1 2 rfl ?_
  refine at_callSN1 (As := [vi p1, vi 3]) (st := []) hO (c_X8_inside _ G hO.g s p1 3) mb_X8_inside ms_X8_inside lk_X6_66 rfl ⟨(Nat.le_of_ble_eq_true rfl), (Nat.le_of_ble_eq_true rfl)⟩ (Nat.le_of_ble_eq_true rfl) rfl dX6_lentFrom_2 5 rfl hf (fun r1 s2 hf => ?_)
  obtain ⟨h3, hf⟩ := chk_some hf
  refine at_if_eq hO h3 dX6_lentFrom_5 17 rfl 8 rfl hf (fun hf => ?_) (fun hf => ?_)
  · refine at_iconst hO dX6_lentFrom_17 18 rfl ?_
    exact at_ireturn hO dX6_lentFrom_18 hf
  · refine at_aload_n hO 0 rfl rfl dX6_lentFrom_8 9 rfl ?_
    refine at_getR hO fl_X6_19 rfl rfl dX6_lentFrom_9 12 rfl ?_
    refine at_iload_n hO 1 rfl rfl dX6_lentFrom_12 13 rfl ?_
    obtain ⟨h4, hf⟩ := chk_some hf
    refine at_iaload hO rfl (Nat.le_of_ble_eq_true rfl) h4 (p1.toNat) rfl dX6_lentFrom_13 14 rfl ?_
    refine at_goto hO dX6_lentFrom_14 18 rfl ?_
    exact at_ireturn hO dX6_lentFrom_18 hf

def B_X0_amountOf_29 (s : St) (v1 t0 : Int) : Option Rt := chk (in32 t0) ((if t0 = 0 then chk (ix v1 8) (some ((0 - (s 40 v1.toNat)), s)) else chk (ix v1 8) (some (((s 39 v1.toNat) - (s 40 v1.toNat)), s))))
set_option maxRecDepth 100000 in
set_option maxHeartbeats 4000000 in
theorem wB_X0_amountOf_29 {X : CX} {G : Ge} {Z : Rt} (hO : rr_OK X G cX0_amountOf 5 RX0 (some .int) 2 42) (s : St) (v1 t0 : Int) (hf : B_X0_amountOf_29 s v1 t0 = some Z) : rr_AT X G 5 1 Z 29 [(0, vr G 37), (1, vi v1)] [vi t0] s := by
  unfold B_X0_amountOf_29 at hf
  refine at_istore hO (lv' := [(4, vi t0), (0, vr G 37), (1, vi v1)]) (Nat.le_of_ble_eq_true rfl) rfl dX0_amountOf_29 31 rfl ?_
  refine at_iload hO 0 rfl dX0_amountOf_31 33 rfl ?_
  obtain ⟨h1, hf⟩ := chk_some hf
  refine at_if_eq hO h1 dX0_amountOf_33 45 rfl 36 rfl hf (fun hf => ?_) (fun hf => ?_)
  · refine at_iconst hO dX0_amountOf_45 46 rfl ?_
    refine at_aload_n hO 1 rfl rfl dX0_amountOf_46 47 rfl ?_
    refine at_getR hO fl_X0_18 rfl rfl dX0_amountOf_47 50 rfl ?_
    refine at_iload_n hO 2 rfl rfl dX0_amountOf_50 51 rfl ?_
    obtain ⟨h2, hf⟩ := chk_some hf
    refine at_iaload hO rfl (Nat.le_of_ble_eq_true rfl) h2 (v1.toNat) rfl dX0_amountOf_51 52 rfl ?_
    refine at_isub hO dX0_amountOf_52 53 rfl ?_
    exact at_ireturn hO dX0_amountOf_53 hf
  · refine at_aload_n hO 1 rfl rfl dX0_amountOf_36 37 rfl ?_
    refine at_getR hO fl_X0_15 rfl rfl dX0_amountOf_37 40 rfl ?_
    refine at_iload_n hO 2 rfl rfl dX0_amountOf_40 41 rfl ?_
    obtain ⟨h3, hf⟩ := chk_some hf
    refine at_iaload hO rfl (Nat.le_of_ble_eq_true rfl) h3 (v1.toNat) rfl dX0_amountOf_41 42 rfl ?_
    refine at_goto hO dX0_amountOf_42 46 rfl ?_
    refine at_aload_n hO 1 rfl rfl dX0_amountOf_46 47 rfl ?_
    refine at_getR hO fl_X0_18 rfl rfl dX0_amountOf_47 50 rfl ?_
    refine at_iload_n hO 2 rfl rfl dX0_amountOf_50 51 rfl ?_
    refine at_iaload hO rfl (Nat.le_of_ble_eq_true rfl) h3 (v1.toNat) rfl dX0_amountOf_51 52 rfl ?_
    refine at_isub hO dX0_amountOf_52 53 rfl ?_
    exact at_ireturn hO dX0_amountOf_53 hf
def f_X0_amountOf (s : St) (p1 p2 : Int) : Option Rt := cll (f_X6_lentFrom s p2) (fun r1 s2 => chk (in32 r1) ((if r1 = (-1) then B_X0_amountOf_29 s2 p1 0 else chk (ix p1 8) (chk (in32 (s2 38 p1.toNat)) ((if (s2 38 p1.toNat) < r1 then B_X0_amountOf_29 s2 p1 0 else B_X0_amountOf_29 s2 p1 1))))))
set_option maxRecDepth 100000 in
set_option maxHeartbeats 4000000 in
theorem c_X0_amountOf (l : Launch) (G : Ge) (hG : rr_GD G) (s : St) (p1 p2 : Int) : rr_Ct l G yX0_amountOf cX0_amountOf 5 (some .int) 2 42 1 [vr G 37, vi p1, vi p2] s (f_X0_amountOf s p1 p2) := by
  refine rr_mk (lv := [(0, vr G 37), (1, vi p1), (2, vi p2)]) RX0 (by decide) rfl hG (Nat.le_of_ble_eq_true rfl) rfl ?_
  intro X Z hO hf
  unfold f_X0_amountOf at hf
  refine at_aload_n hO 0 rfl rfl dX0_amountOf_0 1 rfl ?_
  refine at_getR hO fl_X0_39 rfl rfl dX0_amountOf_1 4 rfl ?_
  refine at_iload_n hO 2 rfl rfl dX0_amountOf_4 5 rfl ?_
  refine at_callV1 (As := [vi p2]) (st := []) hO (c_X6_lentFrom _ G hO.g s p2) mb_X6_lentFrom mi_X6_lentFrom lk_X0_69 rfl ⟨_, rfl, rfl⟩ rfl ⟨(Nat.le_of_ble_eq_true rfl), (Nat.le_of_ble_eq_true rfl)⟩ (Nat.le_of_ble_eq_true rfl) rfl dX0_amountOf_5 8 rfl hf (fun r1 s2 hf => ?_)
  refine at_istore_n hO (lv' := [(3, vi r1), (0, vr G 37), (1, vi p1), (2, vi p2)]) rfl (Nat.le_of_ble_eq_true rfl) rfl dX0_amountOf_8 9 rfl ?_
  refine at_iload_n hO 0 rfl rfl dX0_amountOf_9 10 rfl ?_
  refine at_iconst hO dX0_amountOf_10 11 rfl ?_
  obtain ⟨h3, hf⟩ := chk_some hf
  refine at_icmp_eq hO h3 (by decide) dX0_amountOf_11 28 rfl 14 rfl hf (fun hf => ?_) (fun hf => ?_)
  · refine at_iconst hO dX0_amountOf_28 29 rfl ?_
    exact at_sub (fun ls h => lv_sub h [1, 2] rfl) (wB_X0_amountOf_29 hO s2 p1 0 hf)
  · refine at_iload_n hO 0 rfl rfl dX0_amountOf_14 15 rfl ?_
    refine at_aload_n hO 1 rfl rfl dX0_amountOf_15 16 rfl ?_
    refine at_getR hO fl_X0_9 rfl rfl dX0_amountOf_16 19 rfl ?_
    refine at_iload_n hO 2 rfl rfl dX0_amountOf_19 20 rfl ?_
    obtain ⟨h4, hf⟩ := chk_some hf
    refine at_iaload hO rfl (Nat.le_of_ble_eq_true rfl) h4 (p1.toNat) rfl dX0_amountOf_20 21 rfl ?_
    obtain ⟨h5, hf⟩ := chk_some hf
    refine at_icmp_gt hO h3 h5 dX0_amountOf_21 28 rfl 24 rfl hf (fun hf => ?_) (fun hf => ?_)
    · refine at_iconst hO dX0_amountOf_28 29 rfl ?_
      exact at_sub (fun ls h => lv_sub h [1, 2] rfl) (wB_X0_amountOf_29 hO s2 p1 0 hf)
    · refine at_iconst hO dX0_amountOf_24 25 rfl ?_
      refine at_goto hO dX0_amountOf_25 29 rfl ?_
      exact at_sub (fun ls h => lv_sub h [1, 2] rfl) (wB_X0_amountOf_29 hO s2 p1 1 hf)

def S_X0_fillBrought_44 (rec11 : St → Int → Int → Option Rt) (rec44 : St → Int → Int → Int → Int → Int → Option Rt) (s : St) (v1 v2 v3 v4 v5 : Int) : Option Rt := chk (in32 v5) (chk (in32 v4) ((if v4 ≤ v5 then rec11 s v1 (v2 + 1) else chk (in32 (v4 + v5)) ((if 256 ≤ (v4 + v5) then rec11 s v1 (v2 + 1) else chk (ix v1 3) (chk (ix v5 256) (chk (ix (v4 + v5) 256) (rec44 (su s (42 + v1.toNat) (v4 + v5).toNat ((s (42 + v1.toNat) v5.toNat) + v3)) v1 v2 v3 v4 (v5 + 1)))))))))
def L_X0_fillBrought_44 (rec11 : St → Int → Int → Option Rt) : Nat → St → Int → Int → Int → Int → Int → Option Rt
  | 0, _, _, _, _, _, _ => none
  | n + 1, s, v1, v2, v3, v4, v5 => S_X0_fillBrought_44 rec11 (L_X0_fillBrought_44 rec11 n) s v1 v2 v3 v4 v5
set_option maxRecDepth 100000 in
set_option maxHeartbeats 4000000 in
theorem wS_X0_fillBrought_44 {X : CX} {G : Ge} {Z : Rt} {rec11 : St → Int → Int → Option Rt} {rec44 : St → Int → Int → Int → Int → Int → Option Rt} (hO : rr_OK X G cX0_fillBrought 6 RX0 none 3 66) (hrec11 : ∀ (s : St) (v1 v2 : Int), rec11 s v1 v2 = some Z → rr_AT X G 6 0 Z 11 [(0, vr G 37), (1, vi v1), (2, vi v2)] [] s) (hrec44 : ∀ (s : St) (v1 v2 v3 v4 v5 : Int), rec44 s v1 v2 v3 v4 v5 = some Z → rr_AT X G 6 0 Z 44 [(0, vr G 37), (1, vi v1), (2, vi v2), (3, vi v3), (4, vi v4), (5, vi v5)] [] s) (s : St) (v1 v2 v3 v4 v5 : Int) (hf : S_X0_fillBrought_44 rec11 rec44 s v1 v2 v3 v4 v5 = some Z) : rr_AT X G 6 0 Z 44 [(0, vr G 37), (1, vi v1), (2, vi v2), (3, vi v3), (4, vi v4), (5, vi v5)] [] s := by
  unfold S_X0_fillBrought_44 at hf
  refine at_iload hO 5 rfl dX0_fillBrought_44 46 rfl ?_
  refine at_iload hO 4 rfl dX0_fillBrought_46 48 rfl ?_
  obtain ⟨h1, hf⟩ := chk_some hf
  obtain ⟨h2, hf⟩ := chk_some hf
  refine at_icmp_ge hO h1 h2 dX0_fillBrought_48 91 rfl 51 rfl hf (fun hf => ?_) (fun hf => ?_)
  · refine at_iinc hO (lv' := [(2, vi (v2 + 1)), (0, vr G 37), (1, vi v1), (3, vi v3), (4, vi v4), (5, vi v5)]) 2 rfl (Nat.le_of_ble_eq_true rfl) rfl dX0_fillBrought_91 94 rfl ?_
    refine at_goto hO dX0_fillBrought_94 11 rfl ?_
    exact at_sub (fun ls h => lv_sub h [1, 2, 0] rfl) (hrec11 s v1 (v2 + 1) hf)
  · refine at_iload hO 4 rfl dX0_fillBrought_51 53 rfl ?_
    refine at_iload hO 5 rfl dX0_fillBrought_53 55 rfl ?_
    refine at_iadd hO dX0_fillBrought_55 56 rfl ?_
    refine at_sipush hO (by decide) dX0_fillBrought_56 59 rfl ?_
    obtain ⟨h3, hf⟩ := chk_some hf
    refine at_icmp_ge hO h3 (by decide) dX0_fillBrought_59 91 rfl 62 rfl hf (fun hf => ?_) (fun hf => ?_)
    · refine at_iinc hO (lv' := [(2, vi (v2 + 1)), (0, vr G 37), (1, vi v1), (3, vi v3), (4, vi v4), (5, vi v5)]) 2 rfl (Nat.le_of_ble_eq_true rfl) rfl dX0_fillBrought_91 94 rfl ?_
      refine at_goto hO dX0_fillBrought_94 11 rfl ?_
      exact at_sub (fun ls h => lv_sub h [1, 2, 0] rfl) (hrec11 s v1 (v2 + 1) hf)
    · refine at_aload_n hO 0 rfl rfl dX0_fillBrought_62 63 rfl ?_
      refine at_getR hO fl_X0_23 rfl rfl dX0_fillBrought_63 66 rfl ?_
      refine at_iload_n hO 1 rfl rfl dX0_fillBrought_66 67 rfl ?_
      obtain ⟨h4, hf⟩ := chk_some hf
      refine at_aaload5 hO rfl (Nat.le_of_ble_eq_true rfl) h4 (42 + v1.toNat) rfl dX0_fillBrought_67 68 rfl ?_
      refine at_iload hO 4 rfl dX0_fillBrought_68 70 rfl ?_
      refine at_iload hO 5 rfl dX0_fillBrought_70 72 rfl ?_
      refine at_iadd hO dX0_fillBrought_72 73 rfl ?_
      refine at_aload_n hO 0 rfl rfl dX0_fillBrought_73 74 rfl ?_
      refine at_getR hO fl_X0_23 rfl rfl dX0_fillBrought_74 77 rfl ?_
      refine at_iload_n hO 1 rfl rfl dX0_fillBrought_77 78 rfl ?_
      refine at_aaload5 hO rfl (Nat.le_of_ble_eq_true rfl) h4 (42 + v1.toNat) rfl dX0_fillBrought_78 79 rfl ?_
      refine at_iload hO 5 rfl dX0_fillBrought_79 81 rfl ?_
      obtain ⟨h5, hf⟩ := chk_some hf
      refine at_iaload hO (tb_bro (ix_nat h4)) (Nat.le_of_ble_eq_true rfl) h5 (v5.toNat) rfl dX0_fillBrought_81 82 rfl ?_
      refine at_iload_n hO 3 rfl rfl dX0_fillBrought_82 83 rfl ?_
      refine at_iadd hO dX0_fillBrought_83 84 rfl ?_
      obtain ⟨h6, hf⟩ := chk_some hf
      refine at_iastore hO (tb_bro (ix_nat h4)) (Nat.le_of_ble_eq_true rfl) h6 ((v4 + v5).toNat) rfl dX0_fillBrought_84 85 rfl ?_
      refine at_iinc hO (lv' := [(5, vi (v5 + 1)), (0, vr G 37), (1, vi v1), (2, vi v2), (3, vi v3), (4, vi v4)]) 5 rfl (Nat.le_of_ble_eq_true rfl) rfl dX0_fillBrought_85 88 rfl ?_
      refine at_goto hO dX0_fillBrought_88 44 rfl ?_
      exact at_sub (fun ls h => lv_sub h [1, 2, 3, 4, 5, 0] rfl) (hrec44 (su s (42 + v1.toNat) (v4 + v5).toNat ((s (42 + v1.toNat) v5.toNat) + v3)) v1 v2 v3 v4 (v5 + 1) hf)
theorem wL_X0_fillBrought_44 {X : CX} {G : Ge} {Z : Rt} {rec11 : St → Int → Int → Option Rt} (hO : rr_OK X G cX0_fillBrought 6 RX0 none 3 66) (hrec11 : ∀ (s : St) (v1 v2 : Int), rec11 s v1 v2 = some Z → rr_AT X G 6 0 Z 11 [(0, vr G 37), (1, vi v1), (2, vi v2)] [] s) : ∀ (n : Nat) (s : St) (v1 v2 v3 v4 v5 : Int), L_X0_fillBrought_44 rec11 n s v1 v2 v3 v4 v5 = some Z → rr_AT X G 6 0 Z 44 [(0, vr G 37), (1, vi v1), (2, vi v2), (3, vi v3), (4, vi v4), (5, vi v5)] [] s := by
  intro n
  induction n with
  | zero =>
    intro s v1 v2 v3 v4 v5 hf
    cases hf
  | succ n ih =>
    intro s v1 v2 v3 v4 v5 hf
    exact wS_X0_fillBrought_44 hO hrec11 ih s v1 v2 v3 v4 v5 hf
def S_X0_fillBrought_11 (rec11 : St → Int → Int → Option Rt) (s : St) (v1 v2 : Int) : Option Rt := chk (in32 v2) ((if 8 ≤ v2 then some (0, s) else cll (f_X0_amountOf s v2 v1) (fun r2 s3 => cll (f_X0_isSigned s3 v2) (fun r4 s5 => chk (in32 r4) ((if r4 = 0 then L_X0_fillBrought_44 rec11 FU s5 v1 v2 r2 0 0 else L_X0_fillBrought_44 rec11 FU s5 v1 v2 r2 (shlZ 1 v2) 0))))))
def L_X0_fillBrought_11 : Nat → St → Int → Int → Option Rt
  | 0, _, _, _ => none
  | n + 1, s, v1, v2 => S_X0_fillBrought_11 (L_X0_fillBrought_11 n) s v1 v2
set_option maxRecDepth 100000 in
set_option maxHeartbeats 4000000 in
theorem wS_X0_fillBrought_11 {X : CX} {G : Ge} {Z : Rt} {rec11 : St → Int → Int → Option Rt} (hO : rr_OK X G cX0_fillBrought 6 RX0 none 3 66) (hrec11 : ∀ (s : St) (v1 v2 : Int), rec11 s v1 v2 = some Z → rr_AT X G 6 0 Z 11 [(0, vr G 37), (1, vi v1), (2, vi v2)] [] s) (s : St) (v1 v2 : Int) (hf : S_X0_fillBrought_11 rec11 s v1 v2 = some Z) : rr_AT X G 6 0 Z 11 [(0, vr G 37), (1, vi v1), (2, vi v2)] [] s := by
  unfold S_X0_fillBrought_11 at hf
  refine at_iload_n hO 2 rfl rfl dX0_fillBrought_11 12 rfl ?_
  refine at_bipush hO (by decide) dX0_fillBrought_12 14 rfl ?_
  obtain ⟨h1, hf⟩ := chk_some hf
  refine at_icmp_ge hO h1 (by decide) dX0_fillBrought_14 97 rfl 17 rfl hf (fun hf => ?_) (fun hf => ?_)
  · exact at_return hO dX0_fillBrought_97 hf
  · refine at_aload_n hO 0 rfl rfl dX0_fillBrought_17 18 rfl ?_
    refine at_iload_n hO 2 rfl rfl dX0_fillBrought_18 19 rfl ?_
    refine at_iload_n hO 1 rfl rfl dX0_fillBrought_19 20 rfl ?_
    refine at_callV1 (As := [vi v2, vi v1]) (st := []) hO (c_X0_amountOf _ G hO.g s v2 v1) mb_X0_amountOf mi_X0_amountOf lk_X0_62 rfl ⟨_, rfl, rfl⟩ rfl ⟨(Nat.le_of_ble_eq_true rfl), (Nat.le_of_ble_eq_true rfl)⟩ (Nat.le_of_ble_eq_true rfl) rfl dX0_fillBrought_20 23 rfl hf (fun r2 s3 hf => ?_)
    refine at_istore_n hO (lv' := [(3, vi r2), (0, vr G 37), (1, vi v1), (2, vi v2)]) rfl (Nat.le_of_ble_eq_true rfl) rfl dX0_fillBrought_23 24 rfl ?_
    refine at_aload_n hO 1 rfl rfl dX0_fillBrought_24 25 rfl ?_
    refine at_iload_n hO 3 rfl rfl dX0_fillBrought_25 26 rfl ?_
    refine at_callV1 (As := [vi v2]) (st := []) hO (c_X0_isSigned _ G hO.g s3 v2) mb_X0_isSigned mi_X0_isSigned lk_X0_66 rfl ⟨_, rfl, rfl⟩ rfl ⟨(Nat.le_of_ble_eq_true rfl), (Nat.le_of_ble_eq_true rfl)⟩ (Nat.le_of_ble_eq_true rfl) rfl dX0_fillBrought_26 29 rfl hf (fun r4 s5 hf => ?_)
    obtain ⟨h6, hf⟩ := chk_some hf
    refine at_if_eq hO h6 dX0_fillBrought_29 38 rfl 32 rfl hf (fun hf => ?_) (fun hf => ?_)
    · refine at_iconst hO dX0_fillBrought_38 39 rfl ?_
      refine at_istore hO (lv' := [(4, vi 0), (3, vi r2), (0, vr G 37), (1, vi v1), (2, vi v2)]) (Nat.le_of_ble_eq_true rfl) rfl dX0_fillBrought_39 41 rfl ?_
      refine at_iconst hO dX0_fillBrought_41 42 rfl ?_
      refine at_istore hO (lv' := [(5, vi 0), (4, vi 0), (3, vi r2), (0, vr G 37), (1, vi v1), (2, vi v2)]) (Nat.le_of_ble_eq_true rfl) rfl dX0_fillBrought_42 44 rfl ?_
      exact at_sub (fun ls h => lv_sub h [3, 4, 5, 2, 1, 0] rfl) (wL_X0_fillBrought_44 hO hrec11 FU s5 v1 v2 r2 0 0 hf)
    · refine at_iconst hO dX0_fillBrought_32 33 rfl ?_
      refine at_iload_n hO 3 rfl rfl dX0_fillBrought_33 34 rfl ?_
      refine at_ishl hO dX0_fillBrought_34 35 rfl ?_
      refine at_goto hO dX0_fillBrought_35 39 rfl ?_
      refine at_istore hO (lv' := [(4, vi (shlZ 1 v2)), (3, vi r2), (0, vr G 37), (1, vi v1), (2, vi v2)]) (Nat.le_of_ble_eq_true rfl) rfl dX0_fillBrought_39 41 rfl ?_
      refine at_iconst hO dX0_fillBrought_41 42 rfl ?_
      refine at_istore hO (lv' := [(5, vi 0), (4, vi (shlZ 1 v2)), (3, vi r2), (0, vr G 37), (1, vi v1), (2, vi v2)]) (Nat.le_of_ble_eq_true rfl) rfl dX0_fillBrought_42 44 rfl ?_
      exact at_sub (fun ls h => lv_sub h [3, 4, 5, 2, 1, 0] rfl) (wL_X0_fillBrought_44 hO hrec11 FU s5 v1 v2 r2 (shlZ 1 v2) 0 hf)
theorem wL_X0_fillBrought_11 {X : CX} {G : Ge} {Z : Rt} (hO : rr_OK X G cX0_fillBrought 6 RX0 none 3 66) : ∀ (n : Nat) (s : St) (v1 v2 : Int), L_X0_fillBrought_11 n s v1 v2 = some Z → rr_AT X G 6 0 Z 11 [(0, vr G 37), (1, vi v1), (2, vi v2)] [] s := by
  intro n
  induction n with
  | zero =>
    intro s v1 v2 hf
    cases hf
  | succ n ih =>
    intro s v1 v2 hf
    exact wS_X0_fillBrought_11 hO ih s v1 v2 hf
def f_X0_fillBrought (s : St) (p1 : Int) : Option Rt := chk (ix p1 3) (L_X0_fillBrought_11 FU (su s (42 + p1.toNat) 0 0) p1 0)
set_option maxRecDepth 100000 in
set_option maxHeartbeats 4000000 in
theorem c_X0_fillBrought (l : Launch) (G : Ge) (hG : rr_GD G) (s : St) (p1 : Int) : rr_Ct l G yX0_fillBrought cX0_fillBrought 6 none 3 66 0 [vr G 37, vi p1] s (f_X0_fillBrought s p1) := by
  refine rr_mk (lv := [(0, vr G 37), (1, vi p1)]) RX0 (by decide) rfl hG (Nat.le_of_ble_eq_true rfl) rfl ?_
  intro X Z hO hf
  unfold f_X0_fillBrought at hf
  refine at_aload_n hO 0 rfl rfl dX0_fillBrought_0 1 rfl ?_
  refine at_getR hO fl_X0_23 rfl rfl dX0_fillBrought_1 4 rfl ?_
  refine at_iload_n hO 1 rfl rfl dX0_fillBrought_4 5 rfl ?_
  obtain ⟨h1, hf⟩ := chk_some hf
  refine at_aaload5 hO rfl (Nat.le_of_ble_eq_true rfl) h1 (42 + p1.toNat) rfl dX0_fillBrought_5 6 rfl ?_
  refine at_iconst hO dX0_fillBrought_6 7 rfl ?_
  refine at_iconst hO dX0_fillBrought_7 8 rfl ?_
  refine at_iastore hO (tb_bro (ix_nat h1)) (Nat.le_of_ble_eq_true rfl) (by decide) (0) rfl dX0_fillBrought_8 9 rfl ?_
  refine at_iconst hO dX0_fillBrought_9 10 rfl ?_
  refine at_istore_n hO (lv' := [(2, vi 0), (0, vr G 37), (1, vi p1)]) rfl (Nat.le_of_ble_eq_true rfl) rfl dX0_fillBrought_10 11 rfl ?_
  exact at_sub (fun ls h => lv_sub h [1, 2, 0] rfl) (wL_X0_fillBrought_11 hO FU (su s (42 + p1.toNat) 0 0) p1 0 hf)

def S_X0_neverLoses_2 (rec2 : St → Int → Int → Option Rt) (s : St) (v1 v2 : Int) : Option Rt := chk (in32 v2) ((if 3 ≤ v2 then some (1, s) else chk (ix v2 3) (chk (in32 (s 11 v2.toNat)) ((if (s 11 v2.toNat) ≤ 0 then rec2 s v1 (v2 + 1) else chk (ix v1 256) (chk (in32 (s (42 + v2.toNat) v1.toNat)) ((if 0 ≤ (s (42 + v2.toNat) v1.toNat) then rec2 s v1 (v2 + 1) else some (0, s)))))))))
def L_X0_neverLoses_2 : Nat → St → Int → Int → Option Rt
  | 0, _, _, _ => none
  | n + 1, s, v1, v2 => S_X0_neverLoses_2 (L_X0_neverLoses_2 n) s v1 v2
set_option maxRecDepth 100000 in
set_option maxHeartbeats 4000000 in
theorem wS_X0_neverLoses_2 {X : CX} {G : Ge} {Z : Rt} {rec2 : St → Int → Int → Option Rt} (hO : rr_OK X G cX0_neverLoses 3 RX0 (some .boolean) 0 0) (hrec2 : ∀ (s : St) (v1 v2 : Int), rec2 s v1 v2 = some Z → rr_AT X G 3 1 Z 2 [(0, vr G 37), (1, vi v1), (2, vi v2)] [] s) (s : St) (v1 v2 : Int) (hf : S_X0_neverLoses_2 rec2 s v1 v2 = some Z) : rr_AT X G 3 1 Z 2 [(0, vr G 37), (1, vi v1), (2, vi v2)] [] s := by
  unfold S_X0_neverLoses_2 at hf
  refine at_iload_n hO 2 rfl rfl dX0_neverLoses_2 3 rfl ?_
  refine at_iconst hO dX0_neverLoses_3 4 rfl ?_
  obtain ⟨h1, hf⟩ := chk_some hf
  refine at_icmp_ge hO h1 (by decide) dX0_neverLoses_4 35 rfl 7 rfl hf (fun hf => ?_) (fun hf => ?_)
  · refine at_iconst hO dX0_neverLoses_35 36 rfl ?_
    exact at_zreturn hO (Or.inr rfl) dX0_neverLoses_36 hf
  · refine at_aload_n hO 0 rfl rfl dX0_neverLoses_7 8 rfl ?_
    refine at_getR hO fl_X0_43 rfl rfl dX0_neverLoses_8 11 rfl ?_
    refine at_iload_n hO 2 rfl rfl dX0_neverLoses_11 12 rfl ?_
    obtain ⟨h2, hf⟩ := chk_some hf
    refine at_iaload hO rfl (Nat.le_of_ble_eq_true rfl) h2 (v2.toNat) rfl dX0_neverLoses_12 13 rfl ?_
    obtain ⟨h3, hf⟩ := chk_some hf
    refine at_if_le hO h3 dX0_neverLoses_13 29 rfl 16 rfl hf (fun hf => ?_) (fun hf => ?_)
    · refine at_iinc hO (lv' := [(2, vi (v2 + 1)), (0, vr G 37), (1, vi v1)]) 2 rfl (Nat.le_of_ble_eq_true rfl) rfl dX0_neverLoses_29 32 rfl ?_
      refine at_goto hO dX0_neverLoses_32 2 rfl ?_
      exact at_sub (fun ls h => lv_sub h [1, 2, 0] rfl) (hrec2 s v1 (v2 + 1) hf)
    · refine at_aload_n hO 0 rfl rfl dX0_neverLoses_16 17 rfl ?_
      refine at_getR hO fl_X0_23 rfl rfl dX0_neverLoses_17 20 rfl ?_
      refine at_iload_n hO 2 rfl rfl dX0_neverLoses_20 21 rfl ?_
      refine at_aaload5 hO rfl (Nat.le_of_ble_eq_true rfl) h2 (42 + v2.toNat) rfl dX0_neverLoses_21 22 rfl ?_
      refine at_iload_n hO 1 rfl rfl dX0_neverLoses_22 23 rfl ?_
      obtain ⟨h4, hf⟩ := chk_some hf
      refine at_iaload hO (tb_bro (ix_nat h2)) (Nat.le_of_ble_eq_true rfl) h4 (v1.toNat) rfl dX0_neverLoses_23 24 rfl ?_
      obtain ⟨h5, hf⟩ := chk_some hf
      refine at_if_ge hO h5 dX0_neverLoses_24 29 rfl 27 rfl hf (fun hf => ?_) (fun hf => ?_)
      · refine at_iinc hO (lv' := [(2, vi (v2 + 1)), (0, vr G 37), (1, vi v1)]) 2 rfl (Nat.le_of_ble_eq_true rfl) rfl dX0_neverLoses_29 32 rfl ?_
        refine at_goto hO dX0_neverLoses_32 2 rfl ?_
        exact at_sub (fun ls h => lv_sub h [1, 2, 0] rfl) (hrec2 s v1 (v2 + 1) hf)
      · refine at_iconst hO dX0_neverLoses_27 28 rfl ?_
        exact at_zreturn hO (Or.inl rfl) dX0_neverLoses_28 hf
theorem wL_X0_neverLoses_2 {X : CX} {G : Ge} {Z : Rt} (hO : rr_OK X G cX0_neverLoses 3 RX0 (some .boolean) 0 0) : ∀ (n : Nat) (s : St) (v1 v2 : Int), L_X0_neverLoses_2 n s v1 v2 = some Z → rr_AT X G 3 1 Z 2 [(0, vr G 37), (1, vi v1), (2, vi v2)] [] s := by
  intro n
  induction n with
  | zero =>
    intro s v1 v2 hf
    cases hf
  | succ n ih =>
    intro s v1 v2 hf
    exact wS_X0_neverLoses_2 hO ih s v1 v2 hf
def f_X0_neverLoses (s : St) (p1 : Int) : Option Rt := L_X0_neverLoses_2 FU s p1 0
set_option maxRecDepth 100000 in
set_option maxHeartbeats 4000000 in
theorem c_X0_neverLoses (l : Launch) (G : Ge) (hG : rr_GD G) (s : St) (p1 : Int) : rr_Ct l G yX0_neverLoses cX0_neverLoses 3 (some .boolean) 0 0 1 [vr G 37, vi p1] s (f_X0_neverLoses s p1) := by
  refine rr_mk (lv := [(0, vr G 37), (1, vi p1)]) RX0 (by decide) rfl hG (Nat.le_of_ble_eq_true rfl) rfl ?_
  intro X Z hO hf
  unfold f_X0_neverLoses at hf
  refine at_iconst hO dX0_neverLoses_0 1 rfl ?_
  refine at_istore_n hO (lv' := [(2, vi 0), (0, vr G 37), (1, vi p1)]) rfl (Nat.le_of_ble_eq_true rfl) rfl dX0_neverLoses_1 2 rfl ?_
  exact at_sub (fun ls h => lv_sub h [1, 2, 0] rfl) (wL_X0_neverLoses_2 hO FU s p1 0 hf)

def S_X0_weightedSum_4 (rec4 : St → Int → Int → Int → Option Rt) (s : St) (v1 v2 v3 : Int) : Option Rt := chk (in32 v3) ((if 3 ≤ v3 then some (v2, s) else chk (ix v3 3) (chk (ix v1 256) (rec4 s v1 (v2 + ((s 11 v3.toNat) * (s (42 + v3.toNat) v1.toNat))) (v3 + 1)))))
def L_X0_weightedSum_4 : Nat → St → Int → Int → Int → Option Rt
  | 0, _, _, _, _ => none
  | n + 1, s, v1, v2, v3 => S_X0_weightedSum_4 (L_X0_weightedSum_4 n) s v1 v2 v3
set_option maxRecDepth 100000 in
set_option maxHeartbeats 4000000 in
theorem wS_X0_weightedSum_4 {X : CX} {G : Ge} {Z : Rt} {rec4 : St → Int → Int → Int → Option Rt} (hO : rr_OK X G cX0_weightedSum 4 RX0 (some .int) 0 0) (hrec4 : ∀ (s : St) (v1 v2 v3 : Int), rec4 s v1 v2 v3 = some Z → rr_AT X G 4 1 Z 4 [(0, vr G 37), (1, vi v1), (2, vi v2), (3, vi v3)] [] s) (s : St) (v1 v2 v3 : Int) (hf : S_X0_weightedSum_4 rec4 s v1 v2 v3 = some Z) : rr_AT X G 4 1 Z 4 [(0, vr G 37), (1, vi v1), (2, vi v2), (3, vi v3)] [] s := by
  unfold S_X0_weightedSum_4 at hf
  refine at_iload_n hO 3 rfl rfl dX0_weightedSum_4 5 rfl ?_
  refine at_iconst hO dX0_weightedSum_5 6 rfl ?_
  obtain ⟨h1, hf⟩ := chk_some hf
  refine at_icmp_ge hO h1 (by decide) dX0_weightedSum_6 33 rfl 9 rfl hf (fun hf => ?_) (fun hf => ?_)
  · refine at_iload_n hO 2 rfl rfl dX0_weightedSum_33 34 rfl ?_
    exact at_ireturn hO dX0_weightedSum_34 hf
  · refine at_iload_n hO 2 rfl rfl dX0_weightedSum_9 10 rfl ?_
    refine at_aload_n hO 0 rfl rfl dX0_weightedSum_10 11 rfl ?_
    refine at_getR hO fl_X0_43 rfl rfl dX0_weightedSum_11 14 rfl ?_
    refine at_iload_n hO 3 rfl rfl dX0_weightedSum_14 15 rfl ?_
    obtain ⟨h2, hf⟩ := chk_some hf
    refine at_iaload hO rfl (Nat.le_of_ble_eq_true rfl) h2 (v3.toNat) rfl dX0_weightedSum_15 16 rfl ?_
    refine at_aload_n hO 0 rfl rfl dX0_weightedSum_16 17 rfl ?_
    refine at_getR hO fl_X0_23 rfl rfl dX0_weightedSum_17 20 rfl ?_
    refine at_iload_n hO 3 rfl rfl dX0_weightedSum_20 21 rfl ?_
    refine at_aaload5 hO rfl (Nat.le_of_ble_eq_true rfl) h2 (42 + v3.toNat) rfl dX0_weightedSum_21 22 rfl ?_
    refine at_iload_n hO 1 rfl rfl dX0_weightedSum_22 23 rfl ?_
    obtain ⟨h3, hf⟩ := chk_some hf
    refine at_iaload hO (tb_bro (ix_nat h2)) (Nat.le_of_ble_eq_true rfl) h3 (v1.toNat) rfl dX0_weightedSum_23 24 rfl ?_
    refine at_imul hO dX0_weightedSum_24 25 rfl ?_
    refine at_iadd hO dX0_weightedSum_25 26 rfl ?_
    refine at_istore_n hO (lv' := [(2, vi (v2 + ((s 11 v3.toNat) * (s (42 + v3.toNat) v1.toNat)))), (0, vr G 37), (1, vi v1), (3, vi v3)]) rfl (Nat.le_of_ble_eq_true rfl) rfl dX0_weightedSum_26 27 rfl ?_
    refine at_iinc hO (lv' := [(3, vi (v3 + 1)), (2, vi (v2 + ((s 11 v3.toNat) * (s (42 + v3.toNat) v1.toNat)))), (0, vr G 37), (1, vi v1)]) 3 rfl (Nat.le_of_ble_eq_true rfl) rfl dX0_weightedSum_27 30 rfl ?_
    refine at_goto hO dX0_weightedSum_30 4 rfl ?_
    exact at_sub (fun ls h => lv_sub h [2, 3, 1, 0] rfl) (hrec4 s v1 (v2 + ((s 11 v3.toNat) * (s (42 + v3.toNat) v1.toNat))) (v3 + 1) hf)
theorem wL_X0_weightedSum_4 {X : CX} {G : Ge} {Z : Rt} (hO : rr_OK X G cX0_weightedSum 4 RX0 (some .int) 0 0) : ∀ (n : Nat) (s : St) (v1 v2 v3 : Int), L_X0_weightedSum_4 n s v1 v2 v3 = some Z → rr_AT X G 4 1 Z 4 [(0, vr G 37), (1, vi v1), (2, vi v2), (3, vi v3)] [] s := by
  intro n
  induction n with
  | zero =>
    intro s v1 v2 v3 hf
    cases hf
  | succ n ih =>
    intro s v1 v2 v3 hf
    exact wS_X0_weightedSum_4 hO ih s v1 v2 v3 hf
def f_X0_weightedSum (s : St) (p1 : Int) : Option Rt := L_X0_weightedSum_4 FU s p1 0 0
set_option maxRecDepth 100000 in
set_option maxHeartbeats 4000000 in
theorem c_X0_weightedSum (l : Launch) (G : Ge) (hG : rr_GD G) (s : St) (p1 : Int) : rr_Ct l G yX0_weightedSum cX0_weightedSum 4 (some .int) 0 0 1 [vr G 37, vi p1] s (f_X0_weightedSum s p1) := by
  refine rr_mk (lv := [(0, vr G 37), (1, vi p1)]) RX0 (by decide) rfl hG (Nat.le_of_ble_eq_true rfl) rfl ?_
  intro X Z hO hf
  unfold f_X0_weightedSum at hf
  refine at_iconst hO dX0_weightedSum_0 1 rfl ?_
  refine at_istore_n hO (lv' := [(2, vi 0), (0, vr G 37), (1, vi p1)]) rfl (Nat.le_of_ble_eq_true rfl) rfl dX0_weightedSum_1 2 rfl ?_
  refine at_iconst hO dX0_weightedSum_2 3 rfl ?_
  refine at_istore_n hO (lv' := [(3, vi 0), (2, vi 0), (0, vr G 37), (1, vi p1)]) rfl (Nat.le_of_ble_eq_true rfl) rfl dX0_weightedSum_3 4 rfl ?_
  exact at_sub (fun ls h => lv_sub h [2, 3, 1, 0] rfl) (wL_X0_weightedSum_4 hO FU s p1 0 0 hf)

def S_X0_reckon_35 (rec35 : St → Int → Option Rt) (s : St) (v1 : Int) : Option Rt := chk (in32 v1) ((if 256 ≤ v1 then some (0, s) else chk (in32 (andZ v1 (xorZ (s 37 6) (-1)))) ((if (andZ v1 (xorZ (s 37 6) (-1))) = 0 then cll (f_X0_neverLoses s v1) (fun r3 s4 => chk (in32 r3) ((if r3 = 0 then rec35 s4 (v1 + 1) else cll (f_X0_weightedSum (su s4 37 7 ((s4 37 7) + 1)) v1) (fun r6 s7 => chk (in32 r6) (chk (in32 (s7 37 9)) ((if r6 ≤ (s7 37 9) then rec35 s7 (v1 + 1) else rec35 (su (su s7 37 9 r6) 37 8 v1) (v1 + 1)))))))) else rec35 s (v1 + 1)))))
def L_X0_reckon_35 : Nat → St → Int → Option Rt
  | 0, _, _ => none
  | n + 1, s, v1 => S_X0_reckon_35 (L_X0_reckon_35 n) s v1
set_option maxRecDepth 100000 in
set_option maxHeartbeats 4000000 in
theorem wS_X0_reckon_35 {X : CX} {G : Ge} {Z : Rt} {rec35 : St → Int → Option Rt} (hO : rr_OK X G cX0_reckon 3 RX0 none 4 91) (hrec35 : ∀ (s : St) (v1 : Int), rec35 s v1 = some Z → rr_AT X G 3 0 Z 35 [(0, vr G 37), (1, vi v1)] [] s) (s : St) (v1 : Int) (hf : S_X0_reckon_35 rec35 s v1 = some Z) : rr_AT X G 3 0 Z 35 [(0, vr G 37), (1, vi v1)] [] s := by
  unfold S_X0_reckon_35 at hf
  refine at_iload_n hO 1 rfl rfl dX0_reckon_35 36 rfl ?_
  refine at_sipush hO (by decide) dX0_reckon_36 39 rfl ?_
  obtain ⟨h1, hf⟩ := chk_some hf
  refine at_icmp_ge hO h1 (by decide) dX0_reckon_39 101 rfl 42 rfl hf (fun hf => ?_) (fun hf => ?_)
  · exact at_return hO dX0_reckon_101 hf
  · refine at_iload_n hO 1 rfl rfl dX0_reckon_42 43 rfl ?_
    refine at_aload_n hO 0 rfl rfl dX0_reckon_43 44 rfl ?_
    refine at_getI hO fl_X0_26 rfl rfl dX0_reckon_44 47 rfl ?_
    refine at_iconst hO dX0_reckon_47 48 rfl ?_
    refine at_ixor hO dX0_reckon_48 49 rfl ?_
    refine at_iand hO dX0_reckon_49 50 rfl ?_
    obtain ⟨h2, hf⟩ := chk_some hf
    refine at_if_ne hO h2 dX0_reckon_50 95 rfl 53 rfl hf (fun hf => ?_) (fun hf => ?_)
    · refine at_iinc hO (lv' := [(1, vi (v1 + 1)), (0, vr G 37)]) 1 rfl (Nat.le_of_ble_eq_true rfl) rfl dX0_reckon_95 98 rfl ?_
      refine at_goto hO dX0_reckon_98 35 rfl ?_
      exact at_sub (fun ls h => lv_sub h [1, 0] rfl) (hrec35 s (v1 + 1) hf)
    · refine at_aload_n hO 0 rfl rfl dX0_reckon_53 54 rfl ?_
      refine at_iload_n hO 1 rfl rfl dX0_reckon_54 55 rfl ?_
      refine at_callV1 (As := [vi v1]) (st := []) hO (c_X0_neverLoses _ G hO.g s v1) mb_X0_neverLoses mi_X0_neverLoses lk_X0_54 rfl ⟨_, rfl, rfl⟩ rfl ⟨(Nat.le_of_ble_eq_true rfl), (Nat.le_of_ble_eq_true rfl)⟩ (Nat.le_of_ble_eq_true rfl) rfl dX0_reckon_55 58 rfl hf (fun r3 s4 hf => ?_)
      obtain ⟨h5, hf⟩ := chk_some hf
      refine at_if_eq hO h5 dX0_reckon_58 95 rfl 61 rfl hf (fun hf => ?_) (fun hf => ?_)
      · refine at_iinc hO (lv' := [(1, vi (v1 + 1)), (0, vr G 37)]) 1 rfl (Nat.le_of_ble_eq_true rfl) rfl dX0_reckon_95 98 rfl ?_
        refine at_goto hO dX0_reckon_98 35 rfl ?_
        exact at_sub (fun ls h => lv_sub h [1, 0] rfl) (hrec35 s4 (v1 + 1) hf)
      · refine at_aload_n hO 0 rfl rfl dX0_reckon_61 62 rfl ?_
        refine at_dup hO rfl dX0_reckon_62 63 rfl ?_
        refine at_getI hO fl_X0_30 rfl rfl dX0_reckon_63 66 rfl ?_
        refine at_iconst hO dX0_reckon_66 67 rfl ?_
        refine at_iadd hO dX0_reckon_67 68 rfl ?_
        refine at_putI hO fp_X0_30 rfl rfl dX0_reckon_68 71 rfl ?_
        refine at_aload_n hO 0 rfl rfl dX0_reckon_71 72 rfl ?_
        refine at_iload_n hO 1 rfl rfl dX0_reckon_72 73 rfl ?_
        refine at_callV1 (As := [vi v1]) (st := []) hO (c_X0_weightedSum _ G hO.g (su s4 37 7 ((s4 37 7) + 1)) v1) mb_X0_weightedSum mi_X0_weightedSum lk_X0_58 rfl ⟨_, rfl, rfl⟩ rfl ⟨(Nat.le_of_ble_eq_true rfl), (Nat.le_of_ble_eq_true rfl)⟩ (Nat.le_of_ble_eq_true rfl) rfl dX0_reckon_73 76 rfl hf (fun r6 s7 hf => ?_)
        refine at_istore_n hO (lv' := [(2, vi r6), (0, vr G 37), (1, vi v1)]) rfl (Nat.le_of_ble_eq_true rfl) rfl dX0_reckon_76 77 rfl ?_
        refine at_iload_n hO 0 rfl rfl dX0_reckon_77 78 rfl ?_
        refine at_aload_n hO 1 rfl rfl dX0_reckon_78 79 rfl ?_
        refine at_getI hO fl_X0_36 rfl rfl dX0_reckon_79 82 rfl ?_
        obtain ⟨h8, hf⟩ := chk_some hf
        obtain ⟨h9, hf⟩ := chk_some hf
        refine at_icmp_le hO h8 h9 dX0_reckon_82 95 rfl 85 rfl hf (fun hf => ?_) (fun hf => ?_)
        · refine at_iinc hO (lv' := [(1, vi (v1 + 1)), (2, vi r6), (0, vr G 37)]) 2 rfl (Nat.le_of_ble_eq_true rfl) rfl dX0_reckon_95 98 rfl ?_
          refine at_goto hO dX0_reckon_98 35 rfl ?_
          exact at_sub (fun ls h => lv_sub h [2, 0] rfl) (hrec35 s7 (v1 + 1) hf)
        · refine at_aload_n hO 1 rfl rfl dX0_reckon_85 86 rfl ?_
          refine at_iload_n hO 0 rfl rfl dX0_reckon_86 87 rfl ?_
          refine at_putI hO fp_X0_36 rfl rfl dX0_reckon_87 90 rfl ?_
          refine at_aload_n hO 1 rfl rfl dX0_reckon_90 91 rfl ?_
          refine at_iload_n hO 2 rfl rfl dX0_reckon_91 92 rfl ?_
          refine at_putI hO fp_X0_33 rfl rfl dX0_reckon_92 95 rfl ?_
          refine at_iinc hO (lv' := [(1, vi (v1 + 1)), (2, vi r6), (0, vr G 37)]) 2 rfl (Nat.le_of_ble_eq_true rfl) rfl dX0_reckon_95 98 rfl ?_
          refine at_goto hO dX0_reckon_98 35 rfl ?_
          exact at_sub (fun ls h => lv_sub h [2, 0] rfl) (hrec35 (su (su s7 37 9 r6) 37 8 v1) (v1 + 1) hf)
theorem wL_X0_reckon_35 {X : CX} {G : Ge} {Z : Rt} (hO : rr_OK X G cX0_reckon 3 RX0 none 4 91) : ∀ (n : Nat) (s : St) (v1 : Int), L_X0_reckon_35 n s v1 = some Z → rr_AT X G 3 0 Z 35 [(0, vr G 37), (1, vi v1)] [] s := by
  intro n
  induction n with
  | zero =>
    intro s v1 hf
    cases hf
  | succ n ih =>
    intro s v1 hf
    exact wS_X0_reckon_35 hO ih s v1 hf
def S_X0_reckon_2 (rec2 : St → Int → Option Rt) (s : St) (v1 : Int) : Option Rt := chk (in32 v1) ((if 3 ≤ v1 then L_X0_reckon_35 FU (su (su (su s 37 7 0) 37 8 0) 37 9 0) 0 else cll (f_X0_fillBrought s v1) (fun _ s3 => rec2 s3 (v1 + 1))))
def L_X0_reckon_2 : Nat → St → Int → Option Rt
  | 0, _, _ => none
  | n + 1, s, v1 => S_X0_reckon_2 (L_X0_reckon_2 n) s v1
set_option maxRecDepth 100000 in
set_option maxHeartbeats 4000000 in
theorem wS_X0_reckon_2 {X : CX} {G : Ge} {Z : Rt} {rec2 : St → Int → Option Rt} (hO : rr_OK X G cX0_reckon 3 RX0 none 4 91) (hrec2 : ∀ (s : St) (v1 : Int), rec2 s v1 = some Z → rr_AT X G 3 0 Z 2 [(0, vr G 37), (1, vi v1)] [] s) (s : St) (v1 : Int) (hf : S_X0_reckon_2 rec2 s v1 = some Z) : rr_AT X G 3 0 Z 2 [(0, vr G 37), (1, vi v1)] [] s := by
  unfold S_X0_reckon_2 at hf
  refine at_iload_n hO 1 rfl rfl dX0_reckon_2 3 rfl ?_
  refine at_iconst hO dX0_reckon_3 4 rfl ?_
  obtain ⟨h1, hf⟩ := chk_some hf
  refine at_icmp_ge hO h1 (by decide) dX0_reckon_4 18 rfl 7 rfl hf (fun hf => ?_) (fun hf => ?_)
  · refine at_aload_n hO 0 rfl rfl dX0_reckon_18 19 rfl ?_
    refine at_iconst hO dX0_reckon_19 20 rfl ?_
    refine at_putI hO fp_X0_30 rfl rfl dX0_reckon_20 23 rfl ?_
    refine at_aload_n hO 0 rfl rfl dX0_reckon_23 24 rfl ?_
    refine at_iconst hO dX0_reckon_24 25 rfl ?_
    refine at_putI hO fp_X0_33 rfl rfl dX0_reckon_25 28 rfl ?_
    refine at_aload_n hO 0 rfl rfl dX0_reckon_28 29 rfl ?_
    refine at_iconst hO dX0_reckon_29 30 rfl ?_
    refine at_putI hO fp_X0_36 rfl rfl dX0_reckon_30 33 rfl ?_
    refine at_iconst hO dX0_reckon_33 34 rfl ?_
    refine at_istore_n hO (lv' := [(1, vi 0), (0, vr G 37)]) rfl (Nat.le_of_ble_eq_true rfl) rfl dX0_reckon_34 35 rfl ?_
    exact at_sub (fun ls h => lv_sub h [1, 0] rfl) (wL_X0_reckon_35 hO FU (su (su (su s 37 7 0) 37 8 0) 37 9 0) 0 hf)
  · refine at_aload_n hO 0 rfl rfl dX0_reckon_7 8 rfl ?_
    refine at_iload_n hO 1 rfl rfl dX0_reckon_8 9 rfl ?_
    refine at_callV0 (As := [vi v1]) (st := []) hO (c_X0_fillBrought _ G hO.g s v1) mb_X0_fillBrought mi_X0_fillBrought lk_X0_50 rfl ⟨_, rfl, rfl⟩ rfl ⟨(Nat.le_of_ble_eq_true rfl), (Nat.le_of_ble_eq_true rfl)⟩ (Nat.le_of_ble_eq_true rfl) rfl dX0_reckon_9 12 rfl hf (fun r2 s3 hf => ?_)
    refine at_iinc hO (lv' := [(1, vi (v1 + 1)), (0, vr G 37)]) 1 rfl (Nat.le_of_ble_eq_true rfl) rfl dX0_reckon_12 15 rfl ?_
    refine at_goto hO dX0_reckon_15 2 rfl ?_
    exact at_sub (fun ls h => lv_sub h [1, 0] rfl) (hrec2 s3 (v1 + 1) hf)
theorem wL_X0_reckon_2 {X : CX} {G : Ge} {Z : Rt} (hO : rr_OK X G cX0_reckon 3 RX0 none 4 91) : ∀ (n : Nat) (s : St) (v1 : Int), L_X0_reckon_2 n s v1 = some Z → rr_AT X G 3 0 Z 2 [(0, vr G 37), (1, vi v1)] [] s := by
  intro n
  induction n with
  | zero =>
    intro s v1 hf
    cases hf
  | succ n ih =>
    intro s v1 hf
    exact wS_X0_reckon_2 hO ih s v1 hf
def f_X0_reckon (s : St) : Option Rt := L_X0_reckon_2 FU s 0
set_option maxRecDepth 100000 in
set_option maxHeartbeats 4000000 in
theorem c_X0_reckon (l : Launch) (G : Ge) (hG : rr_GD G) (s : St) : rr_Ct l G yX0_reckon cX0_reckon 3 none 4 91 0 [vr G 37] s (f_X0_reckon s ) := by
  refine rr_mk (lv := [(0, vr G 37)]) RX0 (by decide) rfl hG (Nat.le_of_ble_eq_true rfl) rfl ?_
  intro X Z hO hf
  unfold f_X0_reckon at hf
  refine at_iconst hO dX0_reckon_0 1 rfl ?_
  refine at_istore_n hO (lv' := [(1, vi 0), (0, vr G 37)]) rfl (Nat.le_of_ble_eq_true rfl) rfl dX0_reckon_1 2 rfl ?_
  exact at_sub (fun ls h => lv_sub h [1, 0] rfl) (wL_X0_reckon_2 hO FU s 0 hf)

def f_X1_mayBe (s : St) (p1 p2 p3 : Int) : Option Rt := cll (f_X8_inside s p1 12) (fun r1 s2 => chk (in32 r1) ((if r1 = 0 then some (0, s2) else cll (f_X8_inside s2 p2 12) (fun r4 s5 => chk (in32 r4) ((if r4 = 0 then some (0, s5) else cll (f_X8_inside s5 p3 30) (fun r7 s8 => chk (in32 r7) ((if r7 = 0 then some (0, s8) else chk (in32 p1) (chk (in32 p2) ((if p2 < p1 then some (0, s8) else some (1, s8)))))))))))))
set_option maxRecDepth 100000 in
set_option maxHeartbeats 4000000 in
theorem c_X1_mayBe (l : Launch) (G : Ge) (hG : rr_GD G) (s : St) (p1 p2 p3 : Int) : rr_Ct l G yX1_mayBe cX1_mayBe 4 (some .boolean) 1 21 1 [vr G 12, vi p1, vi p2, vi p3] s (f_X1_mayBe s p1 p2 p3) := by
  refine rr_mk (lv := [(0, vr G 12), (1, vi p1), (2, vi p2), (3, vi p3)]) RX1 (by decide) rfl hG (Nat.le_of_ble_eq_true rfl) rfl ?_
  intro X Z hO hf
  unfold f_X1_mayBe at hf
  refine at_iload_n hO 1 rfl rfl dX1_mayBe_0 1 rfl ?_
  refine at_bipush hO (by decide) dX1_mayBe_1 3 rfl ?_
  refine at_callSN1 (As := [vi p1, vi 12]) (st := []) hO (c_X8_inside _ G hO.g s p1 12) mb_X8_inside ms_X8_inside lk_X1_25 rfl ⟨(Nat.le_of_ble_eq_true rfl), (Nat.le_of_ble_eq_true rfl)⟩ (Nat.le_of_ble_eq_true rfl) rfl dX1_mayBe_3 6 rfl hf (fun r1 s2 hf => ?_)
  obtain ⟨h3, hf⟩ := chk_some hf
  refine at_if_eq hO h3 dX1_mayBe_6 36 rfl 9 rfl hf (fun hf => ?_) (fun hf => ?_)
  · refine at_iconst hO dX1_mayBe_36 37 rfl ?_
    exact at_zreturn hO (Or.inl rfl) dX1_mayBe_37 hf
  · refine at_iload_n hO 2 rfl rfl dX1_mayBe_9 10 rfl ?_
    refine at_bipush hO (by decide) dX1_mayBe_10 12 rfl ?_
    refine at_callSN1 (As := [vi p2, vi 12]) (st := []) hO (c_X8_inside _ G hO.g s2 p2 12) mb_X8_inside ms_X8_inside lk_X1_25 rfl ⟨(Nat.le_of_ble_eq_true rfl), (Nat.le_of_ble_eq_true rfl)⟩ (Nat.le_of_ble_eq_true rfl) rfl dX1_mayBe_12 15 rfl hf (fun r4 s5 hf => ?_)
    obtain ⟨h6, hf⟩ := chk_some hf
    refine at_if_eq hO h6 dX1_mayBe_15 36 rfl 18 rfl hf (fun hf => ?_) (fun hf => ?_)
    · refine at_iconst hO dX1_mayBe_36 37 rfl ?_
      exact at_zreturn hO (Or.inl rfl) dX1_mayBe_37 hf
    · refine at_iload_n hO 3 rfl rfl dX1_mayBe_18 19 rfl ?_
      refine at_bipush hO (by decide) dX1_mayBe_19 21 rfl ?_
      refine at_callSN1 (As := [vi p3, vi 30]) (st := []) hO (c_X8_inside _ G hO.g s5 p3 30) mb_X8_inside ms_X8_inside lk_X1_25 rfl ⟨(Nat.le_of_ble_eq_true rfl), (Nat.le_of_ble_eq_true rfl)⟩ (Nat.le_of_ble_eq_true rfl) rfl dX1_mayBe_21 24 rfl hf (fun r7 s8 hf => ?_)
      obtain ⟨h9, hf⟩ := chk_some hf
      refine at_if_eq hO h9 dX1_mayBe_24 36 rfl 27 rfl hf (fun hf => ?_) (fun hf => ?_)
      · refine at_iconst hO dX1_mayBe_36 37 rfl ?_
        exact at_zreturn hO (Or.inl rfl) dX1_mayBe_37 hf
      · refine at_iload_n hO 1 rfl rfl dX1_mayBe_27 28 rfl ?_
        refine at_iload_n hO 2 rfl rfl dX1_mayBe_28 29 rfl ?_
        obtain ⟨h10, hf⟩ := chk_some hf
        obtain ⟨h11, hf⟩ := chk_some hf
        refine at_icmp_gt hO h10 h11 dX1_mayBe_29 36 rfl 32 rfl hf (fun hf => ?_) (fun hf => ?_)
        · refine at_iconst hO dX1_mayBe_36 37 rfl ?_
          exact at_zreturn hO (Or.inl rfl) dX1_mayBe_37 hf
        · refine at_iconst hO dX1_mayBe_32 33 rfl ?_
          refine at_goto hO dX1_mayBe_33 37 rfl ?_
          exact at_zreturn hO (Or.inr rfl) dX1_mayBe_37 hf

def f_X1_isFull (s : St) : Option Rt := chk (in32 (s 12 3)) ((if (s 12 3) < 8 then some (0, s) else some (1, s)))
set_option maxRecDepth 100000 in
set_option maxHeartbeats 4000000 in
theorem c_X1_isFull (l : Launch) (G : Ge) (hG : rr_GD G) (s : St) : rr_Ct l G yX1_isFull cX1_isFull 1 (some .boolean) 0 0 1 [vr G 12] s (f_X1_isFull s ) := by
  refine rr_mk (lv := [(0, vr G 12)]) RX1 (by decide) rfl hG (Nat.le_of_ble_eq_true rfl) rfl ?_
  intro X Z hO hf
  unfold f_X1_isFull at hf
  refine at_aload_n hO 0 rfl rfl dX1_isFull_0 1 rfl ?_
  refine at_getI hO fl_X1_21 rfl rfl dX1_isFull_1 4 rfl ?_
  refine at_bipush hO (by decide) dX1_isFull_4 6 rfl ?_
  obtain ⟨h1, hf⟩ := chk_some hf
  refine at_icmp_lt hO h1 (by decide) dX1_isFull_6 13 rfl 9 rfl hf (fun hf => ?_) (fun hf => ?_)
  · refine at_iconst hO dX1_isFull_13 14 rfl ?_
    exact at_zreturn hO (Or.inl rfl) dX1_isFull_14 hf
  · refine at_iconst hO dX1_isFull_9 10 rfl ?_
    refine at_goto hO dX1_isFull_10 14 rfl ?_
    exact at_zreturn hO (Or.inr rfl) dX1_isFull_14 hf

def f_X1_build (s : St) (p1 p2 p3 : Int) : Option Rt := cll (f_X8_inside s (s 12 3) 8) (fun r1 s2 => chk (in32 r1) ((if r1 = 0 then some (0, s2) else chk (ix (s2 12 3) 8) (chk (ix ((su s2 13 (s2 12 3).toNat p1) 12 3) 8) (chk (ix ((su (su s2 13 (s2 12 3).toNat p1) 14 ((su s2 13 (s2 12 3).toNat p1) 12 3).toNat p2) 12 3) 8) (some (0, (su (su (su (su s2 13 (s2 12 3).toNat p1) 14 ((su s2 13 (s2 12 3).toNat p1) 12 3).toNat p2) 15 ((su (su s2 13 (s2 12 3).toNat p1) 14 ((su s2 13 (s2 12 3).toNat p1) 12 3).toNat p2) 12 3).toNat p3) 12 3 (((su (su (su s2 13 (s2 12 3).toNat p1) 14 ((su s2 13 (s2 12 3).toNat p1) 12 3).toNat p2) 15 ((su (su s2 13 (s2 12 3).toNat p1) 14 ((su s2 13 (s2 12 3).toNat p1) 12 3).toNat p2) 12 3).toNat p3) 12 3) + 1)))))))))
set_option maxRecDepth 100000 in
set_option maxHeartbeats 4000000 in
theorem c_X1_build (l : Launch) (G : Ge) (hG : rr_GD G) (s : St) (p1 p2 p3 : Int) : rr_Ct l G yX1_build cX1_build 4 none 1 21 0 [vr G 12, vi p1, vi p2, vi p3] s (f_X1_build s p1 p2 p3) := by
  refine rr_mk (lv := [(0, vr G 12), (1, vi p1), (2, vi p2), (3, vi p3)]) RX1 (by decide) rfl hG (Nat.le_of_ble_eq_true rfl) rfl ?_
  intro X Z hO hf
  unfold f_X1_build at hf
  refine at_aload_n hO 0 rfl rfl dX1_build_0 1 rfl ?_
  refine at_getI hO fl_X1_21 rfl rfl dX1_build_1 4 rfl ?_
  refine at_bipush hO (by decide) dX1_build_4 6 rfl ?_
  refine at_callSN1 (As := [vi (s 12 3), vi 8]) (st := []) hO (c_X8_inside _ G hO.g s (s 12 3) 8) mb_X8_inside ms_X8_inside lk_X1_25 rfl ⟨(Nat.le_of_ble_eq_true rfl), (Nat.le_of_ble_eq_true rfl)⟩ (Nat.le_of_ble_eq_true rfl) rfl dX1_build_6 9 rfl hf (fun r1 s2 hf => ?_)
  obtain ⟨h3, hf⟩ := chk_some hf
  refine at_if_eq hO h3 dX1_build_9 52 rfl 12 rfl hf (fun hf => ?_) (fun hf => ?_)
  · exact at_return hO dX1_build_52 hf
  · refine at_aload_n hO 0 rfl rfl dX1_build_12 13 rfl ?_
    refine at_getR hO fl_X1_9 rfl rfl dX1_build_13 16 rfl ?_
    refine at_aload_n hO 0 rfl rfl dX1_build_16 17 rfl ?_
    refine at_getI hO fl_X1_21 rfl rfl dX1_build_17 20 rfl ?_
    refine at_iload_n hO 1 rfl rfl dX1_build_20 21 rfl ?_
    obtain ⟨h4, hf⟩ := chk_some hf
    refine at_iastore hO rfl (Nat.le_of_ble_eq_true rfl) h4 ((s2 12 3).toNat) rfl dX1_build_21 22 rfl ?_
    refine at_aload_n hO 0 rfl rfl dX1_build_22 23 rfl ?_
    refine at_getR hO fl_X1_15 rfl rfl dX1_build_23 26 rfl ?_
    refine at_aload_n hO 0 rfl rfl dX1_build_26 27 rfl ?_
    refine at_getI hO fl_X1_21 rfl rfl dX1_build_27 30 rfl ?_
    refine at_iload_n hO 2 rfl rfl dX1_build_30 31 rfl ?_
    obtain ⟨h5, hf⟩ := chk_some hf
    refine at_iastore hO rfl (Nat.le_of_ble_eq_true rfl) h5 (((su s2 13 (s2 12 3).toNat p1) 12 3).toNat) rfl dX1_build_31 32 rfl ?_
    refine at_aload_n hO 0 rfl rfl dX1_build_32 33 rfl ?_
    refine at_getR hO fl_X1_18 rfl rfl dX1_build_33 36 rfl ?_
    refine at_aload_n hO 0 rfl rfl dX1_build_36 37 rfl ?_
    refine at_getI hO fl_X1_21 rfl rfl dX1_build_37 40 rfl ?_
    refine at_iload_n hO 3 rfl rfl dX1_build_40 41 rfl ?_
    obtain ⟨h6, hf⟩ := chk_some hf
    refine at_iastore hO rfl (Nat.le_of_ble_eq_true rfl) h6 (((su (su s2 13 (s2 12 3).toNat p1) 14 ((su s2 13 (s2 12 3).toNat p1) 12 3).toNat p2) 12 3).toNat) rfl dX1_build_41 42 rfl ?_
    refine at_aload_n hO 0 rfl rfl dX1_build_42 43 rfl ?_
    refine at_dup hO rfl dX1_build_43 44 rfl ?_
    refine at_getI hO fl_X1_21 rfl rfl dX1_build_44 47 rfl ?_
    refine at_iconst hO dX1_build_47 48 rfl ?_
    refine at_iadd hO dX1_build_48 49 rfl ?_
    refine at_putI hO fp_X1_21 rfl rfl dX1_build_49 52 rfl ?_
    exact at_return hO dX1_build_52 hf

def f_X1_dropLast (s : St) : Option Rt := chk (in32 ((s 12 3) - 1)) (some (0, (su s 12 3 (max ((s 12 3) - 1) 0))))
set_option maxRecDepth 100000 in
set_option maxHeartbeats 4000000 in
theorem c_X1_dropLast (l : Launch) (G : Ge) (hG : rr_GD G) (s : St) : rr_Ct l G yX1_dropLast cX1_dropLast 1 none 1 21 0 [vr G 12] s (f_X1_dropLast s ) := by
  refine rr_mk (lv := [(0, vr G 12)]) RX1 (by decide) rfl hG (Nat.le_of_ble_eq_true rfl) rfl ?_
  intro X Z hO hf
  unfold f_X1_dropLast at hf
  refine at_aload_n hO 0 rfl rfl dX1_dropLast_0 1 rfl ?_
  refine at_aload_n hO 0 rfl rfl dX1_dropLast_1 2 rfl ?_
  refine at_getI hO fl_X1_21 rfl rfl dX1_dropLast_2 5 rfl ?_
  refine at_iconst hO dX1_dropLast_5 6 rfl ?_
  refine at_isub hO dX1_dropLast_6 7 rfl ?_
  refine at_iconst hO dX1_dropLast_7 8 rfl ?_
  obtain ⟨h1, hf⟩ := chk_some hf
  refine at_mmax hO h1 (by decide) lk_X1_29 ⟨(Nat.le_of_ble_eq_true rfl), (Nat.le_of_ble_eq_true rfl)⟩ dX1_dropLast_8 11 rfl ?_
  refine at_putI hO fp_X1_21 rfl rfl dX1_dropLast_11 14 rfl ?_
  exact at_return hO dX1_dropLast_14 hf

def f_X4_item (q0 : Nat) (s : St) (p1 : Int) : Option Rt := cll (f_X8_inside s p1 (s (50 + q0) 2)) (fun r1 s2 => chk (in32 r1) ((if r1 = 0 then some (0, s2) else cll (f_X8_inside s2 p1 60) (fun r4 s5 => chk (in32 r4) ((if r4 = 0 then some (0, s5) else chk (ix p1 60) (some ((s5 (54 + q0) p1.toNat), s5))))))))
set_option maxRecDepth 100000 in
set_option maxHeartbeats 4000000 in
theorem c_X4_item (l : Launch) (G : Ge) (hG : rr_GD G) (q0 : Nat) (hq0 : q0 < 4) (s : St) (p1 : Int) : rr_Ct l G yX4_item cX4_item 2 (some .int) 1 21 1 [vr G (50 + q0), vi p1] s (f_X4_item q0 s p1) := by
  refine rr_mk (lv := [(0, vr G (50 + q0)), (1, vi p1)]) RX4 (by decide) rfl hG (Nat.le_of_ble_eq_true rfl) rfl ?_
  intro X Z hO hf
  unfold f_X4_item at hf
  refine at_iload_n hO 1 rfl rfl dX4_item_0 1 rfl ?_
  refine at_aload_n hO 0 rfl rfl dX4_item_1 2 rfl ?_
  refine at_getI hO fl_X4_19 (tb_sheet hq0) rfl dX4_item_2 5 rfl ?_
  refine at_callSN1 (As := [vi p1, vi (s (50 + q0) 2)]) (st := []) hO (c_X8_inside _ G hO.g s p1 (s (50 + q0) 2)) mb_X8_inside ms_X8_inside lk_X4_35 rfl ⟨(Nat.le_of_ble_eq_true rfl), (Nat.le_of_ble_eq_true rfl)⟩ (Nat.le_of_ble_eq_true rfl) rfl dX4_item_5 8 rfl hf (fun r1 s2 hf => ?_)
  obtain ⟨h3, hf⟩ := chk_some hf
  refine at_if_eq hO h3 dX4_item_8 29 rfl 11 rfl hf (fun hf => ?_) (fun hf => ?_)
  · refine at_iconst hO dX4_item_29 30 rfl ?_
    exact at_ireturn hO dX4_item_30 hf
  · refine at_iload_n hO 1 rfl rfl dX4_item_11 12 rfl ?_
    refine at_bipush hO (by decide) dX4_item_12 14 rfl ?_
    refine at_callSN1 (As := [vi p1, vi 60]) (st := []) hO (c_X8_inside _ G hO.g s2 p1 60) mb_X8_inside ms_X8_inside lk_X4_35 rfl ⟨(Nat.le_of_ble_eq_true rfl), (Nat.le_of_ble_eq_true rfl)⟩ (Nat.le_of_ble_eq_true rfl) rfl dX4_item_14 17 rfl hf (fun r4 s5 hf => ?_)
    obtain ⟨h6, hf⟩ := chk_some hf
    refine at_if_eq hO h6 dX4_item_17 29 rfl 20 rfl hf (fun hf => ?_) (fun hf => ?_)
    · refine at_iconst hO dX4_item_29 30 rfl ?_
      exact at_ireturn hO dX4_item_30 hf
    · refine at_aload_n hO 0 rfl rfl dX4_item_20 21 rfl ?_
      refine at_getR hO fl_X4_9 (tb_sheet hq0) rfl dX4_item_21 24 rfl ?_
      refine at_iload_n hO 1 rfl rfl dX4_item_24 25 rfl ?_
      obtain ⟨h7, hf⟩ := chk_some hf
      refine at_iaload hO (tb_items hq0) (Nat.le_of_ble_eq_true rfl) h7 (p1.toNat) rfl dX4_item_25 26 rfl ?_
      refine at_goto hO dX4_item_26 30 rfl ?_
      exact at_ireturn hO dX4_item_30 hf

def S_X1_buildFrom_4 (q1 : Nat) (rec4 : St → Int → Int → Option Rt) (s : St) (v2 v3 : Int) : Option Rt := chk (in32 (v3 + 2)) (chk (in32 (s (50 + q1) 2)) ((if (s (50 + q1) 2) ≤ (v3 + 2) then some (v2, s) else cll (f_X4_item q1 s v3) (fun r3 s4 => cll (f_X4_item q1 s4 (v3 + 1)) (fun r5 s6 => cll (f_X4_item q1 s6 (v3 + 2)) (fun r7 s8 => cll (f_X1_isFull s8) (fun r9 s10 => chk (in32 r9) ((if r9 = 0 then cll (f_X1_mayBe s10 r3 r5 r7) (fun r12 s13 => chk (in32 r12) ((if r12 = 0 then some (v2, s13) else cll (f_X1_build s13 r3 r5 r7) (fun _ s16 => rec4 s16 (v2 + 1) (v3 + 3))))) else some (v2, s10))))))))))
def L_X1_buildFrom_4 (q1 : Nat) : Nat → St → Int → Int → Option Rt
  | 0, _, _, _ => none
  | n + 1, s, v2, v3 => S_X1_buildFrom_4 q1 (L_X1_buildFrom_4 q1 n) s v2 v3
set_option maxRecDepth 100000 in
set_option maxHeartbeats 4000000 in
theorem wS_X1_buildFrom_4 {X : CX} {G : Ge} {Z : Rt} {q1 : Nat} {rec4 : St → Int → Int → Option Rt} (hO : rr_OK X G cX1_buildFrom 7 RX1 (some .int) 2 44) (hq1 : q1 < 4) (hrec4 : ∀ (s : St) (v2 v3 : Int), rec4 s v2 v3 = some Z → rr_AT X G 7 1 Z 4 [(0, vr G 12), (1, vr G (50 + q1)), (2, vi v2), (3, vi v3)] [] s) (s : St) (v2 v3 : Int) (hf : S_X1_buildFrom_4 q1 rec4 s v2 v3 = some Z) : rr_AT X G 7 1 Z 4 [(0, vr G 12), (1, vr G (50 + q1)), (2, vi v2), (3, vi v3)] [] s := by
  unfold S_X1_buildFrom_4 at hf
  refine at_iload_n hO 3 rfl rfl dX1_buildFrom_4 5 rfl ?_
  refine at_iconst hO dX1_buildFrom_5 6 rfl ?_
  refine at_iadd hO dX1_buildFrom_6 7 rfl ?_
  refine at_aload_n hO 1 rfl rfl dX1_buildFrom_7 8 rfl ?_
  refine at_getIN hO fl_X1_35 (tb_sheet hq1) rfl dX1_buildFrom_8 11 rfl ?_
  obtain ⟨h1, hf⟩ := chk_some hf
  obtain ⟨h2, hf⟩ := chk_some hf
  refine at_icmp_ge hO h1 h2 dX1_buildFrom_11 80 rfl 14 rfl hf (fun hf => ?_) (fun hf => ?_)
  · refine at_iload_n hO 2 rfl rfl dX1_buildFrom_80 81 rfl ?_
    exact at_ireturn hO dX1_buildFrom_81 hf
  · refine at_aload_n hO 1 rfl rfl dX1_buildFrom_14 15 rfl ?_
    refine at_iload_n hO 3 rfl rfl dX1_buildFrom_15 16 rfl ?_
    refine at_callV1 (As := [vi v3]) (st := []) hO (c_X4_item _ G hO.g q1 hq1 s v3) mb_X4_item mi_X4_item lk_X1_38 (tb_sheet hq1) ⟨_, rfl, rfl⟩ rfl ⟨(Nat.le_of_ble_eq_true rfl), (Nat.le_of_ble_eq_true rfl)⟩ (Nat.le_of_ble_eq_true rfl) rfl dX1_buildFrom_16 19 rfl hf (fun r3 s4 hf => ?_)
    refine at_istore hO (lv' := [(4, vi r3), (0, vr G 12), (1, vr G (50 + q1)), (2, vi v2), (3, vi v3)]) (Nat.le_of_ble_eq_true rfl) rfl dX1_buildFrom_19 21 rfl ?_
    refine at_aload_n hO 2 rfl rfl dX1_buildFrom_21 22 rfl ?_
    refine at_iload_n hO 4 rfl rfl dX1_buildFrom_22 23 rfl ?_
    refine at_iconst hO dX1_buildFrom_23 24 rfl ?_
    refine at_iadd hO dX1_buildFrom_24 25 rfl ?_
    refine at_callV1 (As := [vi (v3 + 1)]) (st := []) hO (c_X4_item _ G hO.g q1 hq1 s4 (v3 + 1)) mb_X4_item mi_X4_item lk_X1_38 (tb_sheet hq1) ⟨_, rfl, rfl⟩ rfl ⟨(Nat.le_of_ble_eq_true rfl), (Nat.le_of_ble_eq_true rfl)⟩ (Nat.le_of_ble_eq_true rfl) rfl dX1_buildFrom_25 28 rfl hf (fun r5 s6 hf => ?_)
    refine at_istore hO (lv' := [(5, vi r5), (4, vi r3), (0, vr G 12), (1, vr G (50 + q1)), (2, vi v2), (3, vi v3)]) (Nat.le_of_ble_eq_true rfl) rfl dX1_buildFrom_28 30 rfl ?_
    refine at_aload_n hO 3 rfl rfl dX1_buildFrom_30 31 rfl ?_
    refine at_iload_n hO 5 rfl rfl dX1_buildFrom_31 32 rfl ?_
    refine at_iconst hO dX1_buildFrom_32 33 rfl ?_
    refine at_iadd hO dX1_buildFrom_33 34 rfl ?_
    refine at_callV1 (As := [vi (v3 + 2)]) (st := []) hO (c_X4_item _ G hO.g q1 hq1 s6 (v3 + 2)) mb_X4_item mi_X4_item lk_X1_38 (tb_sheet hq1) ⟨_, rfl, rfl⟩ rfl ⟨(Nat.le_of_ble_eq_true rfl), (Nat.le_of_ble_eq_true rfl)⟩ (Nat.le_of_ble_eq_true rfl) rfl dX1_buildFrom_34 37 rfl hf (fun r7 s8 hf => ?_)
    refine at_istore hO (lv' := [(6, vi r7), (5, vi r5), (4, vi r3), (0, vr G 12), (1, vr G (50 + q1)), (2, vi v2), (3, vi v3)]) (Nat.le_of_ble_eq_true rfl) rfl dX1_buildFrom_37 39 rfl ?_
    refine at_aload_n hO 3 rfl rfl dX1_buildFrom_39 40 rfl ?_
    refine at_callV1 (As := []) (st := []) hO (c_X1_isFull _ G hO.g s8 ) mb_X1_isFull mi_X1_isFull lk_X1_42 rfl ⟨_, rfl, rfl⟩ rfl ⟨(Nat.le_of_ble_eq_true rfl), (Nat.le_of_ble_eq_true rfl)⟩ (Nat.le_of_ble_eq_true rfl) rfl dX1_buildFrom_40 43 rfl hf (fun r9 s10 hf => ?_)
    obtain ⟨h11, hf⟩ := chk_some hf
    refine at_if_ne hO h11 dX1_buildFrom_43 59 rfl 46 rfl hf (fun hf => ?_) (fun hf => ?_)
    · refine at_iload_n hO 5 rfl rfl dX1_buildFrom_59 60 rfl ?_
      exact at_ireturn hO dX1_buildFrom_60 hf
    · refine at_aload_n hO 3 rfl rfl dX1_buildFrom_46 47 rfl ?_
      refine at_iload hO 2 rfl dX1_buildFrom_47 49 rfl ?_
      refine at_iload hO 1 rfl dX1_buildFrom_49 51 rfl ?_
      refine at_iload hO 0 rfl dX1_buildFrom_51 53 rfl ?_
      refine at_callV1 (As := [vi r3, vi r5, vi r7]) (st := []) hO (c_X1_mayBe _ G hO.g s10 r3 r5 r7) mb_X1_mayBe mi_X1_mayBe lk_X1_46 rfl ⟨_, rfl, rfl⟩ rfl ⟨(Nat.le_of_ble_eq_true rfl), (Nat.le_of_ble_eq_true rfl)⟩ (Nat.le_of_ble_eq_true rfl) rfl dX1_buildFrom_53 56 rfl hf (fun r12 s13 hf => ?_)
      obtain ⟨h14, hf⟩ := chk_some hf
      refine at_if_ne hO h14 dX1_buildFrom_56 61 rfl 59 rfl hf (fun hf => ?_) (fun hf => ?_)
      · refine at_aload_n hO 3 rfl rfl dX1_buildFrom_61 62 rfl ?_
        refine at_iload hO 2 rfl dX1_buildFrom_62 64 rfl ?_
        refine at_iload hO 1 rfl dX1_buildFrom_64 66 rfl ?_
        refine at_iload hO 0 rfl dX1_buildFrom_66 68 rfl ?_
        refine at_callV0 (As := [vi r3, vi r5, vi r7]) (st := []) hO (c_X1_build _ G hO.g s13 r3 r5 r7) mb_X1_build mi_X1_build lk_X1_50 rfl ⟨_, rfl, rfl⟩ rfl ⟨(Nat.le_of_ble_eq_true rfl), (Nat.le_of_ble_eq_true rfl)⟩ (Nat.le_of_ble_eq_true rfl) rfl dX1_buildFrom_68 71 rfl hf (fun r15 s16 hf => ?_)
        refine at_iinc hO (lv' := [(2, vi (v2 + 1)), (6, vi r7), (5, vi r5), (4, vi r3), (0, vr G 12), (1, vr G (50 + q1)), (3, vi v3)]) 5 rfl (Nat.le_of_ble_eq_true rfl) rfl dX1_buildFrom_71 74 rfl ?_
        refine at_iinc hO (lv' := [(3, vi (v3 + 3)), (2, vi (v2 + 1)), (6, vi r7), (5, vi r5), (4, vi r3), (0, vr G 12), (1, vr G (50 + q1))]) 6 rfl (Nat.le_of_ble_eq_true rfl) rfl dX1_buildFrom_74 77 rfl ?_
        refine at_goto hO dX1_buildFrom_77 4 rfl ?_
        exact at_sub (fun ls h => lv_sub h [5, 6, 1, 0] rfl) (hrec4 s16 (v2 + 1) (v3 + 3) hf)
      · refine at_iload_n hO 5 rfl rfl dX1_buildFrom_59 60 rfl ?_
        exact at_ireturn hO dX1_buildFrom_60 hf
theorem wL_X1_buildFrom_4 {X : CX} {G : Ge} {Z : Rt} {q1 : Nat} (hO : rr_OK X G cX1_buildFrom 7 RX1 (some .int) 2 44) (hq1 : q1 < 4) : ∀ (n : Nat) (s : St) (v2 v3 : Int), L_X1_buildFrom_4 q1 n s v2 v3 = some Z → rr_AT X G 7 1 Z 4 [(0, vr G 12), (1, vr G (50 + q1)), (2, vi v2), (3, vi v3)] [] s := by
  intro n
  induction n with
  | zero =>
    intro s v2 v3 hf
    cases hf
  | succ n ih =>
    intro s v2 v3 hf
    exact wS_X1_buildFrom_4 hO hq1 ih s v2 v3 hf
def f_X1_buildFrom (q1 : Nat) (s : St) : Option Rt := L_X1_buildFrom_4 q1 FU s 0 0
set_option maxRecDepth 100000 in
set_option maxHeartbeats 4000000 in
theorem c_X1_buildFrom (l : Launch) (G : Ge) (hG : rr_GD G) (q1 : Nat) (hq1 : q1 < 4) (s : St) : rr_Ct l G yX1_buildFrom cX1_buildFrom 7 (some .int) 2 44 1 [vr G 12, vr G (50 + q1)] s (f_X1_buildFrom q1 s ) := by
  refine rr_mk (lv := [(0, vr G 12), (1, vr G (50 + q1))]) RX1 (by decide) rfl hG (Nat.le_of_ble_eq_true rfl) rfl ?_
  intro X Z hO hf
  unfold f_X1_buildFrom at hf
  refine at_iconst hO dX1_buildFrom_0 1 rfl ?_
  refine at_istore_n hO (lv' := [(2, vi 0), (0, vr G 12), (1, vr G (50 + q1))]) rfl (Nat.le_of_ble_eq_true rfl) rfl dX1_buildFrom_1 2 rfl ?_
  refine at_iconst hO dX1_buildFrom_2 3 rfl ?_
  refine at_istore_n hO (lv' := [(3, vi 0), (2, vi 0), (0, vr G 12), (1, vr G (50 + q1))]) rfl (Nat.le_of_ble_eq_true rfl) rfl dX1_buildFrom_3 4 rfl ?_
  exact at_sub (fun ls h => lv_sub h [2, 3, 1, 0] rfl) (wL_X1_buildFrom_4 hO hq1 FU s 0 0 hf)

def f_X8_yardBits (s : St) (p1 p2 : Int) : Option Rt := chk (in32 p2) (chk (in32 p1) ((if p1 ≤ p2 then some (((shlZ 1 (p2 + 1)) - (shlZ 1 p1)), s) else some (0, s))))
set_option maxRecDepth 100000 in
set_option maxHeartbeats 4000000 in
theorem c_X8_yardBits (l : Launch) (G : Ge) (hG : rr_GD G) (s : St) (p1 p2 : Int) : rr_Ct l G yX8_yardBits cX8_yardBits 2 (some .int) 0 0 1 [vi p1, vi p2] s (f_X8_yardBits s p1 p2) := by
  refine rr_mk (lv := [(0, vi p1), (1, vi p2)]) RX8 (by decide) rfl hG (Nat.le_of_ble_eq_true rfl) rfl ?_
  intro X Z hO hf
  unfold f_X8_yardBits at hf
  refine at_iload_n hO 1 rfl rfl dX8_yardBits_0 1 rfl ?_
  refine at_iload_n hO 0 rfl rfl dX8_yardBits_1 2 rfl ?_
  obtain ⟨h1, hf⟩ := chk_some hf
  obtain ⟨h2, hf⟩ := chk_some hf
  refine at_icmp_ge hO h1 h2 dX8_yardBits_2 9 rfl 5 rfl hf (fun hf => ?_) (fun hf => ?_)
  · refine at_iconst hO dX8_yardBits_9 10 rfl ?_
    refine at_iload_n hO 1 rfl rfl dX8_yardBits_10 11 rfl ?_
    refine at_iconst hO dX8_yardBits_11 12 rfl ?_
    refine at_iadd hO dX8_yardBits_12 13 rfl ?_
    refine at_ishl hO dX8_yardBits_13 14 rfl ?_
    refine at_iconst hO dX8_yardBits_14 15 rfl ?_
    refine at_iload_n hO 0 rfl rfl dX8_yardBits_15 16 rfl ?_
    refine at_ishl hO dX8_yardBits_16 17 rfl ?_
    refine at_isub hO dX8_yardBits_17 18 rfl ?_
    exact at_ireturn hO dX8_yardBits_18 hf
  · refine at_iconst hO dX8_yardBits_5 6 rfl ?_
    refine at_goto hO dX8_yardBits_6 18 rfl ?_
    exact at_ireturn hO dX8_yardBits_18 hf
