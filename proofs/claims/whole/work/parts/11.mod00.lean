def f_X9_in (s : St) (p1 p2 p3 : Int) : Option Rt := chk (in64 p1) (chk (in64 p2) ((if p1 < p2 then some (0, s) else chk (in64 p3) ((if p3 < p1 then some (0, s) else some (1, s))))))
set_option maxRecDepth 100000 in
set_option maxHeartbeats 4000000 in
theorem c_X9_in (l : Launch) (G : Ge) (hG : rr_GD G) (s : St) (p1 p2 p3 : Int) : rr_Ct l G yX9_in cX9_in 6 (some .boolean) 0 0 1 [vl p1, vl p2, vl p3] s (f_X9_in s p1 p2 p3) := by
  refine rr_mk (lv := [(0, vl p1), (2, vl p2), (4, vl p3)]) RX9 (by decide) rfl hG (Nat.le_of_ble_eq_true rfl) rfl ?_
  intro X Z hO hf
  unfold f_X9_in at hf
  refine at_lload_n hO 0 rfl rfl dX9_in_0 1 rfl ?_
  refine at_lload_n hO 1 rfl rfl dX9_in_1 2 rfl ?_
  obtain ⟨h1, hf⟩ := chk_some hf
  obtain ⟨h2, hf⟩ := chk_some hf
  refine at_lcmp_lt hO h1 h2 dX9_in_2 dX9_in_3 17 rfl 6 rfl hf (fun hf => ?_) (fun hf => ?_)
  · refine at_iconst hO dX9_in_17 18 rfl ?_
    exact at_zreturn hO (Or.inl rfl) dX9_in_18 hf
  · refine at_lload_n hO 0 rfl rfl dX9_in_6 7 rfl ?_
    refine at_lload hO 2 rfl dX9_in_7 9 rfl ?_
    obtain ⟨h3, hf⟩ := chk_some hf
    refine at_lcmp_gt hO h1 h3 dX9_in_9 dX9_in_10 17 rfl 13 rfl hf (fun hf => ?_) (fun hf => ?_)
    · refine at_iconst hO dX9_in_17 18 rfl ?_
      exact at_zreturn hO (Or.inl rfl) dX9_in_18 hf
    · refine at_iconst hO dX9_in_13 14 rfl ?_
      refine at_goto hO dX9_in_14 18 rfl ?_
      exact at_zreturn hO (Or.inr rfl) dX9_in_18 hf

def f_X9_no (s : St) (p1 : Int) : Option Rt := chk (in32 p1) (some (((-9223372036854775808) - p1), s))
set_option maxRecDepth 100000 in
set_option maxHeartbeats 4000000 in
theorem c_X9_no (l : Launch) (G : Ge) (hG : rr_GD G) (s : St) (p1 : Int) : rr_Ct l G yX9_no cX9_no 1 (some .long) 0 0 2 [vi p1] s (f_X9_no s p1) := by
  refine rr_mk (lv := [(0, vi p1)]) RX9 (by decide) rfl hG (Nat.le_of_ble_eq_true rfl) rfl ?_
  intro X Z hO hf
  unfold f_X9_no at hf
  refine at_ldc2_w (n := (-9223372036854775808)) hO lc_X9_47 (by decide) dX9_no_0 3 rfl ?_
  refine at_iload_n hO 0 rfl rfl dX9_no_3 4 rfl ?_
  obtain ⟨h1, hf⟩ := chk_some hf
  refine at_i2l hO h1 dX9_no_4 5 rfl ?_
  refine at_lsub hO dX9_no_5 6 rfl ?_
  exact at_lreturn hO dX9_no_6 hf

def f_X9_isTwo (s : St) (p1 : Int) : Option Rt := chk (in32 p1) (cll (f_X9_in s p1 0 1) (fun r2 s3 => chk (r2 = 0 ∨ r2 = 1) (some (r2, s3))))
set_option maxRecDepth 100000 in
set_option maxHeartbeats 4000000 in
theorem c_X9_isTwo (l : Launch) (G : Ge) (hG : rr_GD G) (s : St) (p1 : Int) : rr_Ct l G yX9_isTwo cX9_isTwo 1 (some .boolean) 1 25 1 [vi p1] s (f_X9_isTwo s p1) := by
  refine rr_mk (lv := [(0, vi p1)]) RX9 (by decide) rfl hG (Nat.le_of_ble_eq_true rfl) rfl ?_
  intro X Z hO hf
  unfold f_X9_isTwo at hf
  refine at_iload_n hO 0 rfl rfl dX9_isTwo_0 1 rfl ?_
  obtain ⟨h1, hf⟩ := chk_some hf
  refine at_i2l hO h1 dX9_isTwo_1 2 rfl ?_
  refine at_lconst (n := 0) hO (by decide) dX9_isTwo_2 3 rfl ?_
  refine at_lconst (n := 1) hO (by decide) dX9_isTwo_3 4 rfl ?_
  refine at_callS1 (As := [vl p1, vl 0, vl 1]) (st := []) hO (c_X9_in _ G hO.g s p1 0 1) mb_X9_in ms_X9_in lk_X9_49 rfl ⟨(Nat.le_of_ble_eq_true rfl), (Nat.le_of_ble_eq_true rfl)⟩ (Nat.le_of_ble_eq_true rfl) rfl dX9_isTwo_4 7 rfl hf (fun r2 s3 hf => ?_)
  obtain ⟨h4, hf⟩ := chk_some hf
  exact at_zreturn hO h4 dX9_isTwo_7 hf

def f_X9_isIn (s : St) (p1 p2 : Int) : Option Rt := chk (in32 (andZ (shrZ p1 p2) 1)) ((if (andZ (shrZ p1 p2) 1) = 1 then some (1, s) else some (0, s)))
set_option maxRecDepth 100000 in
set_option maxHeartbeats 4000000 in
theorem c_X9_isIn (l : Launch) (G : Ge) (hG : rr_GD G) (s : St) (p1 p2 : Int) : rr_Ct l G yX9_isIn cX9_isIn 2 (some .boolean) 0 0 1 [vi p1, vi p2] s (f_X9_isIn s p1 p2) := by
  refine rr_mk (lv := [(0, vi p1), (1, vi p2)]) RX9 (by decide) rfl hG (Nat.le_of_ble_eq_true rfl) rfl ?_
  intro X Z hO hf
  unfold f_X9_isIn at hf
  refine at_iload_n hO 0 rfl rfl dX9_isIn_0 1 rfl ?_
  refine at_iload_n hO 1 rfl rfl dX9_isIn_1 2 rfl ?_
  refine at_ishr hO dX9_isIn_2 3 rfl ?_
  refine at_iconst hO dX9_isIn_3 4 rfl ?_
  refine at_iand hO dX9_isIn_4 5 rfl ?_
  refine at_iconst hO dX9_isIn_5 6 rfl ?_
  obtain ⟨h1, hf⟩ := chk_some hf
  refine at_icmp_ne hO h1 (by decide) dX9_isIn_6 13 rfl 9 rfl hf (fun hf => ?_) (fun hf => ?_)
  · refine at_iconst hO dX9_isIn_13 14 rfl ?_
    exact at_zreturn hO (Or.inl rfl) dX9_isIn_14 hf
  · refine at_iconst hO dX9_isIn_9 10 rfl ?_
    refine at_goto hO dX9_isIn_10 14 rfl ?_
    exact at_zreturn hO (Or.inr rfl) dX9_isIn_14 hf

def f_X9_met (s : St) (p1 : Int) : Option Rt := some (((-10) - p1), (su s 58 4 p1))
set_option maxRecDepth 100000 in
set_option maxHeartbeats 4000000 in
theorem c_X9_met (l : Launch) (G : Ge) (hG : rr_GD G) (s : St) (p1 : Int) : rr_Ct l G yX9_met cX9_met 2 (some .int) 0 0 1 [vr G 58, vi p1] s (f_X9_met s p1) := by
  refine rr_mk (lv := [(0, vr G 58), (1, vi p1)]) RX9 (by decide) rfl hG (Nat.le_of_ble_eq_true rfl) rfl ?_
  intro X Z hO hf
  unfold f_X9_met at hf
  refine at_aload_n hO 0 rfl rfl dX9_met_0 1 rfl ?_
  refine at_iload_n hO 1 rfl rfl dX9_met_1 2 rfl ?_
  refine at_putI hO fp_X9_53 rfl rfl dX9_met_2 5 rfl ?_
  refine at_bipush hO (by decide) dX9_met_5 7 rfl ?_
  refine at_iload_n hO 1 rfl rfl dX9_met_7 8 rfl ?_
  refine at_isub hO dX9_met_8 9 rfl ?_
  exact at_ireturn hO dX9_met_9 hf

def f_X9_isSheet (s : St) (p1 : Int) : Option Rt := chk (in32 p1) (cll (f_X9_in s p1 0 3) (fun r2 s3 => chk (r2 = 0 ∨ r2 = 1) (some (r2, s3))))
set_option maxRecDepth 100000 in
set_option maxHeartbeats 4000000 in
theorem c_X9_isSheet (l : Launch) (G : Ge) (hG : rr_GD G) (s : St) (p1 : Int) : rr_Ct l G yX9_isSheet cX9_isSheet 1 (some .boolean) 1 25 1 [vi p1] s (f_X9_isSheet s p1) := by
  refine rr_mk (lv := [(0, vi p1)]) RX9 (by decide) rfl hG (Nat.le_of_ble_eq_true rfl) rfl ?_
  intro X Z hO hf
  unfold f_X9_isSheet at hf
  refine at_iload_n hO 0 rfl rfl dX9_isSheet_0 1 rfl ?_
  obtain ⟨h1, hf⟩ := chk_some hf
  refine at_i2l hO h1 dX9_isSheet_1 2 rfl ?_
  refine at_lconst (n := 0) hO (by decide) dX9_isSheet_2 3 rfl ?_
  refine at_ldc2_w (n := 3) hO lc_X9_57 (by decide) dX9_isSheet_3 6 rfl ?_
  refine at_callS1 (As := [vl p1, vl 0, vl 3]) (st := []) hO (c_X9_in _ G hO.g s p1 0 3) mb_X9_in ms_X9_in lk_X9_49 rfl ⟨(Nat.le_of_ble_eq_true rfl), (Nat.le_of_ble_eq_true rfl)⟩ (Nat.le_of_ble_eq_true rfl) rfl dX9_isSheet_6 9 rfl hf (fun r2 s3 hf => ?_)
  obtain ⟨h4, hf⟩ := chk_some hf
  exact at_zreturn hO h4 dX9_isSheet_9 hf

def S_X9_sheet_55 (rec55 : St → Int → Int → Int → Option Rt) (s : St) (v1 v3 v4 : Int) : Option Rt := chk (in32 v4) (chk (in32 v3) ((if v3 ≤ v4 then some (v3, s) else chk (ix ((60 * v1) + v4) 240) (rec55 (su s 61 ((60 * v1) + v4).toNat 0) v1 v3 (v4 + 1)))))
def L_X9_sheet_55 : Nat → St → Int → Int → Int → Option Rt
  | 0, _, _, _, _ => none
  | n + 1, s, v1, v3, v4 => S_X9_sheet_55 (L_X9_sheet_55 n) s v1 v3 v4
set_option maxRecDepth 100000 in
set_option maxHeartbeats 4000000 in
theorem wS_X9_sheet_55 {X : CX} {G : Ge} {Z : Rt} {rec55 : St → Int → Int → Int → Option Rt} (hO : rr_OK X G cX9_sheet 5 RX9 (some .int) 2 45) (hrec55 : ∀ (s : St) (v1 v3 v4 : Int), rec55 s v1 v3 v4 = some Z → rr_AT X G 5 1 Z 55 [(0, vr G 58), (1, vi v1), (3, vi v3), (4, vi v4)] [] s) (s : St) (v1 v3 v4 : Int) (hf : S_X9_sheet_55 rec55 s v1 v3 v4 = some Z) : rr_AT X G 5 1 Z 55 [(0, vr G 58), (1, vi v1), (3, vi v3), (4, vi v4)] [] s := by
  unfold S_X9_sheet_55 at hf
  refine at_iload hO 3 rfl dX9_sheet_55 57 rfl ?_
  refine at_iload_n hO 2 rfl rfl dX9_sheet_57 58 rfl ?_
  obtain ⟨h1, hf⟩ := chk_some hf
  obtain ⟨h2, hf⟩ := chk_some hf
  refine at_icmp_ge hO h1 h2 dX9_sheet_58 80 rfl 61 rfl hf (fun hf => ?_) (fun hf => ?_)
  · refine at_iload_n hO 2 rfl rfl dX9_sheet_80 81 rfl ?_
    exact at_ireturn hO dX9_sheet_81 hf
  · refine at_aload_n hO 0 rfl rfl dX9_sheet_61 62 rfl ?_
    refine at_getR hO fl_X9_16 rfl rfl dX9_sheet_62 65 rfl ?_
    refine at_bipush hO (by decide) dX9_sheet_65 67 rfl ?_
    refine at_iload_n hO 1 rfl rfl dX9_sheet_67 68 rfl ?_
    refine at_imul hO dX9_sheet_68 69 rfl ?_
    refine at_iload hO 3 rfl dX9_sheet_69 71 rfl ?_
    refine at_iadd hO dX9_sheet_71 72 rfl ?_
    refine at_iconst hO dX9_sheet_72 73 rfl ?_
    obtain ⟨h3, hf⟩ := chk_some hf
    refine at_iastore hO rfl (Nat.le_of_ble_eq_true rfl) h3 (((60 * v1) + v4).toNat) rfl dX9_sheet_73 74 rfl ?_
    refine at_iinc hO (lv' := [(4, vi (v4 + 1)), (0, vr G 58), (1, vi v1), (3, vi v3)]) 3 rfl (Nat.le_of_ble_eq_true rfl) rfl dX9_sheet_74 77 rfl ?_
    refine at_goto hO dX9_sheet_77 55 rfl ?_
    exact at_sub (fun ls h => lv_sub h [1, 2, 3, 0] rfl) (hrec55 (su s 61 ((60 * v1) + v4).toNat 0) v1 v3 (v4 + 1) hf)
theorem wL_X9_sheet_55 {X : CX} {G : Ge} {Z : Rt} (hO : rr_OK X G cX9_sheet 5 RX9 (some .int) 2 45) : ∀ (n : Nat) (s : St) (v1 v3 v4 : Int), L_X9_sheet_55 n s v1 v3 v4 = some Z → rr_AT X G 5 1 Z 55 [(0, vr G 58), (1, vi v1), (3, vi v3), (4, vi v4)] [] s := by
  intro n
  induction n with
  | zero =>
    intro s v1 v3 v4 hf
    cases hf
  | succ n ih =>
    intro s v1 v3 v4 hf
    exact wS_X9_sheet_55 hO ih s v1 v3 v4 hf
def f_X9_sheet (s : St) (p1 p2 p3 : Int) : Option Rt := cll (f_X9_isSheet s p1) (fun r1 s2 => chk (in32 r1) ((if r1 = 0 then some ((-2), s2) else chk (in32 p2) (cll (f_X9_in s2 p2 0 2) (fun r5 s6 => chk (in32 r5) ((if r5 = 0 then some ((-2), s6) else chk (in32 p3) ((if p3 ≤ 60 then (if 0 ≤ p3 then chk (ix p1 4) (L_X9_sheet_55 FU (su (su s6 59 p1.toNat p2) 60 p1.toNat p3) p1 p3 0) else cll (f_X9_met s6 5) (fun r10 s11 => some (r10, s11))) else some ((-2), s6))))))))))
set_option maxRecDepth 100000 in
set_option maxHeartbeats 4000000 in
theorem c_X9_sheet (l : Launch) (G : Ge) (hG : rr_GD G) (s : St) (p1 p2 p3 : Int) : rr_Ct l G yX9_sheet cX9_sheet 5 (some .int) 2 45 1 [vr G 58, vi p1, vi p2, vi p3] s (f_X9_sheet s p1 p2 p3) := by
  refine rr_mk (lv := [(0, vr G 58), (1, vi p1), (2, vi p2), (3, vi p3)]) RX9 (by decide) rfl hG (Nat.le_of_ble_eq_true rfl) rfl ?_
  intro X Z hO hf
  unfold f_X9_sheet at hf
  refine at_iload_n hO 1 rfl rfl dX9_sheet_0 1 rfl ?_
  refine at_callS1 (As := [vi p1]) (st := []) hO (c_X9_isSheet _ G hO.g s p1) mb_X9_isSheet ms_X9_isSheet lk_X9_59 rfl ⟨(Nat.le_of_ble_eq_true rfl), (Nat.le_of_ble_eq_true rfl)⟩ (Nat.le_of_ble_eq_true rfl) rfl dX9_sheet_1 4 rfl hf (fun r1 s2 hf => ?_)
  obtain ⟨h3, hf⟩ := chk_some hf
  refine at_if_eq hO h3 dX9_sheet_4 25 rfl 7 rfl hf (fun hf => ?_) (fun hf => ?_)
  · refine at_bipush hO (by decide) dX9_sheet_25 27 rfl ?_
    exact at_ireturn hO dX9_sheet_27 hf
  · refine at_iload_n hO 2 rfl rfl dX9_sheet_7 8 rfl ?_
    obtain ⟨h4, hf⟩ := chk_some hf
    refine at_i2l hO h4 dX9_sheet_8 9 rfl ?_
    refine at_lconst (n := 0) hO (by decide) dX9_sheet_9 10 rfl ?_
    refine at_ldc2_w (n := 2) hO lc_X9_63 (by decide) dX9_sheet_10 13 rfl ?_
    refine at_callS1 (As := [vl p2, vl 0, vl 2]) (st := []) hO (c_X9_in _ G hO.g s2 p2 0 2) mb_X9_in ms_X9_in lk_X9_49 rfl ⟨(Nat.le_of_ble_eq_true rfl), (Nat.le_of_ble_eq_true rfl)⟩ (Nat.le_of_ble_eq_true rfl) rfl dX9_sheet_13 16 rfl hf (fun r5 s6 hf => ?_)
    obtain ⟨h7, hf⟩ := chk_some hf
    refine at_if_eq hO h7 dX9_sheet_16 25 rfl 19 rfl hf (fun hf => ?_) (fun hf => ?_)
    · refine at_bipush hO (by decide) dX9_sheet_25 27 rfl ?_
      exact at_ireturn hO dX9_sheet_27 hf
    · refine at_iload_n hO 3 rfl rfl dX9_sheet_19 20 rfl ?_
      refine at_bipush hO (by decide) dX9_sheet_20 22 rfl ?_
      obtain ⟨h8, hf⟩ := chk_some hf
      refine at_icmp_le hO h8 (by decide) dX9_sheet_22 28 rfl 25 rfl hf (fun hf => ?_) (fun hf => ?_)
      · refine at_iload_n hO 3 rfl rfl dX9_sheet_28 29 rfl ?_
        refine at_if_ge hO h8 dX9_sheet_29 38 rfl 32 rfl hf (fun hf => ?_) (fun hf => ?_)
        · refine at_aload_n hO 0 rfl rfl dX9_sheet_38 39 rfl ?_
          refine at_getR hO fl_X9_7 rfl rfl dX9_sheet_39 42 rfl ?_
          refine at_iload_n hO 1 rfl rfl dX9_sheet_42 43 rfl ?_
          refine at_iload_n hO 2 rfl rfl dX9_sheet_43 44 rfl ?_
          obtain ⟨h9, hf⟩ := chk_some hf
          refine at_iastore hO rfl (Nat.le_of_ble_eq_true rfl) h9 (p1.toNat) rfl dX9_sheet_44 45 rfl ?_
          refine at_aload_n hO 0 rfl rfl dX9_sheet_45 46 rfl ?_
          refine at_getR hO fl_X9_13 rfl rfl dX9_sheet_46 49 rfl ?_
          refine at_iload_n hO 1 rfl rfl dX9_sheet_49 50 rfl ?_
          refine at_iload_n hO 3 rfl rfl dX9_sheet_50 51 rfl ?_
          refine at_iastore hO rfl (Nat.le_of_ble_eq_true rfl) h9 (p1.toNat) rfl dX9_sheet_51 52 rfl ?_
          refine at_iconst hO dX9_sheet_52 53 rfl ?_
          refine at_istore hO (lv' := [(4, vi 0), (0, vr G 58), (1, vi p1), (2, vi p2), (3, vi p3)]) (Nat.le_of_ble_eq_true rfl) rfl dX9_sheet_53 55 rfl ?_
          exact at_sub (fun ls h => lv_sub h [1, 2, 4, 0] rfl) (wL_X9_sheet_55 hO FU (su (su s6 59 p1.toNat p2) 60 p1.toNat p3) p1 p3 0 hf)
        · refine at_aload_n hO 0 rfl rfl dX9_sheet_32 33 rfl ?_
          refine at_iconst hO dX9_sheet_33 34 rfl ?_
          refine at_callV1 (As := [vi 5]) (st := []) hO (c_X9_met _ G hO.g s6 5) mb_X9_met mi_X9_met lk_X9_65 rfl ⟨_, rfl, rfl⟩ rfl ⟨(Nat.le_of_ble_eq_true rfl), (Nat.le_of_ble_eq_true rfl)⟩ (Nat.le_of_ble_eq_true rfl) rfl dX9_sheet_34 37 rfl hf (fun r10 s11 hf => ?_)
          exact at_ireturn hO dX9_sheet_37 hf
      · refine at_bipush hO (by decide) dX9_sheet_25 27 rfl ?_
        exact at_ireturn hO dX9_sheet_27 hf

def f_X9_lose (s : St) (p1 : Int) : Option Rt := cll (f_X9_isSheet s p1) (fun r1 s2 => chk (in32 r1) ((if r1 = 0 then some ((-2), s2) else chk (ix p1 4) (chk (in32 (s2 59 p1.toNat)) ((if 0 ≤ (s2 59 p1.toNat) then some (((su s2 59 p1.toNat (-1)) 60 p1.toNat), (su s2 59 p1.toNat (-1))) else cll (f_X9_met s2 1) (fun r6 s7 => some (r6, s7))))))))
set_option maxRecDepth 100000 in
set_option maxHeartbeats 4000000 in
theorem c_X9_lose (l : Launch) (G : Ge) (hG : rr_GD G) (s : St) (p1 : Int) : rr_Ct l G yX9_lose cX9_lose 2 (some .int) 2 45 1 [vr G 58, vi p1] s (f_X9_lose s p1) := by
  refine rr_mk (lv := [(0, vr G 58), (1, vi p1)]) RX9 (by decide) rfl hG (Nat.le_of_ble_eq_true rfl) rfl ?_
  intro X Z hO hf
  unfold f_X9_lose at hf
  refine at_iload_n hO 1 rfl rfl dX9_lose_0 1 rfl ?_
  refine at_callS1 (As := [vi p1]) (st := []) hO (c_X9_isSheet _ G hO.g s p1) mb_X9_isSheet ms_X9_isSheet lk_X9_59 rfl ⟨(Nat.le_of_ble_eq_true rfl), (Nat.le_of_ble_eq_true rfl)⟩ (Nat.le_of_ble_eq_true rfl) rfl dX9_lose_1 4 rfl hf (fun r1 s2 hf => ?_)
  obtain ⟨h3, hf⟩ := chk_some hf
  refine at_if_ne hO h3 dX9_lose_4 10 rfl 7 rfl hf (fun hf => ?_) (fun hf => ?_)
  · refine at_aload_n hO 0 rfl rfl dX9_lose_10 11 rfl ?_
    refine at_getR hO fl_X9_7 rfl rfl dX9_lose_11 14 rfl ?_
    refine at_iload_n hO 1 rfl rfl dX9_lose_14 15 rfl ?_
    obtain ⟨h4, hf⟩ := chk_some hf
    refine at_iaload hO rfl (Nat.le_of_ble_eq_true rfl) h4 (p1.toNat) rfl dX9_lose_15 16 rfl ?_
    obtain ⟨h5, hf⟩ := chk_some hf
    refine at_if_ge hO h5 dX9_lose_16 25 rfl 19 rfl hf (fun hf => ?_) (fun hf => ?_)
    · refine at_aload_n hO 0 rfl rfl dX9_lose_25 26 rfl ?_
      refine at_getR hO fl_X9_7 rfl rfl dX9_lose_26 29 rfl ?_
      refine at_iload_n hO 1 rfl rfl dX9_lose_29 30 rfl ?_
      refine at_iconst hO dX9_lose_30 31 rfl ?_
      refine at_iastore hO rfl (Nat.le_of_ble_eq_true rfl) h4 (p1.toNat) rfl dX9_lose_31 32 rfl ?_
      refine at_aload_n hO 0 rfl rfl dX9_lose_32 33 rfl ?_
      refine at_getR hO fl_X9_13 rfl rfl dX9_lose_33 36 rfl ?_
      refine at_iload_n hO 1 rfl rfl dX9_lose_36 37 rfl ?_
      refine at_iaload hO rfl (Nat.le_of_ble_eq_true rfl) h4 (p1.toNat) rfl dX9_lose_37 38 rfl ?_
      exact at_ireturn hO dX9_lose_38 hf
    · refine at_aload_n hO 0 rfl rfl dX9_lose_19 20 rfl ?_
      refine at_iconst hO dX9_lose_20 21 rfl ?_
      refine at_callV1 (As := [vi 1]) (st := []) hO (c_X9_met _ G hO.g s2 1) mb_X9_met mi_X9_met lk_X9_65 rfl ⟨_, rfl, rfl⟩ rfl ⟨(Nat.le_of_ble_eq_true rfl), (Nat.le_of_ble_eq_true rfl)⟩ (Nat.le_of_ble_eq_true rfl) rfl dX9_lose_21 24 rfl hf (fun r6 s7 hf => ?_)
      exact at_ireturn hO dX9_lose_24 hf
  · refine at_bipush hO (by decide) dX9_lose_7 9 rfl ?_
    exact at_ireturn hO dX9_lose_9 hf

def f_X9_lacks (s : St) (p1 p2 p3 : Int) : Option Rt := chk (ix p1 4) (chk (in32 (s 59 p1.toNat)) ((if 0 ≤ (s 59 p1.toNat) then chk (in32 p2) ((if (s 59 p1.toNat) = p2 then chk (in32 p3) (chk (in32 ((s 60 p1.toNat) - 1)) (cll (f_X9_in s p3 0 ((s 60 p1.toNat) - 1)) (fun r6 s7 => chk (in32 r6) ((if r6 = 0 then cll (f_X9_met s7 2) (fun r9 s10 => some (r9, s10)) else some (0, s7)))))) else cll (f_X9_met s 3) (fun r11 s12 => some (r11, s12)))) else cll (f_X9_met s 1) (fun r13 s14 => some (r13, s14)))))
set_option maxRecDepth 100000 in
set_option maxHeartbeats 4000000 in
theorem c_X9_lacks (l : Launch) (G : Ge) (hG : rr_GD G) (s : St) (p1 p2 p3 : Int) : rr_Ct l G yX9_lacks cX9_lacks 4 (some .int) 1 25 1 [vr G 58, vi p1, vi p2, vi p3] s (f_X9_lacks s p1 p2 p3) := by
  refine rr_mk (lv := [(0, vr G 58), (1, vi p1), (2, vi p2), (3, vi p3)]) RX9 (by decide) rfl hG (Nat.le_of_ble_eq_true rfl) rfl ?_
  intro X Z hO hf
  unfold f_X9_lacks at hf
  refine at_aload_n hO 0 rfl rfl dX9_lacks_0 1 rfl ?_
  refine at_getR hO fl_X9_7 rfl rfl dX9_lacks_1 4 rfl ?_
  refine at_iload_n hO 1 rfl rfl dX9_lacks_4 5 rfl ?_
  obtain ⟨h1, hf⟩ := chk_some hf
  refine at_iaload hO rfl (Nat.le_of_ble_eq_true rfl) h1 (p1.toNat) rfl dX9_lacks_5 6 rfl ?_
  obtain ⟨h2, hf⟩ := chk_some hf
  refine at_if_ge hO h2 dX9_lacks_6 15 rfl 9 rfl hf (fun hf => ?_) (fun hf => ?_)
  · refine at_aload_n hO 0 rfl rfl dX9_lacks_15 16 rfl ?_
    refine at_getR hO fl_X9_7 rfl rfl dX9_lacks_16 19 rfl ?_
    refine at_iload_n hO 1 rfl rfl dX9_lacks_19 20 rfl ?_
    refine at_iaload hO rfl (Nat.le_of_ble_eq_true rfl) h1 (p1.toNat) rfl dX9_lacks_20 21 rfl ?_
    refine at_iload_n hO 2 rfl rfl dX9_lacks_21 22 rfl ?_
    obtain ⟨h3, hf⟩ := chk_some hf
    refine at_icmp_eq hO h2 h3 dX9_lacks_22 31 rfl 25 rfl hf (fun hf => ?_) (fun hf => ?_)
    · refine at_iload_n hO 3 rfl rfl dX9_lacks_31 32 rfl ?_
      obtain ⟨h4, hf⟩ := chk_some hf
      refine at_i2l hO h4 dX9_lacks_32 33 rfl ?_
      refine at_lconst (n := 0) hO (by decide) dX9_lacks_33 34 rfl ?_
      refine at_aload_n hO 0 rfl rfl dX9_lacks_34 35 rfl ?_
      refine at_getR hO fl_X9_13 rfl rfl dX9_lacks_35 38 rfl ?_
      refine at_iload_n hO 1 rfl rfl dX9_lacks_38 39 rfl ?_
      refine at_iaload hO rfl (Nat.le_of_ble_eq_true rfl) h1 (p1.toNat) rfl dX9_lacks_39 40 rfl ?_
      refine at_iconst hO dX9_lacks_40 41 rfl ?_
      refine at_isub hO dX9_lacks_41 42 rfl ?_
      obtain ⟨h5, hf⟩ := chk_some hf
      refine at_i2l hO h5 dX9_lacks_42 43 rfl ?_
      refine at_callS1 (As := [vl p3, vl 0, vl ((s 60 p1.toNat) - 1)]) (st := []) hO (c_X9_in _ G hO.g s p3 0 ((s 60 p1.toNat) - 1)) mb_X9_in ms_X9_in lk_X9_49 rfl ⟨(Nat.le_of_ble_eq_true rfl), (Nat.le_of_ble_eq_true rfl)⟩ (Nat.le_of_ble_eq_true rfl) rfl dX9_lacks_43 46 rfl hf (fun r6 s7 hf => ?_)
      obtain ⟨h8, hf⟩ := chk_some hf
      refine at_if_eq hO h8 dX9_lacks_46 53 rfl 49 rfl hf (fun hf => ?_) (fun hf => ?_)
      · refine at_aload_n hO 0 rfl rfl dX9_lacks_53 54 rfl ?_
        refine at_iconst hO dX9_lacks_54 55 rfl ?_
        refine at_callV1 (As := [vi 2]) (st := []) hO (c_X9_met _ G hO.g s7 2) mb_X9_met mi_X9_met lk_X9_65 rfl ⟨_, rfl, rfl⟩ rfl ⟨(Nat.le_of_ble_eq_true rfl), (Nat.le_of_ble_eq_true rfl)⟩ (Nat.le_of_ble_eq_true rfl) rfl dX9_lacks_55 58 rfl hf (fun r9 s10 hf => ?_)
        exact at_ireturn hO dX9_lacks_58 hf
      · refine at_iconst hO dX9_lacks_49 50 rfl ?_
        refine at_goto hO dX9_lacks_50 58 rfl ?_
        exact at_ireturn hO dX9_lacks_58 hf
    · refine at_aload_n hO 0 rfl rfl dX9_lacks_25 26 rfl ?_
      refine at_iconst hO dX9_lacks_26 27 rfl ?_
      refine at_callV1 (As := [vi 3]) (st := []) hO (c_X9_met _ G hO.g s 3) mb_X9_met mi_X9_met lk_X9_65 rfl ⟨_, rfl, rfl⟩ rfl ⟨(Nat.le_of_ble_eq_true rfl), (Nat.le_of_ble_eq_true rfl)⟩ (Nat.le_of_ble_eq_true rfl) rfl dX9_lacks_27 30 rfl hf (fun r11 s12 hf => ?_)
      exact at_ireturn hO dX9_lacks_30 hf
  · refine at_aload_n hO 0 rfl rfl dX9_lacks_9 10 rfl ?_
    refine at_iconst hO dX9_lacks_10 11 rfl ?_
    refine at_callV1 (As := [vi 1]) (st := []) hO (c_X9_met _ G hO.g s 1) mb_X9_met mi_X9_met lk_X9_65 rfl ⟨_, rfl, rfl⟩ rfl ⟨(Nat.le_of_ble_eq_true rfl), (Nat.le_of_ble_eq_true rfl)⟩ (Nat.le_of_ble_eq_true rfl) rfl dX9_lacks_11 14 rfl hf (fun r13 s14 hf => ?_)
    exact at_ireturn hO dX9_lacks_14 hf

def f_X9_cut (s : St) (p1 p2 : Int) : Option Rt := chk (in32 p1) ((if p1 = 0 then some ((i2bZ p2), s) else (if p1 = 1 then some ((i2sZ p2), s) else some (p2, s))))
set_option maxRecDepth 100000 in
set_option maxHeartbeats 4000000 in
theorem c_X9_cut (l : Launch) (G : Ge) (hG : rr_GD G) (s : St) (p1 p2 : Int) : rr_Ct l G yX9_cut cX9_cut 2 (some .int) 0 0 1 [vi p1, vi p2] s (f_X9_cut s p1 p2) := by
  refine rr_mk (lv := [(0, vi p1), (1, vi p2)]) RX9 (by decide) rfl hG (Nat.le_of_ble_eq_true rfl) rfl ?_
  intro X Z hO hf
  unfold f_X9_cut at hf
  refine at_iload_n hO 0 rfl rfl dX9_cut_0 1 rfl ?_
  obtain ⟨h1, hf⟩ := chk_some hf
  refine at_if_ne hO h1 dX9_cut_1 9 rfl 4 rfl hf (fun hf => ?_) (fun hf => ?_)
  · refine at_iload_n hO 0 rfl rfl dX9_cut_9 10 rfl ?_
    refine at_iconst hO dX9_cut_10 11 rfl ?_
    refine at_icmp_ne hO h1 (by decide) dX9_cut_11 19 rfl 14 rfl hf (fun hf => ?_) (fun hf => ?_)
    · refine at_iload_n hO 1 rfl rfl dX9_cut_19 20 rfl ?_
      exact at_ireturn hO dX9_cut_20 hf
    · refine at_iload_n hO 1 rfl rfl dX9_cut_14 15 rfl ?_
      refine at_i2s hO dX9_cut_15 16 rfl ?_
      refine at_goto hO dX9_cut_16 20 rfl ?_
      exact at_ireturn hO dX9_cut_20 hf
  · refine at_iload_n hO 1 rfl rfl dX9_cut_4 5 rfl ?_
    refine at_i2b hO dX9_cut_5 6 rfl ?_
    refine at_goto hO dX9_cut_6 20 rfl ?_
    exact at_ireturn hO dX9_cut_20 hf

def f_X9_lay (s : St) (p1 p2 p3 p4 : Int) : Option Rt := cll (f_X9_isSheet s p1) (fun r1 s2 => chk (in32 r1) ((if r1 = 0 then some ((-2), s2) else chk (in32 p2) (cll (f_X9_in s2 p2 0 2) (fun r5 s6 => chk (in32 r5) ((if r5 = 0 then some ((-2), s6) else cll (f_X9_lacks s6 p1 p2 p3) (fun r8 s9 => chk (in32 r8) ((if r8 = 0 then cll (f_X9_cut s9 p2 p4) (fun r11 s12 => chk (ix ((60 * p1) + p3) 240) (some (1, (su s12 61 ((60 * p1) + p3).toNat r11)))) else some (r8, s9)))))))))))
set_option maxRecDepth 100000 in
set_option maxHeartbeats 4000000 in
theorem c_X9_lay (l : Launch) (G : Ge) (hG : rr_GD G) (s : St) (p1 p2 p3 p4 : Int) : rr_Ct l G yX9_lay cX9_lay 6 (some .int) 2 48 1 [vr G 58, vi p1, vi p2, vi p3, vi p4] s (f_X9_lay s p1 p2 p3 p4) := by
  refine rr_mk (lv := [(0, vr G 58), (1, vi p1), (2, vi p2), (3, vi p3), (4, vi p4)]) RX9 (by decide) rfl hG (Nat.le_of_ble_eq_true rfl) rfl ?_
  intro X Z hO hf
  unfold f_X9_lay at hf
  refine at_iload_n hO 1 rfl rfl dX9_lay_0 1 rfl ?_
  refine at_callS1 (As := [vi p1]) (st := []) hO (c_X9_isSheet _ G hO.g s p1) mb_X9_isSheet ms_X9_isSheet lk_X9_59 rfl ⟨(Nat.le_of_ble_eq_true rfl), (Nat.le_of_ble_eq_true rfl)⟩ (Nat.le_of_ble_eq_true rfl) rfl dX9_lay_1 4 rfl hf (fun r1 s2 hf => ?_)
  obtain ⟨h3, hf⟩ := chk_some hf
  refine at_if_eq hO h3 dX9_lay_4 19 rfl 7 rfl hf (fun hf => ?_) (fun hf => ?_)
  · refine at_bipush hO (by decide) dX9_lay_19 21 rfl ?_
    exact at_ireturn hO dX9_lay_21 hf
  · refine at_iload_n hO 2 rfl rfl dX9_lay_7 8 rfl ?_
    obtain ⟨h4, hf⟩ := chk_some hf
    refine at_i2l hO h4 dX9_lay_8 9 rfl ?_
    refine at_lconst (n := 0) hO (by decide) dX9_lay_9 10 rfl ?_
    refine at_ldc2_w (n := 2) hO lc_X9_63 (by decide) dX9_lay_10 13 rfl ?_
    refine at_callS1 (As := [vl p2, vl 0, vl 2]) (st := []) hO (c_X9_in _ G hO.g s2 p2 0 2) mb_X9_in ms_X9_in lk_X9_49 rfl ⟨(Nat.le_of_ble_eq_true rfl), (Nat.le_of_ble_eq_true rfl)⟩ (Nat.le_of_ble_eq_true rfl) rfl dX9_lay_13 16 rfl hf (fun r5 s6 hf => ?_)
    obtain ⟨h7, hf⟩ := chk_some hf
    refine at_if_ne hO h7 dX9_lay_16 22 rfl 19 rfl hf (fun hf => ?_) (fun hf => ?_)
    · refine at_aload_n hO 0 rfl rfl dX9_lay_22 23 rfl ?_
      refine at_iload_n hO 1 rfl rfl dX9_lay_23 24 rfl ?_
      refine at_iload_n hO 2 rfl rfl dX9_lay_24 25 rfl ?_
      refine at_iload_n hO 3 rfl rfl dX9_lay_25 26 rfl ?_
      refine at_callV1 (As := [vi p1, vi p2, vi p3]) (st := []) hO (c_X9_lacks _ G hO.g s6 p1 p2 p3) mb_X9_lacks mi_X9_lacks lk_X9_69 rfl ⟨_, rfl, rfl⟩ rfl ⟨(Nat.le_of_ble_eq_true rfl), (Nat.le_of_ble_eq_true rfl)⟩ (Nat.le_of_ble_eq_true rfl) rfl dX9_lay_26 29 rfl hf (fun r8 s9 hf => ?_)
      refine at_istore hO (lv' := [(5, vi r8), (0, vr G 58), (1, vi p1), (2, vi p2), (3, vi p3), (4, vi p4)]) (Nat.le_of_ble_eq_true rfl) rfl dX9_lay_29 31 rfl ?_
      refine at_iload hO 0 rfl dX9_lay_31 33 rfl ?_
      obtain ⟨h10, hf⟩ := chk_some hf
      refine at_if_eq hO h10 dX9_lay_33 39 rfl 36 rfl hf (fun hf => ?_) (fun hf => ?_)
      · refine at_aload_n hO 1 rfl rfl dX9_lay_39 40 rfl ?_
        refine at_getR hO fl_X9_16 rfl rfl dX9_lay_40 43 rfl ?_
        refine at_bipush hO (by decide) dX9_lay_43 45 rfl ?_
        refine at_iload_n hO 2 rfl rfl dX9_lay_45 46 rfl ?_
        refine at_imul hO dX9_lay_46 47 rfl ?_
        refine at_iload_n hO 4 rfl rfl dX9_lay_47 48 rfl ?_
        refine at_iadd hO dX9_lay_48 49 rfl ?_
        refine at_iload_n hO 3 rfl rfl dX9_lay_49 50 rfl ?_
        refine at_iload hO 5 rfl dX9_lay_50 52 rfl ?_
        refine at_callS1 (As := [vi p2, vi p4]) (st := [vi ((60 * p1) + p3), vr G 61]) hO (c_X9_cut _ G hO.g s9 p2 p4) mb_X9_cut ms_X9_cut lk_X9_73 rfl ⟨(Nat.le_of_ble_eq_true rfl), (Nat.le_of_ble_eq_true rfl)⟩ (Nat.le_of_ble_eq_true rfl) rfl dX9_lay_52 55 rfl hf (fun r11 s12 hf => ?_)
        obtain ⟨h13, hf⟩ := chk_some hf
        refine at_iastore hO rfl (Nat.le_of_ble_eq_true rfl) h13 (((60 * p1) + p3).toNat) rfl dX9_lay_55 56 rfl ?_
        refine at_iconst hO dX9_lay_56 57 rfl ?_
        exact at_ireturn hO dX9_lay_57 hf
      · refine at_iload hO 0 rfl dX9_lay_36 38 rfl ?_
        exact at_ireturn hO dX9_lay_38 hf
    · refine at_bipush hO (by decide) dX9_lay_19 21 rfl ?_
      exact at_ireturn hO dX9_lay_21 hf

def f_X9_get (s : St) (p1 p2 p3 : Int) : Option Rt := cll (f_X9_isSheet s p1) (fun r1 s2 => chk (in32 r1) ((if r1 = 0 then some ((-2147483648), s2) else chk (in32 p2) (cll (f_X9_in s2 p2 0 2) (fun r5 s6 => chk (in32 r5) ((if r5 = 0 then some ((-2147483648), s6) else cll (f_X9_lacks s6 p1 p2 p3) (fun r8 s9 => chk (in32 r8) ((if r8 = 0 then chk (ix ((60 * p1) + p3) 240) (some ((s9 61 ((60 * p1) + p3).toNat), s9)) else some ((-2147483648), s9)))))))))))
set_option maxRecDepth 100000 in
set_option maxHeartbeats 4000000 in
theorem c_X9_get (l : Launch) (G : Ge) (hG : rr_GD G) (s : St) (p1 p2 p3 : Int) : rr_Ct l G yX9_get cX9_get 4 (some .int) 2 48 1 [vr G 58, vi p1, vi p2, vi p3] s (f_X9_get s p1 p2 p3) := by
  refine rr_mk (lv := [(0, vr G 58), (1, vi p1), (2, vi p2), (3, vi p3)]) RX9 (by decide) rfl hG (Nat.le_of_ble_eq_true rfl) rfl ?_
  intro X Z hO hf
  unfold f_X9_get at hf
  refine at_iload_n hO 1 rfl rfl dX9_get_0 1 rfl ?_
  refine at_callS1 (As := [vi p1]) (st := []) hO (c_X9_isSheet _ G hO.g s p1) mb_X9_isSheet ms_X9_isSheet lk_X9_59 rfl ⟨(Nat.le_of_ble_eq_true rfl), (Nat.le_of_ble_eq_true rfl)⟩ (Nat.le_of_ble_eq_true rfl) rfl dX9_get_1 4 rfl hf (fun r1 s2 hf => ?_)
  obtain ⟨h3, hf⟩ := chk_some hf
  refine at_if_eq hO h3 dX9_get_4 29 rfl 7 rfl hf (fun hf => ?_) (fun hf => ?_)
  · refine at_ldc (n := (-2147483648)) hO lc_X9_77 (by decide) dX9_get_29 31 rfl ?_
    exact at_ireturn hO dX9_get_31 hf
  · refine at_iload_n hO 2 rfl rfl dX9_get_7 8 rfl ?_
    obtain ⟨h4, hf⟩ := chk_some hf
    refine at_i2l hO h4 dX9_get_8 9 rfl ?_
    refine at_lconst (n := 0) hO (by decide) dX9_get_9 10 rfl ?_
    refine at_ldc2_w (n := 2) hO lc_X9_63 (by decide) dX9_get_10 13 rfl ?_
    refine at_callS1 (As := [vl p2, vl 0, vl 2]) (st := []) hO (c_X9_in _ G hO.g s2 p2 0 2) mb_X9_in ms_X9_in lk_X9_49 rfl ⟨(Nat.le_of_ble_eq_true rfl), (Nat.le_of_ble_eq_true rfl)⟩ (Nat.le_of_ble_eq_true rfl) rfl dX9_get_13 16 rfl hf (fun r5 s6 hf => ?_)
    obtain ⟨h7, hf⟩ := chk_some hf
    refine at_if_eq hO h7 dX9_get_16 29 rfl 19 rfl hf (fun hf => ?_) (fun hf => ?_)
    · refine at_ldc (n := (-2147483648)) hO lc_X9_77 (by decide) dX9_get_29 31 rfl ?_
      exact at_ireturn hO dX9_get_31 hf
    · refine at_aload_n hO 0 rfl rfl dX9_get_19 20 rfl ?_
      refine at_iload_n hO 1 rfl rfl dX9_get_20 21 rfl ?_
      refine at_iload_n hO 2 rfl rfl dX9_get_21 22 rfl ?_
      refine at_iload_n hO 3 rfl rfl dX9_get_22 23 rfl ?_
      refine at_callV1 (As := [vi p1, vi p2, vi p3]) (st := []) hO (c_X9_lacks _ G hO.g s6 p1 p2 p3) mb_X9_lacks mi_X9_lacks lk_X9_69 rfl ⟨_, rfl, rfl⟩ rfl ⟨(Nat.le_of_ble_eq_true rfl), (Nat.le_of_ble_eq_true rfl)⟩ (Nat.le_of_ble_eq_true rfl) rfl dX9_get_23 26 rfl hf (fun r8 s9 hf => ?_)
      obtain ⟨h10, hf⟩ := chk_some hf
      refine at_if_eq hO h10 dX9_get_26 32 rfl 29 rfl hf (fun hf => ?_) (fun hf => ?_)
      · refine at_aload_n hO 0 rfl rfl dX9_get_32 33 rfl ?_
        refine at_getR hO fl_X9_16 rfl rfl dX9_get_33 36 rfl ?_
        refine at_bipush hO (by decide) dX9_get_36 38 rfl ?_
        refine at_iload_n hO 1 rfl rfl dX9_get_38 39 rfl ?_
        refine at_imul hO dX9_get_39 40 rfl ?_
        refine at_iload_n hO 3 rfl rfl dX9_get_40 41 rfl ?_
        refine at_iadd hO dX9_get_41 42 rfl ?_
        obtain ⟨h11, hf⟩ := chk_some hf
        refine at_iaload hO rfl (Nat.le_of_ble_eq_true rfl) h11 (((60 * p1) + p3).toNat) rfl dX9_get_42 43 rfl ?_
        exact at_ireturn hO dX9_get_43 hf
      · refine at_ldc (n := (-2147483648)) hO lc_X9_77 (by decide) dX9_get_29 31 rfl ?_
        exact at_ireturn hO dX9_get_31 hf

def B_X9_copy_35 (s : St) : Option Rt := cll (f_X9_met s 1) (fun r1 s2 => some (r1, s2))
set_option maxRecDepth 100000 in
set_option maxHeartbeats 4000000 in
theorem wB_X9_copy_35 {X : CX} {G : Ge} {Z : Rt} (hO : rr_OK X G cX9_copy 7 RX9 (some .int) 2 45) (s : St) (hf : B_X9_copy_35 s = some Z) : rr_AT X G 7 1 Z 35 [(0, vr G 58)] [] s := by
  unfold B_X9_copy_35 at hf
  refine at_aload_n hO 0 rfl rfl dX9_copy_35 36 rfl ?_
  refine at_iconst hO dX9_copy_36 37 rfl ?_
  refine at_callV1 (As := [vi 1]) (st := []) hO (c_X9_met _ G hO.g s 1) mb_X9_met mi_X9_met lk_X9_65 rfl ⟨_, rfl, rfl⟩ rfl ⟨(Nat.le_of_ble_eq_true rfl), (Nat.le_of_ble_eq_true rfl)⟩ (Nat.le_of_ble_eq_true rfl) rfl dX9_copy_37 40 rfl hf (fun r1 s2 hf => ?_)
  exact at_ireturn hO dX9_copy_40 hf
def B_X9_copy_111 (s : St) : Option Rt := cll (f_X9_met s 2) (fun r1 s2 => some (r1, s2))
set_option maxRecDepth 100000 in
set_option maxHeartbeats 4000000 in
theorem wB_X9_copy_111 {X : CX} {G : Ge} {Z : Rt} (hO : rr_OK X G cX9_copy 7 RX9 (some .int) 2 45) (s : St) (hf : B_X9_copy_111 s = some Z) : rr_AT X G 7 1 Z 111 [(0, vr G 58)] [] s := by
  unfold B_X9_copy_111 at hf
  refine at_aload_n hO 0 rfl rfl dX9_copy_111 112 rfl ?_
  refine at_iconst hO dX9_copy_112 113 rfl ?_
  refine at_callV1 (As := [vi 2]) (st := []) hO (c_X9_met _ G hO.g s 2) mb_X9_met mi_X9_met lk_X9_65 rfl ⟨_, rfl, rfl⟩ rfl ⟨(Nat.le_of_ble_eq_true rfl), (Nat.le_of_ble_eq_true rfl)⟩ (Nat.le_of_ble_eq_true rfl) rfl dX9_copy_113 116 rfl hf (fun r1 s2 hf => ?_)
  exact at_ireturn hO dX9_copy_116 hf
def S_X9_copy_157 (rec157 : St → Int → Int → Int → Int → Option Rt) (s : St) (v3 v4 v5 v6 : Int) : Option Rt := chk (in32 v6) (chk (in32 v5) ((if v5 ≤ v6 then some (1, s) else chk (ix v6 60) (chk (ix (((60 * v3) + v4) + v6) 240) (rec157 (su s 61 (((60 * v3) + v4) + v6).toNat (s 62 v6.toNat)) v3 v4 v5 (v6 + 1))))))
def L_X9_copy_157 : Nat → St → Int → Int → Int → Int → Option Rt
  | 0, _, _, _, _, _ => none
  | n + 1, s, v3, v4, v5, v6 => S_X9_copy_157 (L_X9_copy_157 n) s v3 v4 v5 v6
set_option maxRecDepth 100000 in
set_option maxHeartbeats 4000000 in
theorem wS_X9_copy_157 {X : CX} {G : Ge} {Z : Rt} {rec157 : St → Int → Int → Int → Int → Option Rt} (hO : rr_OK X G cX9_copy 7 RX9 (some .int) 2 45) (hrec157 : ∀ (s : St) (v3 v4 v5 v6 : Int), rec157 s v3 v4 v5 v6 = some Z → rr_AT X G 7 1 Z 157 [(0, vr G 58), (3, vi v3), (4, vi v4), (5, vi v5), (6, vi v6)] [] s) (s : St) (v3 v4 v5 v6 : Int) (hf : S_X9_copy_157 rec157 s v3 v4 v5 v6 = some Z) : rr_AT X G 7 1 Z 157 [(0, vr G 58), (3, vi v3), (4, vi v4), (5, vi v5), (6, vi v6)] [] s := by
  unfold S_X9_copy_157 at hf
  refine at_iload hO 4 rfl dX9_copy_157 159 rfl ?_
  refine at_iload hO 3 rfl dX9_copy_159 161 rfl ?_
  obtain ⟨h1, hf⟩ := chk_some hf
  obtain ⟨h2, hf⟩ := chk_some hf
  refine at_icmp_ge hO h1 h2 dX9_copy_161 192 rfl 164 rfl hf (fun hf => ?_) (fun hf => ?_)
  · refine at_iconst hO dX9_copy_192 193 rfl ?_
    exact at_ireturn hO dX9_copy_193 hf
  · refine at_aload_n hO 0 rfl rfl dX9_copy_164 165 rfl ?_
    refine at_getR hO fl_X9_16 rfl rfl dX9_copy_165 168 rfl ?_
    refine at_bipush hO (by decide) dX9_copy_168 170 rfl ?_
    refine at_iload_n hO 1 rfl rfl dX9_copy_170 171 rfl ?_
    refine at_imul hO dX9_copy_171 172 rfl ?_
    refine at_iload hO 2 rfl dX9_copy_172 174 rfl ?_
    refine at_iadd hO dX9_copy_174 175 rfl ?_
    refine at_iload hO 4 rfl dX9_copy_175 177 rfl ?_
    refine at_iadd hO dX9_copy_177 178 rfl ?_
    refine at_aload_n hO 0 rfl rfl dX9_copy_178 179 rfl ?_
    refine at_getR hO fl_X9_19 rfl rfl dX9_copy_179 182 rfl ?_
    refine at_iload hO 4 rfl dX9_copy_182 184 rfl ?_
    obtain ⟨h3, hf⟩ := chk_some hf
    refine at_iaload hO rfl (Nat.le_of_ble_eq_true rfl) h3 (v6.toNat) rfl dX9_copy_184 185 rfl ?_
    obtain ⟨h4, hf⟩ := chk_some hf
    refine at_iastore hO rfl (Nat.le_of_ble_eq_true rfl) h4 ((((60 * v3) + v4) + v6).toNat) rfl dX9_copy_185 186 rfl ?_
    refine at_iinc hO (lv' := [(6, vi (v6 + 1)), (0, vr G 58), (3, vi v3), (4, vi v4), (5, vi v5)]) 4 rfl (Nat.le_of_ble_eq_true rfl) rfl dX9_copy_186 189 rfl ?_
    refine at_goto hO dX9_copy_189 157 rfl ?_
    exact at_sub (fun ls h => lv_sub h [1, 2, 3, 4, 0] rfl) (hrec157 (su s 61 (((60 * v3) + v4) + v6).toNat (s 62 v6.toNat)) v3 v4 v5 (v6 + 1) hf)
theorem wL_X9_copy_157 {X : CX} {G : Ge} {Z : Rt} (hO : rr_OK X G cX9_copy 7 RX9 (some .int) 2 45) : ∀ (n : Nat) (s : St) (v3 v4 v5 v6 : Int), L_X9_copy_157 n s v3 v4 v5 v6 = some Z → rr_AT X G 7 1 Z 157 [(0, vr G 58), (3, vi v3), (4, vi v4), (5, vi v5), (6, vi v6)] [] s := by
  intro n
  induction n with
  | zero =>
    intro s v3 v4 v5 v6 hf
    cases hf
  | succ n ih =>
    intro s v3 v4 v5 v6 hf
    exact wS_X9_copy_157 hO ih s v3 v4 v5 v6 hf
def S_X9_copy_120 (rec120 : St → Int → Int → Int → Int → Int → Int → Option Rt) (s : St) (v1 v2 v3 v4 v5 v6 : Int) : Option Rt := chk (in32 v6) (chk (in32 v5) ((if v5 ≤ v6 then L_X9_copy_157 FU s v3 v4 v5 0 else chk (ix (((60 * v1) + v2) + v6) 240) (chk (ix v6 60) (rec120 (su s 62 v6.toNat (s 61 (((60 * v1) + v2) + v6).toNat)) v1 v2 v3 v4 v5 (v6 + 1))))))
def L_X9_copy_120 : Nat → St → Int → Int → Int → Int → Int → Int → Option Rt
  | 0, _, _, _, _, _, _, _ => none
  | n + 1, s, v1, v2, v3, v4, v5, v6 => S_X9_copy_120 (L_X9_copy_120 n) s v1 v2 v3 v4 v5 v6
set_option maxRecDepth 100000 in
set_option maxHeartbeats 4000000 in
theorem wS_X9_copy_120 {X : CX} {G : Ge} {Z : Rt} {rec120 : St → Int → Int → Int → Int → Int → Int → Option Rt} (hO : rr_OK X G cX9_copy 7 RX9 (some .int) 2 45) (hrec120 : ∀ (s : St) (v1 v2 v3 v4 v5 v6 : Int), rec120 s v1 v2 v3 v4 v5 v6 = some Z → rr_AT X G 7 1 Z 120 [(0, vr G 58), (1, vi v1), (2, vi v2), (3, vi v3), (4, vi v4), (5, vi v5), (6, vi v6)] [] s) (s : St) (v1 v2 v3 v4 v5 v6 : Int) (hf : S_X9_copy_120 rec120 s v1 v2 v3 v4 v5 v6 = some Z) : rr_AT X G 7 1 Z 120 [(0, vr G 58), (1, vi v1), (2, vi v2), (3, vi v3), (4, vi v4), (5, vi v5), (6, vi v6)] [] s := by
  unfold S_X9_copy_120 at hf
  refine at_iload hO 6 rfl dX9_copy_120 122 rfl ?_
  refine at_iload hO 5 rfl dX9_copy_122 124 rfl ?_
  obtain ⟨h1, hf⟩ := chk_some hf
  obtain ⟨h2, hf⟩ := chk_some hf
  refine at_icmp_ge hO h1 h2 dX9_copy_124 154 rfl 127 rfl hf (fun hf => ?_) (fun hf => ?_)
  · refine at_iconst hO dX9_copy_154 155 rfl ?_
    refine at_istore hO (lv' := [(6, vi 0), (0, vr G 58), (1, vi v1), (2, vi v2), (3, vi v3), (4, vi v4), (5, vi v5)]) (Nat.le_of_ble_eq_true rfl) rfl dX9_copy_155 157 rfl ?_
    exact at_sub (fun ls h => lv_sub h [1, 4, 5, 6, 0] rfl) (wL_X9_copy_157 hO FU s v3 v4 v5 0 hf)
  · refine at_aload_n hO 0 rfl rfl dX9_copy_127 128 rfl ?_
    refine at_getR hO fl_X9_19 rfl rfl dX9_copy_128 131 rfl ?_
    refine at_iload hO 6 rfl dX9_copy_131 133 rfl ?_
    refine at_aload_n hO 0 rfl rfl dX9_copy_133 134 rfl ?_
    refine at_getR hO fl_X9_16 rfl rfl dX9_copy_134 137 rfl ?_
    refine at_bipush hO (by decide) dX9_copy_137 139 rfl ?_
    refine at_iload_n hO 1 rfl rfl dX9_copy_139 140 rfl ?_
    refine at_imul hO dX9_copy_140 141 rfl ?_
    refine at_iload_n hO 2 rfl rfl dX9_copy_141 142 rfl ?_
    refine at_iadd hO dX9_copy_142 143 rfl ?_
    refine at_iload hO 6 rfl dX9_copy_143 145 rfl ?_
    refine at_iadd hO dX9_copy_145 146 rfl ?_
    obtain ⟨h3, hf⟩ := chk_some hf
    refine at_iaload hO rfl (Nat.le_of_ble_eq_true rfl) h3 ((((60 * v1) + v2) + v6).toNat) rfl dX9_copy_146 147 rfl ?_
    obtain ⟨h4, hf⟩ := chk_some hf
    refine at_iastore hO rfl (Nat.le_of_ble_eq_true rfl) h4 (v6.toNat) rfl dX9_copy_147 148 rfl ?_
    refine at_iinc hO (lv' := [(6, vi (v6 + 1)), (0, vr G 58), (1, vi v1), (2, vi v2), (3, vi v3), (4, vi v4), (5, vi v5)]) 6 rfl (Nat.le_of_ble_eq_true rfl) rfl dX9_copy_148 151 rfl ?_
    refine at_goto hO dX9_copy_151 120 rfl ?_
    exact at_sub (fun ls h => lv_sub h [1, 2, 3, 4, 5, 6, 0] rfl) (hrec120 (su s 62 v6.toNat (s 61 (((60 * v1) + v2) + v6).toNat)) v1 v2 v3 v4 v5 (v6 + 1) hf)
theorem wL_X9_copy_120 {X : CX} {G : Ge} {Z : Rt} (hO : rr_OK X G cX9_copy 7 RX9 (some .int) 2 45) : ∀ (n : Nat) (s : St) (v1 v2 v3 v4 v5 v6 : Int), L_X9_copy_120 n s v1 v2 v3 v4 v5 v6 = some Z → rr_AT X G 7 1 Z 120 [(0, vr G 58), (1, vi v1), (2, vi v2), (3, vi v3), (4, vi v4), (5, vi v5), (6, vi v6)] [] s := by
  intro n
  induction n with
  | zero =>
    intro s v1 v2 v3 v4 v5 v6 hf
    cases hf
  | succ n ih =>
    intro s v1 v2 v3 v4 v5 v6 hf
    exact wS_X9_copy_120 hO ih s v1 v2 v3 v4 v5 v6 hf
def f_X9_copy (s : St) (p1 p2 p3 p4 p5 : Int) : Option Rt := cll (f_X9_isSheet s p1) (fun r1 s2 => chk (in32 r1) ((if r1 = 0 then some ((-2), s2) else cll (f_X9_isSheet s2 p3) (fun r4 s5 => chk (in32 r4) ((if r4 = 0 then some ((-2), s5) else chk (ix p1 4) (chk (in32 (s5 59 p1.toNat)) ((if (s5 59 p1.toNat) < 0 then B_X9_copy_35 s5 else chk (ix p3 4) (chk (in32 (s5 59 p3.toNat)) ((if 0 ≤ (s5 59 p3.toNat) then (if (s5 59 p1.toNat) = (s5 59 p3.toNat) then chk (in32 p2) ((if p2 < 0 then B_X9_copy_111 s5 else chk (in32 p4) ((if p4 < 0 then B_X9_copy_111 s5 else chk (in32 p5) ((if p5 < 0 then B_X9_copy_111 s5 else chk (in32 (s5 60 p1.toNat)) (chk (in64 (p2 + p5)) ((if (s5 60 p1.toNat) < (p2 + p5) then B_X9_copy_111 s5 else chk (in32 (s5 60 p3.toNat)) (chk (in64 (p4 + p5)) ((if (p4 + p5) ≤ (s5 60 p3.toNat) then L_X9_copy_120 FU s5 p1 p2 p3 p4 p5 0 else B_X9_copy_111 s5)))))))))))) else cll (f_X9_met s5 4) (fun r18 s19 => some (r18, s19))) else B_X9_copy_35 s5))))))))))))
set_option maxRecDepth 100000 in
set_option maxHeartbeats 4000000 in
theorem c_X9_copy (l : Launch) (G : Ge) (hG : rr_GD G) (s : St) (p1 p2 p3 p4 p5 : Int) : rr_Ct l G yX9_copy cX9_copy 7 (some .int) 2 45 1 [vr G 58, vi p1, vi p2, vi p3, vi p4, vi p5] s (f_X9_copy s p1 p2 p3 p4 p5) := by
  refine rr_mk (lv := [(0, vr G 58), (1, vi p1), (2, vi p2), (3, vi p3), (4, vi p4), (5, vi p5)]) RX9 (by decide) rfl hG (Nat.le_of_ble_eq_true rfl) rfl ?_
  intro X Z hO hf
  unfold f_X9_copy at hf
  refine at_iload_n hO 1 rfl rfl dX9_copy_0 1 rfl ?_
  refine at_callS1 (As := [vi p1]) (st := []) hO (c_X9_isSheet _ G hO.g s p1) mb_X9_isSheet ms_X9_isSheet lk_X9_59 rfl ⟨(Nat.le_of_ble_eq_true rfl), (Nat.le_of_ble_eq_true rfl)⟩ (Nat.le_of_ble_eq_true rfl) rfl dX9_copy_1 4 rfl hf (fun r1 s2 hf => ?_)
  obtain ⟨h3, hf⟩ := chk_some hf
  refine at_if_eq hO h3 dX9_copy_4 14 rfl 7 rfl hf (fun hf => ?_) (fun hf => ?_)
  · refine at_bipush hO (by decide) dX9_copy_14 16 rfl ?_
    exact at_ireturn hO dX9_copy_16 hf
  · refine at_iload_n hO 3 rfl rfl dX9_copy_7 8 rfl ?_
    refine at_callS1 (As := [vi p3]) (st := []) hO (c_X9_isSheet _ G hO.g s2 p3) mb_X9_isSheet ms_X9_isSheet lk_X9_59 rfl ⟨(Nat.le_of_ble_eq_true rfl), (Nat.le_of_ble_eq_true rfl)⟩ (Nat.le_of_ble_eq_true rfl) rfl dX9_copy_8 11 rfl hf (fun r4 s5 hf => ?_)
    obtain ⟨h6, hf⟩ := chk_some hf
    refine at_if_ne hO h6 dX9_copy_11 17 rfl 14 rfl hf (fun hf => ?_) (fun hf => ?_)
    · refine at_aload_n hO 0 rfl rfl dX9_copy_17 18 rfl ?_
      refine at_getR hO fl_X9_7 rfl rfl dX9_copy_18 21 rfl ?_
      refine at_iload_n hO 1 rfl rfl dX9_copy_21 22 rfl ?_
      obtain ⟨h7, hf⟩ := chk_some hf
      refine at_iaload hO rfl (Nat.le_of_ble_eq_true rfl) h7 (p1.toNat) rfl dX9_copy_22 23 rfl ?_
      obtain ⟨h8, hf⟩ := chk_some hf
      refine at_if_lt hO h8 dX9_copy_23 35 rfl 26 rfl hf (fun hf => ?_) (fun hf => ?_)
      · exact at_sub (fun ls h => lv_sub h [0] rfl) (wB_X9_copy_35 hO s5 hf)
      · refine at_aload_n hO 0 rfl rfl dX9_copy_26 27 rfl ?_
        refine at_getR hO fl_X9_7 rfl rfl dX9_copy_27 30 rfl ?_
        refine at_iload_n hO 3 rfl rfl dX9_copy_30 31 rfl ?_
        obtain ⟨h9, hf⟩ := chk_some hf
        refine at_iaload hO rfl (Nat.le_of_ble_eq_true rfl) h9 (p3.toNat) rfl dX9_copy_31 32 rfl ?_
        obtain ⟨h10, hf⟩ := chk_some hf
        refine at_if_ge hO h10 dX9_copy_32 41 rfl 35 rfl hf (fun hf => ?_) (fun hf => ?_)
        · refine at_aload_n hO 0 rfl rfl dX9_copy_41 42 rfl ?_
          refine at_getR hO fl_X9_7 rfl rfl dX9_copy_42 45 rfl ?_
          refine at_iload_n hO 1 rfl rfl dX9_copy_45 46 rfl ?_
          refine at_iaload hO rfl (Nat.le_of_ble_eq_true rfl) h7 (p1.toNat) rfl dX9_copy_46 47 rfl ?_
          refine at_aload_n hO 0 rfl rfl dX9_copy_47 48 rfl ?_
          refine at_getR hO fl_X9_7 rfl rfl dX9_copy_48 51 rfl ?_
          refine at_iload_n hO 3 rfl rfl dX9_copy_51 52 rfl ?_
          refine at_iaload hO rfl (Nat.le_of_ble_eq_true rfl) h9 (p3.toNat) rfl dX9_copy_52 53 rfl ?_
          refine at_icmp_eq hO h8 h10 dX9_copy_53 62 rfl 56 rfl hf (fun hf => ?_) (fun hf => ?_)
          · refine at_iload_n hO 2 rfl rfl dX9_copy_62 63 rfl ?_
            obtain ⟨h11, hf⟩ := chk_some hf
            refine at_if_lt hO h11 dX9_copy_63 111 rfl 66 rfl hf (fun hf => ?_) (fun hf => ?_)
            · exact at_sub (fun ls h => lv_sub h [0] rfl) (wB_X9_copy_111 hO s5 hf)
            · refine at_iload hO 4 rfl dX9_copy_66 68 rfl ?_
              obtain ⟨h12, hf⟩ := chk_some hf
              refine at_if_lt hO h12 dX9_copy_68 111 rfl 71 rfl hf (fun hf => ?_) (fun hf => ?_)
              · exact at_sub (fun ls h => lv_sub h [0] rfl) (wB_X9_copy_111 hO s5 hf)
              · refine at_iload hO 5 rfl dX9_copy_71 73 rfl ?_
                obtain ⟨h13, hf⟩ := chk_some hf
                refine at_if_lt hO h13 dX9_copy_73 111 rfl 76 rfl hf (fun hf => ?_) (fun hf => ?_)
                · exact at_sub (fun ls h => lv_sub h [0] rfl) (wB_X9_copy_111 hO s5 hf)
                · refine at_iload_n hO 2 rfl rfl dX9_copy_76 77 rfl ?_
                  refine at_i2l hO h11 dX9_copy_77 78 rfl ?_
                  refine at_iload hO 5 rfl dX9_copy_78 80 rfl ?_
                  refine at_i2l hO h13 dX9_copy_80 81 rfl ?_
                  refine at_ladd hO dX9_copy_81 82 rfl ?_
                  refine at_aload_n hO 0 rfl rfl dX9_copy_82 83 rfl ?_
                  refine at_getR hO fl_X9_13 rfl rfl dX9_copy_83 86 rfl ?_
                  refine at_iload_n hO 1 rfl rfl dX9_copy_86 87 rfl ?_
                  refine at_iaload hO rfl (Nat.le_of_ble_eq_true rfl) h7 (p1.toNat) rfl dX9_copy_87 88 rfl ?_
                  obtain ⟨h14, hf⟩ := chk_some hf
                  refine at_i2l hO h14 dX9_copy_88 89 rfl ?_
                  obtain ⟨h15, hf⟩ := chk_some hf
                  refine at_lcmp_gt hO h15 (rr_64 h14) dX9_copy_89 dX9_copy_90 111 rfl 93 rfl hf (fun hf => ?_) (fun hf => ?_)
                  · exact at_sub (fun ls h => lv_sub h [0] rfl) (wB_X9_copy_111 hO s5 hf)
                  · refine at_iload hO 4 rfl dX9_copy_93 95 rfl ?_
                    refine at_i2l hO h12 dX9_copy_95 96 rfl ?_
                    refine at_iload hO 5 rfl dX9_copy_96 98 rfl ?_
                    refine at_i2l hO h13 dX9_copy_98 99 rfl ?_
                    refine at_ladd hO dX9_copy_99 100 rfl ?_
                    refine at_aload_n hO 0 rfl rfl dX9_copy_100 101 rfl ?_
                    refine at_getR hO fl_X9_13 rfl rfl dX9_copy_101 104 rfl ?_
                    refine at_iload_n hO 3 rfl rfl dX9_copy_104 105 rfl ?_
                    refine at_iaload hO rfl (Nat.le_of_ble_eq_true rfl) h9 (p3.toNat) rfl dX9_copy_105 106 rfl ?_
                    obtain ⟨h16, hf⟩ := chk_some hf
                    refine at_i2l hO h16 dX9_copy_106 107 rfl ?_
                    obtain ⟨h17, hf⟩ := chk_some hf
                    refine at_lcmp_le hO h17 (rr_64 h16) dX9_copy_107 dX9_copy_108 117 rfl 111 rfl hf (fun hf => ?_) (fun hf => ?_)
                    · refine at_iconst hO dX9_copy_117 118 rfl ?_
                      refine at_istore hO (lv' := [(6, vi 0), (0, vr G 58), (1, vi p1), (2, vi p2), (3, vi p3), (4, vi p4), (5, vi p5)]) (Nat.le_of_ble_eq_true rfl) rfl dX9_copy_118 120 rfl ?_
                      exact at_sub (fun ls h => lv_sub h [1, 2, 3, 4, 5, 6, 0] rfl) (wL_X9_copy_120 hO FU s5 p1 p2 p3 p4 p5 0 hf)
                    · exact at_sub (fun ls h => lv_sub h [0] rfl) (wB_X9_copy_111 hO s5 hf)
          · refine at_aload_n hO 0 rfl rfl dX9_copy_56 57 rfl ?_
            refine at_iconst hO dX9_copy_57 58 rfl ?_
            refine at_callV1 (As := [vi 4]) (st := []) hO (c_X9_met _ G hO.g s5 4) mb_X9_met mi_X9_met lk_X9_65 rfl ⟨_, rfl, rfl⟩ rfl ⟨(Nat.le_of_ble_eq_true rfl), (Nat.le_of_ble_eq_true rfl)⟩ (Nat.le_of_ble_eq_true rfl) rfl dX9_copy_58 61 rfl hf (fun r18 s19 hf => ?_)
            exact at_ireturn hO dX9_copy_61 hf
        · exact at_sub (fun ls h => lv_sub h [0] rfl) (wB_X9_copy_35 hO s5 hf)
    · refine at_bipush hO (by decide) dX9_copy_14 16 rfl ?_
      exact at_ireturn hO dX9_copy_16 hf

def f_X9_isText (s : St) (p1 : Int) : Option Rt := chk (in32 p1) (cll (f_X9_in s p1 0 3) (fun r2 s3 => chk (r2 = 0 ∨ r2 = 1) (some (r2, s3))))
set_option maxRecDepth 100000 in
set_option maxHeartbeats 4000000 in
theorem c_X9_isText (l : Launch) (G : Ge) (hG : rr_GD G) (s : St) (p1 : Int) : rr_Ct l G yX9_isText cX9_isText 1 (some .boolean) 1 25 1 [vi p1] s (f_X9_isText s p1) := by
  refine rr_mk (lv := [(0, vi p1)]) RX9 (by decide) rfl hG (Nat.le_of_ble_eq_true rfl) rfl ?_
  intro X Z hO hf
  unfold f_X9_isText at hf
  refine at_iload_n hO 0 rfl rfl dX9_isText_0 1 rfl ?_
  obtain ⟨h1, hf⟩ := chk_some hf
  refine at_i2l hO h1 dX9_isText_1 2 rfl ?_
  refine at_lconst (n := 0) hO (by decide) dX9_isText_2 3 rfl ?_
  refine at_ldc2_w (n := 3) hO lc_X9_57 (by decide) dX9_isText_3 6 rfl ?_
  refine at_callS1 (As := [vl p1, vl 0, vl 3]) (st := []) hO (c_X9_in _ G hO.g s p1 0 3) mb_X9_in ms_X9_in lk_X9_49 rfl ⟨(Nat.le_of_ble_eq_true rfl), (Nat.le_of_ble_eq_true rfl)⟩ (Nat.le_of_ble_eq_true rfl) rfl dX9_isText_6 9 rfl hf (fun r2 s3 hf => ?_)
  obtain ⟨h4, hf⟩ := chk_some hf
  exact at_zreturn hO h4 dX9_isText_9 hf

def f_X9_isSpring (s : St) (p1 : Int) : Option Rt := chk (in32 p1) (cll (f_X9_in s p1 0 2) (fun r2 s3 => chk (r2 = 0 ∨ r2 = 1) (some (r2, s3))))
set_option maxRecDepth 100000 in
set_option maxHeartbeats 4000000 in
theorem c_X9_isSpring (l : Launch) (G : Ge) (hG : rr_GD G) (s : St) (p1 : Int) : rr_Ct l G yX9_isSpring cX9_isSpring 1 (some .boolean) 1 25 1 [vi p1] s (f_X9_isSpring s p1) := by
  refine rr_mk (lv := [(0, vi p1)]) RX9 (by decide) rfl hG (Nat.le_of_ble_eq_true rfl) rfl ?_
  intro X Z hO hf
  unfold f_X9_isSpring at hf
  refine at_iload_n hO 0 rfl rfl dX9_isSpring_0 1 rfl ?_
  obtain ⟨h1, hf⟩ := chk_some hf
  refine at_i2l hO h1 dX9_isSpring_1 2 rfl ?_
  refine at_lconst (n := 0) hO (by decide) dX9_isSpring_2 3 rfl ?_
  refine at_ldc2_w (n := 2) hO lc_X9_63 (by decide) dX9_isSpring_3 6 rfl ?_
  refine at_callS1 (As := [vl p1, vl 0, vl 2]) (st := []) hO (c_X9_in _ G hO.g s p1 0 2) mb_X9_in ms_X9_in lk_X9_49 rfl ⟨(Nat.le_of_ble_eq_true rfl), (Nat.le_of_ble_eq_true rfl)⟩ (Nat.le_of_ble_eq_true rfl) rfl dX9_isSpring_6 9 rfl hf (fun r2 s3 hf => ?_)
  obtain ⟨h4, hf⟩ := chk_some hf
  exact at_zreturn hO h4 dX9_isSpring_9 hf

def f_X9_isDay (s : St) (p1 : Int) : Option Rt := chk (in32 p1) (cll (f_X9_in s p1 0 29) (fun r2 s3 => chk (r2 = 0 ∨ r2 = 1) (some (r2, s3))))
set_option maxRecDepth 100000 in
set_option maxHeartbeats 4000000 in
theorem c_X9_isDay (l : Launch) (G : Ge) (hG : rr_GD G) (s : St) (p1 : Int) : rr_Ct l G yX9_isDay cX9_isDay 1 (some .boolean) 1 25 1 [vi p1] s (f_X9_isDay s p1) := by
  refine rr_mk (lv := [(0, vi p1)]) RX9 (by decide) rfl hG (Nat.le_of_ble_eq_true rfl) rfl ?_
  intro X Z hO hf
  unfold f_X9_isDay at hf
  refine at_iload_n hO 0 rfl rfl dX9_isDay_0 1 rfl ?_
  obtain ⟨h1, hf⟩ := chk_some hf
  refine at_i2l hO h1 dX9_isDay_1 2 rfl ?_
  refine at_lconst (n := 0) hO (by decide) dX9_isDay_2 3 rfl ?_
  refine at_ldc2_w (n := 29) hO lc_X9_78 (by decide) dX9_isDay_3 6 rfl ?_
  refine at_callS1 (As := [vl p1, vl 0, vl 29]) (st := []) hO (c_X9_in _ G hO.g s p1 0 29) mb_X9_in ms_X9_in lk_X9_49 rfl ⟨(Nat.le_of_ble_eq_true rfl), (Nat.le_of_ble_eq_true rfl)⟩ (Nat.le_of_ble_eq_true rfl) rfl dX9_isDay_6 9 rfl hf (fun r2 s3 hf => ?_)
  obtain ⟨h4, hf⟩ := chk_some hf
  exact at_zreturn hO h4 dX9_isDay_9 hf

def B_X9_type_40 (s : St) (v1 v2 t0 t1 : Int) : Option Rt := chk (in32 t1) (chk (in32 t0) ((if t1 = t0 then some ((-4), s) else chk (ix v1 4) (chk (ix ((30 * v1) + (s 64 v1.toNat)) 120) (some (((su (su s 63 ((30 * v1) + (s 64 v1.toNat)).toNat v2) 64 v1.toNat (((su s 63 ((30 * v1) + (s 64 v1.toNat)).toNat v2) 64 v1.toNat) + 1)) 64 v1.toNat), (su (su s 63 ((30 * v1) + (s 64 v1.toNat)).toNat v2) 64 v1.toNat (((su s 63 ((30 * v1) + (s 64 v1.toNat)).toNat v2) 64 v1.toNat) + 1))))))))
set_option maxRecDepth 100000 in
set_option maxHeartbeats 4000000 in
theorem wB_X9_type_40 {X : CX} {G : Ge} {Z : Rt} (hO : rr_OK X G cX9_type 3 RX9 (some .int) 2 45) (s : St) (v1 v2 t0 t1 : Int) (hf : B_X9_type_40 s v1 v2 t0 t1 = some Z) : rr_AT X G 3 1 Z 40 [(0, vr G 58), (1, vi v1), (2, vi v2)] [vi t0, vi t1] s := by
  unfold B_X9_type_40 at hf
  obtain ⟨h1, hf⟩ := chk_some hf
  obtain ⟨h2, hf⟩ := chk_some hf
  refine at_icmp_ne hO h1 h2 dX9_type_40 46 rfl 43 rfl hf (fun hf => ?_) (fun hf => ?_)
  · refine at_aload_n hO 0 rfl rfl dX9_type_46 47 rfl ?_
    refine at_getR hO fl_X9_22 rfl rfl dX9_type_47 50 rfl ?_
    refine at_bipush hO (by decide) dX9_type_50 52 rfl ?_
    refine at_iload_n hO 1 rfl rfl dX9_type_52 53 rfl ?_
    refine at_imul hO dX9_type_53 54 rfl ?_
    refine at_aload_n hO 0 rfl rfl dX9_type_54 55 rfl ?_
    refine at_getR hO fl_X9_25 rfl rfl dX9_type_55 58 rfl ?_
    refine at_iload_n hO 1 rfl rfl dX9_type_58 59 rfl ?_
    obtain ⟨h3, hf⟩ := chk_some hf
    refine at_iaload hO rfl (Nat.le_of_ble_eq_true rfl) h3 (v1.toNat) rfl dX9_type_59 60 rfl ?_
    refine at_iadd hO dX9_type_60 61 rfl ?_
    refine at_iload_n hO 2 rfl rfl dX9_type_61 62 rfl ?_
    obtain ⟨h4, hf⟩ := chk_some hf
    refine at_iastore hO rfl (Nat.le_of_ble_eq_true rfl) h4 (((30 * v1) + (s 64 v1.toNat)).toNat) rfl dX9_type_62 63 rfl ?_
    refine at_aload_n hO 0 rfl rfl dX9_type_63 64 rfl ?_
    refine at_getR hO fl_X9_25 rfl rfl dX9_type_64 67 rfl ?_
    refine at_iload_n hO 1 rfl rfl dX9_type_67 68 rfl ?_
    refine at_dup2 hO rfl rfl dX9_type_68 69 rfl ?_
    refine at_iaload hO rfl (Nat.le_of_ble_eq_true rfl) h3 (v1.toNat) rfl dX9_type_69 70 rfl ?_
    refine at_iconst hO dX9_type_70 71 rfl ?_
    refine at_iadd hO dX9_type_71 72 rfl ?_
    refine at_iastore hO rfl (Nat.le_of_ble_eq_true rfl) h3 (v1.toNat) rfl dX9_type_72 73 rfl ?_
    refine at_aload_n hO 0 rfl rfl dX9_type_73 74 rfl ?_
    refine at_getR hO fl_X9_25 rfl rfl dX9_type_74 77 rfl ?_
    refine at_iload_n hO 1 rfl rfl dX9_type_77 78 rfl ?_
    refine at_iaload hO rfl (Nat.le_of_ble_eq_true rfl) h3 (v1.toNat) rfl dX9_type_78 79 rfl ?_
    exact at_ireturn hO dX9_type_79 hf
  · refine at_bipush hO (by decide) dX9_type_43 45 rfl ?_
    exact at_ireturn hO dX9_type_45 hf
def f_X9_type (s : St) (p1 p2 : Int) : Option Rt := cll (f_X9_isText s p1) (fun r1 s2 => chk (in32 r1) ((if r1 = 0 then some ((-2), s2) else chk (in32 p2) (cll (f_X9_in s2 p2 0 255) (fun r5 s6 => chk (in32 r5) ((if r5 = 0 then some ((-2), s6) else chk (ix p1 4) (chk (in32 p1) ((if p1 = 3 then B_X9_type_40 s6 p1 p2 12 (s6 64 p1.toNat) else B_X9_type_40 s6 p1 p2 30 (s6 64 p1.toNat)))))))))))
set_option maxRecDepth 100000 in
set_option maxHeartbeats 4000000 in
theorem c_X9_type (l : Launch) (G : Ge) (hG : rr_GD G) (s : St) (p1 p2 : Int) : rr_Ct l G yX9_type cX9_type 3 (some .int) 2 45 1 [vr G 58, vi p1, vi p2] s (f_X9_type s p1 p2) := by
  refine rr_mk (lv := [(0, vr G 58), (1, vi p1), (2, vi p2)]) RX9 (by decide) rfl hG (Nat.le_of_ble_eq_true rfl) rfl ?_
  intro X Z hO hf
  unfold f_X9_type at hf
  refine at_iload_n hO 1 rfl rfl dX9_type_0 1 rfl ?_
  refine at_callS1 (As := [vi p1]) (st := []) hO (c_X9_isText _ G hO.g s p1) mb_X9_isText ms_X9_isText lk_X9_80 rfl ⟨(Nat.le_of_ble_eq_true rfl), (Nat.le_of_ble_eq_true rfl)⟩ (Nat.le_of_ble_eq_true rfl) rfl dX9_type_1 4 rfl hf (fun r1 s2 hf => ?_)
  obtain ⟨h3, hf⟩ := chk_some hf
  refine at_if_eq hO h3 dX9_type_4 19 rfl 7 rfl hf (fun hf => ?_) (fun hf => ?_)
  · refine at_bipush hO (by decide) dX9_type_19 21 rfl ?_
    exact at_ireturn hO dX9_type_21 hf
  · refine at_iload_n hO 2 rfl rfl dX9_type_7 8 rfl ?_
    obtain ⟨h4, hf⟩ := chk_some hf
    refine at_i2l hO h4 dX9_type_8 9 rfl ?_
    refine at_lconst (n := 0) hO (by decide) dX9_type_9 10 rfl ?_
    refine at_ldc2_w (n := 255) hO lc_X9_83 (by decide) dX9_type_10 13 rfl ?_
    refine at_callS1 (As := [vl p2, vl 0, vl 255]) (st := []) hO (c_X9_in _ G hO.g s2 p2 0 255) mb_X9_in ms_X9_in lk_X9_49 rfl ⟨(Nat.le_of_ble_eq_true rfl), (Nat.le_of_ble_eq_true rfl)⟩ (Nat.le_of_ble_eq_true rfl) rfl dX9_type_13 16 rfl hf (fun r5 s6 hf => ?_)
    obtain ⟨h7, hf⟩ := chk_some hf
    refine at_if_ne hO h7 dX9_type_16 22 rfl 19 rfl hf (fun hf => ?_) (fun hf => ?_)
    · refine at_aload_n hO 0 rfl rfl dX9_type_22 23 rfl ?_
      refine at_getR hO fl_X9_25 rfl rfl dX9_type_23 26 rfl ?_
      refine at_iload_n hO 1 rfl rfl dX9_type_26 27 rfl ?_
      obtain ⟨h8, hf⟩ := chk_some hf
      refine at_iaload hO rfl (Nat.le_of_ble_eq_true rfl) h8 (p1.toNat) rfl dX9_type_27 28 rfl ?_
      refine at_iload_n hO 1 rfl rfl dX9_type_28 29 rfl ?_
      refine at_iconst hO dX9_type_29 30 rfl ?_
      obtain ⟨h9, hf⟩ := chk_some hf
      refine at_icmp_ne hO h9 (by decide) dX9_type_30 38 rfl 33 rfl hf (fun hf => ?_) (fun hf => ?_)
      · refine at_bipush hO (by decide) dX9_type_38 40 rfl ?_
        exact at_sub (fun ls h => lv_sub h [0, 1, 2] rfl) (wB_X9_type_40 hO s6 p1 p2 30 (s6 64 p1.toNat) hf)
      · refine at_bipush hO (by decide) dX9_type_33 35 rfl ?_
        refine at_goto hO dX9_type_35 40 rfl ?_
        exact at_sub (fun ls h => lv_sub h [0, 1, 2] rfl) (wB_X9_type_40 hO s6 p1 p2 12 (s6 64 p1.toNat) hf)
    · refine at_bipush hO (by decide) dX9_type_19 21 rfl ?_
      exact at_ireturn hO dX9_type_21 hf

def f_X9_undo (s : St) (p1 : Int) : Option Rt := cll (f_X9_isText s p1) (fun r1 s2 => chk (in32 r1) ((if r1 = 0 then some ((-2), s2) else chk (ix p1 4) (chk (in32 (s2 64 p1.toNat)) ((if (s2 64 p1.toNat) = 0 then some ((-3), s2) else some (((su s2 64 p1.toNat ((s2 64 p1.toNat) - 1)) 64 p1.toNat), (su s2 64 p1.toNat ((s2 64 p1.toNat) - 1)))))))))
set_option maxRecDepth 100000 in
set_option maxHeartbeats 4000000 in
theorem c_X9_undo (l : Launch) (G : Ge) (hG : rr_GD G) (s : St) (p1 : Int) : rr_Ct l G yX9_undo cX9_undo 2 (some .int) 2 45 1 [vr G 58, vi p1] s (f_X9_undo s p1) := by
  refine rr_mk (lv := [(0, vr G 58), (1, vi p1)]) RX9 (by decide) rfl hG (Nat.le_of_ble_eq_true rfl) rfl ?_
  intro X Z hO hf
  unfold f_X9_undo at hf
  refine at_iload_n hO 1 rfl rfl dX9_undo_0 1 rfl ?_
  refine at_callS1 (As := [vi p1]) (st := []) hO (c_X9_isText _ G hO.g s p1) mb_X9_isText ms_X9_isText lk_X9_80 rfl ⟨(Nat.le_of_ble_eq_true rfl), (Nat.le_of_ble_eq_true rfl)⟩ (Nat.le_of_ble_eq_true rfl) rfl dX9_undo_1 4 rfl hf (fun r1 s2 hf => ?_)
  obtain ⟨h3, hf⟩ := chk_some hf
  refine at_if_ne hO h3 dX9_undo_4 10 rfl 7 rfl hf (fun hf => ?_) (fun hf => ?_)
  · refine at_aload_n hO 0 rfl rfl dX9_undo_10 11 rfl ?_
    refine at_getR hO fl_X9_25 rfl rfl dX9_undo_11 14 rfl ?_
    refine at_iload_n hO 1 rfl rfl dX9_undo_14 15 rfl ?_
    obtain ⟨h4, hf⟩ := chk_some hf
    refine at_iaload hO rfl (Nat.le_of_ble_eq_true rfl) h4 (p1.toNat) rfl dX9_undo_15 16 rfl ?_
    obtain ⟨h5, hf⟩ := chk_some hf
    refine at_if_ne hO h5 dX9_undo_16 22 rfl 19 rfl hf (fun hf => ?_) (fun hf => ?_)
    · refine at_aload_n hO 0 rfl rfl dX9_undo_22 23 rfl ?_
      refine at_getR hO fl_X9_25 rfl rfl dX9_undo_23 26 rfl ?_
      refine at_iload_n hO 1 rfl rfl dX9_undo_26 27 rfl ?_
      refine at_dup2 hO rfl rfl dX9_undo_27 28 rfl ?_
      refine at_iaload hO rfl (Nat.le_of_ble_eq_true rfl) h4 (p1.toNat) rfl dX9_undo_28 29 rfl ?_
      refine at_iconst hO dX9_undo_29 30 rfl ?_
      refine at_isub hO dX9_undo_30 31 rfl ?_
      refine at_iastore hO rfl (Nat.le_of_ble_eq_true rfl) h4 (p1.toNat) rfl dX9_undo_31 32 rfl ?_
      refine at_aload_n hO 0 rfl rfl dX9_undo_32 33 rfl ?_
      refine at_getR hO fl_X9_25 rfl rfl dX9_undo_33 36 rfl ?_
      refine at_iload_n hO 1 rfl rfl dX9_undo_36 37 rfl ?_
      refine at_iaload hO rfl (Nat.le_of_ble_eq_true rfl) h4 (p1.toNat) rfl dX9_undo_37 38 rfl ?_
      exact at_ireturn hO dX9_undo_38 hf
    · refine at_bipush hO (by decide) dX9_undo_19 21 rfl ?_
      exact at_ireturn hO dX9_undo_21 hf
  · refine at_bipush hO (by decide) dX9_undo_7 9 rfl ?_
    exact at_ireturn hO dX9_undo_9 hf
