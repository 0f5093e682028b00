def S_X9_weight_5 (rec5 : St → Int → Int → Int → Option Rt) (s : St) (v1 v2 v4 : Int) : Option Rt := chk (in32 v4) ((if 3 ≤ v4 then some (v2, s) else cll (f_X9_isIn s v1 v4) (fun r2 s3 => chk (in32 r2) ((if r2 = 0 then rec5 s3 v1 (v2 + 0) (v4 + 1) else chk (ix v4 3) (chk (in32 (s3 66 v4.toNat)) (rec5 s3 v1 (v2 + (s3 66 v4.toNat)) (v4 + 1))))))))
def L_X9_weight_5 : Nat → St → Int → Int → Int → Option Rt
  | 0, _, _, _, _ => none
  | n + 1, s, v1, v2, v4 => S_X9_weight_5 (L_X9_weight_5 n) s v1 v2 v4
set_option maxRecDepth 100000 in
set_option maxHeartbeats 4000000 in
theorem wS_X9_weight_5 {X : CX} {G : Ge} {Z : Rt} {rec5 : St → Int → Int → Int → Option Rt} (hO : rr_OK X G cX9_weight 5 RX9 (some .long) 1 21) (hrec5 : ∀ (s : St) (v1 v2 v4 : Int), rec5 s v1 v2 v4 = some Z → rr_AT X G 5 2 Z 5 [(0, vr G 58), (1, vi v1), (2, vl v2), (4, vi v4)] [] s) (s : St) (v1 v2 v4 : Int) (hf : S_X9_weight_5 rec5 s v1 v2 v4 = some Z) : rr_AT X G 5 2 Z 5 [(0, vr G 58), (1, vi v1), (2, vl v2), (4, vi v4)] [] s := by
  unfold S_X9_weight_5 at hf
  refine at_iload hO 3 rfl dX9_weight_5 7 rfl ?_
  refine at_iconst hO dX9_weight_7 8 rfl ?_
  obtain ⟨h1, hf⟩ := chk_some hf
  refine at_icmp_ge hO h1 (by decide) dX9_weight_8 41 rfl 11 rfl hf (fun hf => ?_) (fun hf => ?_)
  · refine at_lload_n hO 2 rfl rfl dX9_weight_41 42 rfl ?_
    exact at_lreturn hO dX9_weight_42 hf
  · refine at_lload_n hO 2 rfl rfl dX9_weight_11 12 rfl ?_
    refine at_iload_n hO 1 rfl rfl dX9_weight_12 13 rfl ?_
    refine at_iload hO 3 rfl dX9_weight_13 15 rfl ?_
    refine at_callS1 (As := [vi v1, vi v4]) (st := [vl v2]) hO (c_X9_isIn _ G hO.g s v1 v4) mb_X9_isIn ms_X9_isIn lk_X9_139 rfl ⟨(Nat.le_of_ble_eq_true rfl), (Nat.le_of_ble_eq_true rfl)⟩ (Nat.le_of_ble_eq_true rfl) rfl dX9_weight_15 18 rfl hf (fun r2 s3 hf => ?_)
    obtain ⟨h4, hf⟩ := chk_some hf
    refine at_if_eq hO h4 dX9_weight_18 32 rfl 21 rfl hf (fun hf => ?_) (fun hf => ?_)
    · refine at_lconst (n := 0) hO (by decide) dX9_weight_32 33 rfl ?_
      refine at_ladd hO dX9_weight_33 34 rfl ?_
      refine at_lstore_n hO (lv' := [(2, vl (v2 + 0)), (0, vr G 58), (1, vi v1), (4, vi v4)]) rfl (Nat.le_of_ble_eq_true rfl) rfl dX9_weight_34 35 rfl ?_
      refine at_iinc hO (lv' := [(4, vi (v4 + 1)), (2, vl (v2 + 0)), (0, vr G 58), (1, vi v1)]) 3 rfl (Nat.le_of_ble_eq_true rfl) rfl dX9_weight_35 38 rfl ?_
      refine at_goto hO dX9_weight_38 5 rfl ?_
      exact at_sub (fun ls h => lv_sub h [2, 3, 1, 0] rfl) (hrec5 s3 v1 (v2 + 0) (v4 + 1) hf)
    · refine at_aload_n hO 0 rfl rfl dX9_weight_21 22 rfl ?_
      refine at_getR hO fl_X9_31 rfl rfl dX9_weight_22 25 rfl ?_
      refine at_iload hO 3 rfl dX9_weight_25 27 rfl ?_
      obtain ⟨h5, hf⟩ := chk_some hf
      refine at_iaload hO rfl (Nat.le_of_ble_eq_true rfl) h5 (v4.toNat) rfl dX9_weight_27 28 rfl ?_
      obtain ⟨h6, hf⟩ := chk_some hf
      refine at_i2l hO h6 dX9_weight_28 29 rfl ?_
      refine at_goto hO dX9_weight_29 33 rfl ?_
      refine at_ladd hO dX9_weight_33 34 rfl ?_
      refine at_lstore_n hO (lv' := [(2, vl (v2 + (s3 66 v4.toNat))), (0, vr G 58), (1, vi v1), (4, vi v4)]) rfl (Nat.le_of_ble_eq_true rfl) rfl dX9_weight_34 35 rfl ?_
      refine at_iinc hO (lv' := [(4, vi (v4 + 1)), (2, vl (v2 + (s3 66 v4.toNat))), (0, vr G 58), (1, vi v1)]) 3 rfl (Nat.le_of_ble_eq_true rfl) rfl dX9_weight_35 38 rfl ?_
      refine at_goto hO dX9_weight_38 5 rfl ?_
      exact at_sub (fun ls h => lv_sub h [2, 3, 1, 0] rfl) (hrec5 s3 v1 (v2 + (s3 66 v4.toNat)) (v4 + 1) hf)
theorem wL_X9_weight_5 {X : CX} {G : Ge} {Z : Rt} (hO : rr_OK X G cX9_weight 5 RX9 (some .long) 1 21) : ∀ (n : Nat) (s : St) (v1 v2 v4 : Int), L_X9_weight_5 n s v1 v2 v4 = some Z → rr_AT X G 5 2 Z 5 [(0, vr G 58), (1, vi v1), (2, vl v2), (4, vi v4)] [] s := by
  intro n
  induction n with
  | zero =>
    intro s v1 v2 v4 hf
    cases hf
  | succ n ih =>
    intro s v1 v2 v4 hf
    exact wS_X9_weight_5 hO ih s v1 v2 v4 hf
def f_X9_weight (s : St) (p1 : Int) : Option Rt := L_X9_weight_5 FU s p1 0 0
set_option maxRecDepth 100000 in
set_option maxHeartbeats 4000000 in
theorem c_X9_weight (l : Launch) (G : Ge) (hG : rr_GD G) (s : St) (p1 : Int) : rr_Ct l G yX9_weight cX9_weight 5 (some .long) 1 21 2 [vr G 58, vi p1] s (f_X9_weight s p1) := by
  refine rr_mk (lv := [(0, vr G 58), (1, vi p1)]) RX9 (by decide) rfl hG (Nat.le_of_ble_eq_true rfl) rfl ?_
  intro X Z hO hf
  unfold f_X9_weight at hf
  refine at_lconst (n := 0) hO (by decide) dX9_weight_0 1 rfl ?_
  refine at_lstore_n hO (lv' := [(2, vl 0), (0, vr G 58), (1, vi p1)]) rfl (Nat.le_of_ble_eq_true rfl) rfl dX9_weight_1 2 rfl ?_
  refine at_iconst hO dX9_weight_2 3 rfl ?_
  refine at_istore hO (lv' := [(4, vi 0), (2, vl 0), (0, vr G 58), (1, vi p1)]) (Nat.le_of_ble_eq_true rfl) rfl dX9_weight_3 5 rfl ?_
  exact at_sub (fun ls h => lv_sub h [2, 3, 1, 0] rfl) (wL_X9_weight_5 hO FU s p1 0 0 hf)

def S_X9_waitingFor_21 (rec21 : St → Int → Int → Int → Int → Int → Option Rt) (s : St) (v1 v2 v3 v5 v6 : Int) : Option Rt := chk (in32 v6) ((if 3 ≤ v6 then some (v3, s) else cll (f_X9_isIn s v1 v6) (fun r2 s3 => chk (in32 r2) ((if r2 = 0 then rec21 s3 v1 v2 v3 v5 (v6 + 1) else cll (f_X9_isIn s3 v5 v6) (fun r5 s6 => chk (in32 r5) ((if r5 = 0 then chk (ix ((3 * (v2 + 1)) + v6) 93) (cll (f_X9_alike s6 v6 (v2 + 1)) (fun r9 s10 => rec21 s10 v1 v2 (v3 + (s6 68 ((3 * (v2 + 1)) + v6).toNat)) (orZ v5 r9) (v6 + 1))) else rec21 s6 v1 v2 v3 v5 (v6 + 1)))))))))
def L_X9_waitingFor_21 : Nat → St → Int → Int → Int → Int → Int → Option Rt
  | 0, _, _, _, _, _, _ => none
  | n + 1, s, v1, v2, v3, v5, v6 => S_X9_waitingFor_21 (L_X9_waitingFor_21 n) s v1 v2 v3 v5 v6
set_option maxRecDepth 100000 in
set_option maxHeartbeats 4000000 in
theorem wS_X9_waitingFor_21 {X : CX} {G : Ge} {Z : Rt} {rec21 : St → Int → Int → Int → Int → Int → Option Rt} (hO : rr_OK X G cX9_waitingFor 7 RX9 (some .long) 5 116) (hrec21 : ∀ (s : St) (v1 v2 v3 v5 v6 : Int), rec21 s v1 v2 v3 v5 v6 = some Z → rr_AT X G 7 2 Z 21 [(0, vr G 58), (1, vi v1), (2, vi v2), (3, vl v3), (5, vi v5), (6, vi v6)] [] s) (s : St) (v1 v2 v3 v5 v6 : Int) (hf : S_X9_waitingFor_21 rec21 s v1 v2 v3 v5 v6 = some Z) : rr_AT X G 7 2 Z 21 [(0, vr G 58), (1, vi v1), (2, vi v2), (3, vl v3), (5, vi v5), (6, vi v6)] [] s := by
  unfold S_X9_waitingFor_21 at hf
  refine at_iload hO 5 rfl dX9_waitingFor_21 23 rfl ?_
  refine at_iconst hO dX9_waitingFor_23 24 rfl ?_
  obtain ⟨h1, hf⟩ := chk_some hf
  refine at_icmp_ge hO h1 (by decide) dX9_waitingFor_24 82 rfl 27 rfl hf (fun hf => ?_) (fun hf => ?_)
  · refine at_lload_n hO 3 rfl rfl dX9_waitingFor_82 83 rfl ?_
    exact at_lreturn hO dX9_waitingFor_83 hf
  · refine at_iload_n hO 1 rfl rfl dX9_waitingFor_27 28 rfl ?_
    refine at_iload hO 5 rfl dX9_waitingFor_28 30 rfl ?_
    refine at_callS1 (As := [vi v1, vi v6]) (st := []) hO (c_X9_isIn _ G hO.g s v1 v6) mb_X9_isIn ms_X9_isIn lk_X9_139 rfl ⟨(Nat.le_of_ble_eq_true rfl), (Nat.le_of_ble_eq_true rfl)⟩ (Nat.le_of_ble_eq_true rfl) rfl dX9_waitingFor_30 33 rfl hf (fun r2 s3 hf => ?_)
    obtain ⟨h4, hf⟩ := chk_some hf
    refine at_if_eq hO h4 dX9_waitingFor_33 76 rfl 36 rfl hf (fun hf => ?_) (fun hf => ?_)
    · refine at_iinc hO (lv' := [(6, vi (v6 + 1)), (0, vr G 58), (1, vi v1), (2, vi v2), (3, vl v3), (5, vi v5)]) 5 rfl (Nat.le_of_ble_eq_true rfl) rfl dX9_waitingFor_76 79 rfl ?_
      refine at_goto hO dX9_waitingFor_79 21 rfl ?_
      exact at_sub (fun ls h => lv_sub h [1, 2, 3, 4, 5, 0] rfl) (hrec21 s3 v1 v2 v3 v5 (v6 + 1) hf)
    · refine at_iload hO 4 rfl dX9_waitingFor_36 38 rfl ?_
      refine at_iload hO 5 rfl dX9_waitingFor_38 40 rfl ?_
      refine at_callS1 (As := [vi v5, vi v6]) (st := []) hO (c_X9_isIn _ G hO.g s3 v5 v6) mb_X9_isIn ms_X9_isIn lk_X9_139 rfl ⟨(Nat.le_of_ble_eq_true rfl), (Nat.le_of_ble_eq_true rfl)⟩ (Nat.le_of_ble_eq_true rfl) rfl dX9_waitingFor_40 43 rfl hf (fun r5 s6 hf => ?_)
      obtain ⟨h7, hf⟩ := chk_some hf
      refine at_if_ne hO h7 dX9_waitingFor_43 76 rfl 46 rfl hf (fun hf => ?_) (fun hf => ?_)
      · refine at_iinc hO (lv' := [(6, vi (v6 + 1)), (0, vr G 58), (1, vi v1), (2, vi v2), (3, vl v3), (5, vi v5)]) 5 rfl (Nat.le_of_ble_eq_true rfl) rfl dX9_waitingFor_76 79 rfl ?_
        refine at_goto hO dX9_waitingFor_79 21 rfl ?_
        exact at_sub (fun ls h => lv_sub h [1, 2, 3, 4, 5, 0] rfl) (hrec21 s6 v1 v2 v3 v5 (v6 + 1) hf)
      · refine at_lload_n hO 3 rfl rfl dX9_waitingFor_46 47 rfl ?_
        refine at_aload_n hO 0 rfl rfl dX9_waitingFor_47 48 rfl ?_
        refine at_getR hO fl_X9_37 rfl rfl dX9_waitingFor_48 51 rfl ?_
        refine at_iconst hO dX9_waitingFor_51 52 rfl ?_
        refine at_iload_n hO 2 rfl rfl dX9_waitingFor_52 53 rfl ?_
        refine at_iconst hO dX9_waitingFor_53 54 rfl ?_
        refine at_iadd hO dX9_waitingFor_54 55 rfl ?_
        refine at_imul hO dX9_waitingFor_55 56 rfl ?_
        refine at_iload hO 5 rfl dX9_waitingFor_56 58 rfl ?_
        refine at_iadd hO dX9_waitingFor_58 59 rfl ?_
        obtain ⟨h8, hf⟩ := chk_some hf
        refine at_laload hO rfl (Nat.le_of_ble_eq_true rfl) h8 (((3 * (v2 + 1)) + v6).toNat) rfl dX9_waitingFor_59 60 rfl ?_
        refine at_ladd hO dX9_waitingFor_60 61 rfl ?_
        refine at_lstore_n hO (lv' := [(3, vl (v3 + (s6 68 ((3 * (v2 + 1)) + v6).toNat))), (0, vr G 58), (1, vi v1), (2, vi v2), (5, vi v5), (6, vi v6)]) rfl (Nat.le_of_ble_eq_true rfl) rfl dX9_waitingFor_61 62 rfl ?_
        refine at_iload hO 4 rfl dX9_waitingFor_62 64 rfl ?_
        refine at_aload_n hO 1 rfl rfl dX9_waitingFor_64 65 rfl ?_
        refine at_iload hO 5 rfl dX9_waitingFor_65 67 rfl ?_
        refine at_iload_n hO 3 rfl rfl dX9_waitingFor_67 68 rfl ?_
        refine at_iconst hO dX9_waitingFor_68 69 rfl ?_
        refine at_iadd hO dX9_waitingFor_69 70 rfl ?_
        refine at_callV1 (As := [vi v6, vi (v2 + 1)]) (st := [vi v5]) hO (c_X9_alike _ G hO.g s6 v6 (v2 + 1)) mb_X9_alike mi_X9_alike lk_X9_170 rfl ⟨_, rfl, rfl⟩ rfl ⟨(Nat.le_of_ble_eq_true rfl), (Nat.le_of_ble_eq_true rfl)⟩ (Nat.le_of_ble_eq_true rfl) rfl dX9_waitingFor_70 73 rfl hf (fun r9 s10 hf => ?_)
        refine at_ior hO dX9_waitingFor_73 74 rfl ?_
        refine at_istore hO (lv' := [(5, vi (orZ v5 r9)), (3, vl (v3 + (s6 68 ((3 * (v2 + 1)) + v6).toNat))), (0, vr G 58), (1, vi v1), (2, vi v2), (6, vi v6)]) (Nat.le_of_ble_eq_true rfl) rfl dX9_waitingFor_74 76 rfl ?_
        refine at_iinc hO (lv' := [(6, vi (v6 + 1)), (5, vi (orZ v5 r9)), (3, vl (v3 + (s6 68 ((3 * (v2 + 1)) + v6).toNat))), (0, vr G 58), (1, vi v1), (2, vi v2)]) 5 rfl (Nat.le_of_ble_eq_true rfl) rfl dX9_waitingFor_76 79 rfl ?_
        refine at_goto hO dX9_waitingFor_79 21 rfl ?_
        exact at_sub (fun ls h => lv_sub h [3, 4, 5, 2, 1, 0] rfl) (hrec21 s10 v1 v2 (v3 + (s6 68 ((3 * (v2 + 1)) + v6).toNat)) (orZ v5 r9) (v6 + 1) hf)
theorem wL_X9_waitingFor_21 {X : CX} {G : Ge} {Z : Rt} (hO : rr_OK X G cX9_waitingFor 7 RX9 (some .long) 5 116) : ∀ (n : Nat) (s : St) (v1 v2 v3 v5 v6 : Int), L_X9_waitingFor_21 n s v1 v2 v3 v5 v6 = some Z → rr_AT X G 7 2 Z 21 [(0, vr G 58), (1, vi v1), (2, vi v2), (3, vl v3), (5, vi v5), (6, vi v6)] [] s := by
  intro n
  induction n with
  | zero =>
    intro s v1 v2 v3 v5 v6 hf
    cases hf
  | succ n ih =>
    intro s v1 v2 v3 v5 v6 hf
    exact wS_X9_waitingFor_21 hO ih s v1 v2 v3 v5 v6 hf
def f_X9_waitingFor (s : St) (p1 p2 : Int) : Option Rt := chk (in32 (s 65 6)) (cll (f_X9_weight s p1) (fun r2 s3 => L_X9_waitingFor_21 FU s3 p1 p2 ((s 65 6) * r2) 0 0))
set_option maxRecDepth 100000 in
set_option maxHeartbeats 4000000 in
theorem c_X9_waitingFor (l : Launch) (G : Ge) (hG : rr_GD G) (s : St) (p1 p2 : Int) : rr_Ct l G yX9_waitingFor cX9_waitingFor 7 (some .long) 5 116 2 [vr G 58, vi p1, vi p2] s (f_X9_waitingFor s p1 p2) := by
  refine rr_mk (lv := [(0, vr G 58), (1, vi p1), (2, vi p2)]) RX9 (by decide) rfl hG (Nat.le_of_ble_eq_true rfl) rfl ?_
  intro X Z hO hf
  unfold f_X9_waitingFor at hf
  refine at_aload_n hO 0 rfl rfl dX9_waitingFor_0 1 rfl ?_
  refine at_getR hO fl_X9_28 rfl rfl dX9_waitingFor_1 4 rfl ?_
  refine at_bipush hO (by decide) dX9_waitingFor_4 6 rfl ?_
  refine at_iaload hO rfl (Nat.le_of_ble_eq_true rfl) (by decide) (6) rfl dX9_waitingFor_6 7 rfl ?_
  obtain ⟨h1, hf⟩ := chk_some hf
  refine at_i2l hO h1 dX9_waitingFor_7 8 rfl ?_
  refine at_aload_n hO 0 rfl rfl dX9_waitingFor_8 9 rfl ?_
  refine at_iload_n hO 1 rfl rfl dX9_waitingFor_9 10 rfl ?_
  refine at_callV2 (As := [vi p1]) (st := [vl (s 65 6)]) hO (c_X9_weight _ G hO.g s p1) mb_X9_weight mi_X9_weight lk_X9_166 rfl ⟨_, rfl, rfl⟩ rfl ⟨(Nat.le_of_ble_eq_true rfl), (Nat.le_of_ble_eq_true rfl)⟩ (Nat.le_of_ble_eq_true rfl) rfl dX9_waitingFor_10 13 rfl hf (fun r2 s3 hf => ?_)
  refine at_lmul hO dX9_waitingFor_13 14 rfl ?_
  refine at_lstore_n hO (lv' := [(3, vl ((s 65 6) * r2)), (0, vr G 58), (1, vi p1), (2, vi p2)]) rfl (Nat.le_of_ble_eq_true rfl) rfl dX9_waitingFor_14 15 rfl ?_
  refine at_iconst hO dX9_waitingFor_15 16 rfl ?_
  refine at_istore hO (lv' := [(5, vi 0), (3, vl ((s 65 6) * r2)), (0, vr G 58), (1, vi p1), (2, vi p2)]) (Nat.le_of_ble_eq_true rfl) rfl dX9_waitingFor_16 18 rfl ?_
  refine at_iconst hO dX9_waitingFor_18 19 rfl ?_
  refine at_istore hO (lv' := [(6, vi 0), (5, vi 0), (3, vl ((s 65 6) * r2)), (0, vr G 58), (1, vi p1), (2, vi p2)]) (Nat.le_of_ble_eq_true rfl) rfl dX9_waitingFor_19 21 rfl ?_
  exact at_sub (fun ls h => lv_sub h [3, 4, 5, 2, 1, 0] rfl) (wL_X9_waitingFor_21 hO FU s3 p1 p2 ((s 65 6) * r2) 0 0 hf)

def B_X9_findWorths_99 (rec4 : St → Int → Int → Int → Int → Int → Option Rt) (rec13 : St → Int → Int → Int → Int → Int → Int → Option Rt) (s : St) (v1 v2 v3 v4 v5 v6 v8 v10 t0 t1 : Int) : Option Rt := chk (ix t1 93) (chk (in32 v5) (chk (in32 v2) ((if v5 = v2 then chk (in32 v6) (chk (in32 v1) ((if v6 = v1 then chk (in64 v8) (chk (in64 v10) ((if v10 < v8 then rec13 (su (su s 68 t1.toNat t0) 58 12 0) v1 v2 v3 v4 v5 (v6 + 1) else rec13 (su (su s 68 t1.toNat t0) 58 12 1) v1 v2 v3 v4 v5 (v6 + 1)))) else chk (((su s 68 t1.toNat t0) 58 12) = 0 ∨ ((su s 68 t1.toNat t0) 58 12) = 1) (rec13 (su (su s 68 t1.toNat t0) 58 12 ((su s 68 t1.toNat t0) 58 12)) v1 v2 v3 v4 v5 (v6 + 1))))) else chk (((su s 68 t1.toNat t0) 58 12) = 0 ∨ ((su s 68 t1.toNat t0) 58 12) = 1) (rec13 (su (su s 68 t1.toNat t0) 58 12 ((su s 68 t1.toNat t0) 58 12)) v1 v2 v3 v4 v5 (v6 + 1))))))
set_option maxRecDepth 100000 in
set_option maxHeartbeats 4000000 in
theorem wB_X9_findWorths_99 {X : CX} {G : Ge} {Z : Rt} {rec4 : St → Int → Int → Int → Int → Int → Option Rt} {rec13 : St → Int → Int → Int → Int → Int → Int → Option Rt} (hO : rr_OK X G cX9_findWorths 12 RX9 none 8 193) (hrec4 : ∀ (s : St) (v1 v2 v3 v4 v5 : Int), rec4 s v1 v2 v3 v4 v5 = some Z → rr_AT X G 12 0 Z 4 [(0, vr G 58), (1, vi v1), (2, vi v2), (3, vi v3), (4, vi v4), (5, vi v5)] [] s) (hrec13 : ∀ (s : St) (v1 v2 v3 v4 v5 v6 : Int), rec13 s v1 v2 v3 v4 v5 v6 = some Z → rr_AT X G 12 0 Z 13 [(0, vr G 58), (1, vi v1), (2, vi v2), (3, vi v3), (4, vi v4), (5, vi v5), (6, vi v6)] [] s) (s : St) (v1 v2 v3 v4 v5 v6 v8 v10 t0 t1 : Int) (hf : B_X9_findWorths_99 rec4 rec13 s v1 v2 v3 v4 v5 v6 v8 v10 t0 t1 = some Z) : rr_AT X G 12 0 Z 99 [(0, vr G 58), (1, vi v1), (2, vi v2), (3, vi v3), (4, vi v4), (5, vi v5), (6, vi v6), (8, vl v8), (10, vl v10)] [vl t0, vi t1, vr G 68] s := by
  unfold B_X9_findWorths_99 at hf
  obtain ⟨h1, hf⟩ := chk_some hf
  refine at_lastore hO rfl (Nat.le_of_ble_eq_true rfl) h1 (t1.toNat) rfl dX9_findWorths_99 100 rfl ?_
  refine at_aload_n hO 0 rfl rfl dX9_findWorths_100 101 rfl ?_
  refine at_iload hO 5 rfl dX9_findWorths_101 103 rfl ?_
  refine at_iload_n hO 2 rfl rfl dX9_findWorths_103 104 rfl ?_
  obtain ⟨h2, hf⟩ := chk_some hf
  obtain ⟨h3, hf⟩ := chk_some hf
  refine at_icmp_ne hO h2 h3 dX9_findWorths_104 129 rfl 107 rfl hf (fun hf => ?_) (fun hf => ?_)
  · refine at_aload_n hO 0 rfl rfl dX9_findWorths_129 130 rfl ?_
    refine at_getZ hO fl_X9_177 rfl rfl dX9_findWorths_130 133 rfl ?_
    obtain ⟨h4, hf⟩ := chk_some hf
    refine at_putZ hO h4 fp_X9_177 rfl rfl dX9_findWorths_133 136 rfl ?_
    refine at_iinc hO (lv' := [(6, vi (v6 + 1)), (0, vr G 58), (1, vi v1), (2, vi v2), (3, vi v3), (4, vi v4), (5, vi v5), (8, vl v8), (10, vl v10)]) 6 rfl (Nat.le_of_ble_eq_true rfl) rfl dX9_findWorths_136 139 rfl ?_
    refine at_goto hO dX9_findWorths_139 13 rfl ?_
    exact at_sub (fun ls h => lv_sub h [1, 2, 3, 4, 5, 6, 0] rfl) (hrec13 (su (su s 68 t1.toNat t0) 58 12 ((su s 68 t1.toNat t0) 58 12)) v1 v2 v3 v4 v5 (v6 + 1) hf)
  · refine at_iload hO 6 rfl dX9_findWorths_107 109 rfl ?_
    refine at_iload_n hO 1 rfl rfl dX9_findWorths_109 110 rfl ?_
    obtain ⟨h5, hf⟩ := chk_some hf
    obtain ⟨h6, hf⟩ := chk_some hf
    refine at_icmp_ne hO h5 h6 dX9_findWorths_110 129 rfl 113 rfl hf (fun hf => ?_) (fun hf => ?_)
    · refine at_aload_n hO 0 rfl rfl dX9_findWorths_129 130 rfl ?_
      refine at_getZ hO fl_X9_177 rfl rfl dX9_findWorths_130 133 rfl ?_
      obtain ⟨h7, hf⟩ := chk_some hf
      refine at_putZ hO h7 fp_X9_177 rfl rfl dX9_findWorths_133 136 rfl ?_
      refine at_iinc hO (lv' := [(6, vi (v6 + 1)), (0, vr G 58), (1, vi v1), (2, vi v2), (3, vi v3), (4, vi v4), (5, vi v5), (8, vl v8), (10, vl v10)]) 6 rfl (Nat.le_of_ble_eq_true rfl) rfl dX9_findWorths_136 139 rfl ?_
      refine at_goto hO dX9_findWorths_139 13 rfl ?_
      exact at_sub (fun ls h => lv_sub h [1, 2, 3, 4, 5, 6, 0] rfl) (hrec13 (su (su s 68 t1.toNat t0) 58 12 ((su s 68 t1.toNat t0) 58 12)) v1 v2 v3 v4 v5 (v6 + 1) hf)
    · refine at_lload hO 7 rfl dX9_findWorths_113 115 rfl ?_
      refine at_lload hO 8 rfl dX9_findWorths_115 117 rfl ?_
      obtain ⟨h8, hf⟩ := chk_some hf
      obtain ⟨h9, hf⟩ := chk_some hf
      refine at_lcmp_gt hO h8 h9 dX9_findWorths_117 dX9_findWorths_118 125 rfl 121 rfl hf (fun hf => ?_) (fun hf => ?_)
      · refine at_iconst hO dX9_findWorths_125 126 rfl ?_
        refine at_goto hO dX9_findWorths_126 133 rfl ?_
        refine at_putZ hO (Or.inl rfl) fp_X9_177 rfl rfl dX9_findWorths_133 136 rfl ?_
        refine at_iinc hO (lv' := [(6, vi (v6 + 1)), (0, vr G 58), (1, vi v1), (2, vi v2), (3, vi v3), (4, vi v4), (5, vi v5), (8, vl v8), (10, vl v10)]) 6 rfl (Nat.le_of_ble_eq_true rfl) rfl dX9_findWorths_136 139 rfl ?_
        refine at_goto hO dX9_findWorths_139 13 rfl ?_
        exact at_sub (fun ls h => lv_sub h [1, 2, 3, 4, 5, 6, 0] rfl) (hrec13 (su (su s 68 t1.toNat t0) 58 12 0) v1 v2 v3 v4 v5 (v6 + 1) hf)
      · refine at_iconst hO dX9_findWorths_121 122 rfl ?_
        refine at_goto hO dX9_findWorths_122 133 rfl ?_
        refine at_putZ hO (Or.inr rfl) fp_X9_177 rfl rfl dX9_findWorths_133 136 rfl ?_
        refine at_iinc hO (lv' := [(6, vi (v6 + 1)), (0, vr G 58), (1, vi v1), (2, vi v2), (3, vi v3), (4, vi v4), (5, vi v5), (8, vl v8), (10, vl v10)]) 6 rfl (Nat.le_of_ble_eq_true rfl) rfl dX9_findWorths_136 139 rfl ?_
        refine at_goto hO dX9_findWorths_139 13 rfl ?_
        exact at_sub (fun ls h => lv_sub h [1, 2, 3, 4, 5, 6, 0] rfl) (hrec13 (su (su s 68 t1.toNat t0) 58 12 1) v1 v2 v3 v4 v5 (v6 + 1) hf)
def B_X9_findWorths_71 (rec4 : St → Int → Int → Int → Int → Int → Option Rt) (rec13 : St → Int → Int → Int → Int → Int → Int → Option Rt) (s : St) (v1 v2 v3 v4 v5 v6 v8 t0 : Int) : Option Rt := chk (in64 v8) (chk (in64 t0) ((if t0 ≤ v8 then B_X9_findWorths_99 rec4 rec13 s v1 v2 v3 v4 v5 v6 v8 t0 t0 ((3 * v5) + v6) else B_X9_findWorths_99 rec4 rec13 s v1 v2 v3 v4 v5 v6 v8 t0 v8 ((3 * v5) + v6))))
set_option maxRecDepth 100000 in
set_option maxHeartbeats 4000000 in
theorem wB_X9_findWorths_71 {X : CX} {G : Ge} {Z : Rt} {rec4 : St → Int → Int → Int → Int → Int → Option Rt} {rec13 : St → Int → Int → Int → Int → Int → Int → Option Rt} (hO : rr_OK X G cX9_findWorths 12 RX9 none 8 193) (hrec4 : ∀ (s : St) (v1 v2 v3 v4 v5 : Int), rec4 s v1 v2 v3 v4 v5 = some Z → rr_AT X G 12 0 Z 4 [(0, vr G 58), (1, vi v1), (2, vi v2), (3, vi v3), (4, vi v4), (5, vi v5)] [] s) (hrec13 : ∀ (s : St) (v1 v2 v3 v4 v5 v6 : Int), rec13 s v1 v2 v3 v4 v5 v6 = some Z → rr_AT X G 12 0 Z 13 [(0, vr G 58), (1, vi v1), (2, vi v2), (3, vi v3), (4, vi v4), (5, vi v5), (6, vi v6)] [] s) (s : St) (v1 v2 v3 v4 v5 v6 v8 t0 : Int) (hf : B_X9_findWorths_71 rec4 rec13 s v1 v2 v3 v4 v5 v6 v8 t0 = some Z) : rr_AT X G 12 0 Z 71 [(0, vr G 58), (1, vi v1), (2, vi v2), (3, vi v3), (4, vi v4), (5, vi v5), (6, vi v6), (8, vl v8)] [vl t0] s := by
  unfold B_X9_findWorths_71 at hf
  refine at_lstore hO (lv' := [(10, vl t0), (0, vr G 58), (1, vi v1), (2, vi v2), (3, vi v3), (4, vi v4), (5, vi v5), (6, vi v6), (8, vl v8)]) (Nat.le_of_ble_eq_true rfl) rfl dX9_findWorths_71 73 rfl ?_
  refine at_aload_n hO 1 rfl rfl dX9_findWorths_73 74 rfl ?_
  refine at_getR hO fl_X9_37 rfl rfl dX9_findWorths_74 77 rfl ?_
  refine at_iconst hO dX9_findWorths_77 78 rfl ?_
  refine at_iload hO 6 rfl dX9_findWorths_78 80 rfl ?_
  refine at_imul hO dX9_findWorths_80 81 rfl ?_
  refine at_iload hO 7 rfl dX9_findWorths_81 83 rfl ?_
  refine at_iadd hO dX9_findWorths_83 84 rfl ?_
  refine at_lload hO 8 rfl dX9_findWorths_84 86 rfl ?_
  refine at_lload hO 0 rfl dX9_findWorths_86 88 rfl ?_
  obtain ⟨h1, hf⟩ := chk_some hf
  obtain ⟨h2, hf⟩ := chk_some hf
  refine at_lcmp_ge hO h1 h2 dX9_findWorths_88 dX9_findWorths_89 97 rfl 92 rfl hf (fun hf => ?_) (fun hf => ?_)
  · refine at_lload hO 0 rfl dX9_findWorths_97 99 rfl ?_
    exact at_sub (fun ls h => lv_sub h [1, 2, 3, 4, 5, 6, 7, 8, 0] rfl) (wB_X9_findWorths_99 hO hrec4 hrec13 s v1 v2 v3 v4 v5 v6 v8 t0 t0 ((3 * v5) + v6) hf)
  · refine at_lload hO 8 rfl dX9_findWorths_92 94 rfl ?_
    refine at_goto hO dX9_findWorths_94 99 rfl ?_
    exact at_sub (fun ls h => lv_sub h [1, 2, 3, 4, 5, 6, 7, 8, 0] rfl) (wB_X9_findWorths_99 hO hrec4 hrec13 s v1 v2 v3 v4 v5 v6 v8 t0 v8 ((3 * v5) + v6) hf)
def S_X9_findWorths_13 (rec4 : St → Int → Int → Int → Int → Int → Option Rt) (rec13 : St → Int → Int → Int → Int → Int → Int → Option Rt) (s : St) (v1 v2 v3 v4 v5 v6 : Int) : Option Rt := chk (in32 v6) ((if 3 ≤ v6 then rec4 s v1 v2 v3 v4 (v5 + (-1)) else cll (f_X9_alike s v6 v5) (fun r2 s3 => cll (f_X9_weight s3 r2) (fun r4 s5 => cll (f_X9_costOf s5 v6 v5 v3 v4 0) (fun r6 s7 => chk (in32 r6) (chk (in32 v5) ((if v5 = 29 then B_X9_findWorths_71 rec4 rec13 s7 v1 v2 v3 v4 v5 v6 (r4 * r6) (r4 * r6) else cll (f_X9_waitingFor s7 r2 v5) (fun r10 s11 => B_X9_findWorths_71 rec4 rec13 s11 v1 v2 v3 v4 v5 v6 (r4 * r6) r10)))))))))
def L_X9_findWorths_13 (rec4 : St → Int → Int → Int → Int → Int → Option Rt) : Nat → St → Int → Int → Int → Int → Int → Int → Option Rt
  | 0, _, _, _, _, _, _, _ => none
  | n + 1, s, v1, v2, v3, v4, v5, v6 => S_X9_findWorths_13 rec4 (L_X9_findWorths_13 rec4 n) s v1 v2 v3 v4 v5 v6
set_option maxRecDepth 100000 in
set_option maxHeartbeats 4000000 in
theorem wS_X9_findWorths_13 {X : CX} {G : Ge} {Z : Rt} {rec4 : St → Int → Int → Int → Int → Int → Option Rt} {rec13 : St → Int → Int → Int → Int → Int → Int → Option Rt} (hO : rr_OK X G cX9_findWorths 12 RX9 none 8 193) (hrec4 : ∀ (s : St) (v1 v2 v3 v4 v5 : Int), rec4 s v1 v2 v3 v4 v5 = some Z → rr_AT X G 12 0 Z 4 [(0, vr G 58), (1, vi v1), (2, vi v2), (3, vi v3), (4, vi v4), (5, vi v5)] [] s) (hrec13 : ∀ (s : St) (v1 v2 v3 v4 v5 v6 : Int), rec13 s v1 v2 v3 v4 v5 v6 = some Z → rr_AT X G 12 0 Z 13 [(0, vr G 58), (1, vi v1), (2, vi v2), (3, vi v3), (4, vi v4), (5, vi v5), (6, vi v6)] [] s) (s : St) (v1 v2 v3 v4 v5 v6 : Int) (hf : S_X9_findWorths_13 rec4 rec13 s v1 v2 v3 v4 v5 v6 = some Z) : rr_AT X G 12 0 Z 13 [(0, vr G 58), (1, vi v1), (2, vi v2), (3, vi v3), (4, vi v4), (5, vi v5), (6, vi v6)] [] s := by
  unfold S_X9_findWorths_13 at hf
  refine at_iload hO 6 rfl dX9_findWorths_13 15 rfl ?_
  refine at_iconst hO dX9_findWorths_15 16 rfl ?_
  obtain ⟨h1, hf⟩ := chk_some hf
  refine at_icmp_ge hO h1 (by decide) dX9_findWorths_16 142 rfl 19 rfl hf (fun hf => ?_) (fun hf => ?_)
  · refine at_iinc hO (lv' := [(5, vi (v5 + (-1))), (0, vr G 58), (1, vi v1), (2, vi v2), (3, vi v3), (4, vi v4), (6, vi v6)]) 5 rfl (Nat.le_of_ble_eq_true rfl) rfl dX9_findWorths_142 145 rfl ?_
    refine at_goto hO dX9_findWorths_145 4 rfl ?_
    exact at_sub (fun ls h => lv_sub h [1, 2, 3, 4, 5, 0] rfl) (hrec4 s v1 v2 v3 v4 (v5 + (-1)) hf)
  · refine at_aload_n hO 0 rfl rfl dX9_findWorths_19 20 rfl ?_
    refine at_iload hO 6 rfl dX9_findWorths_20 22 rfl ?_
    refine at_iload hO 5 rfl dX9_findWorths_22 24 rfl ?_
    refine at_callV1 (As := [vi v6, vi v5]) (st := []) hO (c_X9_alike _ G hO.g s v6 v5) mb_X9_alike mi_X9_alike lk_X9_170 rfl ⟨_, rfl, rfl⟩ rfl ⟨(Nat.le_of_ble_eq_true rfl), (Nat.le_of_ble_eq_true rfl)⟩ (Nat.le_of_ble_eq_true rfl) rfl dX9_findWorths_24 27 rfl hf (fun r2 s3 hf => ?_)
    refine at_istore hO (lv' := [(7, vi r2), (0, vr G 58), (1, vi v1), (2, vi v2), (3, vi v3), (4, vi v4), (5, vi v5), (6, vi v6)]) (Nat.le_of_ble_eq_true rfl) rfl dX9_findWorths_27 29 rfl ?_
    refine at_aload_n hO 1 rfl rfl dX9_findWorths_29 30 rfl ?_
    refine at_iload hO 0 rfl dX9_findWorths_30 32 rfl ?_
    refine at_callV2 (As := [vi r2]) (st := []) hO (c_X9_weight _ G hO.g s3 r2) mb_X9_weight mi_X9_weight lk_X9_166 rfl ⟨_, rfl, rfl⟩ rfl ⟨(Nat.le_of_ble_eq_true rfl), (Nat.le_of_ble_eq_true rfl)⟩ (Nat.le_of_ble_eq_true rfl) rfl dX9_findWorths_32 35 rfl hf (fun r4 s5 hf => ?_)
    refine at_aload_n hO 1 rfl rfl dX9_findWorths_35 36 rfl ?_
    refine at_iload hO 7 rfl dX9_findWorths_36 38 rfl ?_
    refine at_iload hO 6 rfl dX9_findWorths_38 40 rfl ?_
    refine at_iload_n hO 4 rfl rfl dX9_findWorths_40 41 rfl ?_
    refine at_iload hO 5 rfl dX9_findWorths_41 43 rfl ?_
    refine at_iconst hO dX9_findWorths_43 44 rfl ?_
    refine at_callV1 (As := [vi v6, vi v5, vi v3, vi v4, vi 0]) (st := [vl r4]) hO (c_X9_costOf _ G hO.g s5 v6 v5 v3 v4 0) mb_X9_costOf mi_X9_costOf lk_X9_155 rfl ⟨_, rfl, rfl⟩ rfl ⟨(Nat.le_of_ble_eq_true rfl), (Nat.le_of_ble_eq_true rfl)⟩ (Nat.le_of_ble_eq_true rfl) rfl dX9_findWorths_44 47 rfl hf (fun r6 s7 hf => ?_)
    obtain ⟨h8, hf⟩ := chk_some hf
    refine at_i2l hO h8 dX9_findWorths_47 48 rfl ?_
    refine at_lmul hO dX9_findWorths_48 49 rfl ?_
    refine at_lstore hO (lv' := [(8, vl (r4 * r6)), (7, vi r2), (0, vr G 58), (1, vi v1), (2, vi v2), (3, vi v3), (4, vi v4), (5, vi v5), (6, vi v6)]) (Nat.le_of_ble_eq_true rfl) rfl dX9_findWorths_49 51 rfl ?_
    refine at_iload hO 7 rfl dX9_findWorths_51 53 rfl ?_
    refine at_bipush hO (by decide) dX9_findWorths_53 55 rfl ?_
    obtain ⟨h9, hf⟩ := chk_some hf
    refine at_icmp_ne hO h9 (by decide) dX9_findWorths_55 63 rfl 58 rfl hf (fun hf => ?_) (fun hf => ?_)
    · refine at_aload_n hO 2 rfl rfl dX9_findWorths_63 64 rfl ?_
      refine at_iload hO 1 rfl dX9_findWorths_64 66 rfl ?_
      refine at_iload hO 7 rfl dX9_findWorths_66 68 rfl ?_
      refine at_callV2 (As := [vi r2, vi v5]) (st := []) hO (c_X9_waitingFor _ G hO.g s7 r2 v5) mb_X9_waitingFor mi_X9_waitingFor lk_X9_173 rfl ⟨_, rfl, rfl⟩ rfl ⟨(Nat.le_of_ble_eq_true rfl), (Nat.le_of_ble_eq_true rfl)⟩ (Nat.le_of_ble_eq_true rfl) rfl dX9_findWorths_68 71 rfl hf (fun r10 s11 hf => ?_)
      exact at_sub (fun ls h => lv_sub h [2, 3, 4, 5, 6, 7, 8, 0] rfl) (wB_X9_findWorths_71 hO hrec4 hrec13 s11 v1 v2 v3 v4 v5 v6 (r4 * r6) r10 hf)
    · refine at_lload hO 0 rfl dX9_findWorths_58 60 rfl ?_
      refine at_goto hO dX9_findWorths_60 71 rfl ?_
      exact at_sub (fun ls h => lv_sub h [2, 3, 4, 5, 6, 7, 8, 0] rfl) (wB_X9_findWorths_71 hO hrec4 hrec13 s7 v1 v2 v3 v4 v5 v6 (r4 * r6) (r4 * r6) hf)
theorem wL_X9_findWorths_13 {X : CX} {G : Ge} {Z : Rt} {rec4 : St → Int → Int → Int → Int → Int → Option Rt} (hO : rr_OK X G cX9_findWorths 12 RX9 none 8 193) (hrec4 : ∀ (s : St) (v1 v2 v3 v4 v5 : Int), rec4 s v1 v2 v3 v4 v5 = some Z → rr_AT X G 12 0 Z 4 [(0, vr G 58), (1, vi v1), (2, vi v2), (3, vi v3), (4, vi v4), (5, vi v5)] [] s) : ∀ (n : Nat) (s : St) (v1 v2 v3 v4 v5 v6 : Int), L_X9_findWorths_13 rec4 n s v1 v2 v3 v4 v5 v6 = some Z → rr_AT X G 12 0 Z 13 [(0, vr G 58), (1, vi v1), (2, vi v2), (3, vi v3), (4, vi v4), (5, vi v5), (6, vi v6)] [] s := by
  intro n
  induction n with
  | zero =>
    intro s v1 v2 v3 v4 v5 v6 hf
    cases hf
  | succ n ih =>
    intro s v1 v2 v3 v4 v5 v6 hf
    exact wS_X9_findWorths_13 hO hrec4 ih s v1 v2 v3 v4 v5 v6 hf
def S_X9_findWorths_4 (rec4 : St → Int → Int → Int → Int → Int → Option Rt) (s : St) (v1 v2 v3 v4 v5 : Int) : Option Rt := chk (in32 v5) (chk (in32 v2) ((if v5 < v2 then some (0, s) else L_X9_findWorths_13 rec4 FU s v1 v2 v3 v4 v5 0)))
def L_X9_findWorths_4 : Nat → St → Int → Int → Int → Int → Int → Option Rt
  | 0, _, _, _, _, _, _ => none
  | n + 1, s, v1, v2, v3, v4, v5 => S_X9_findWorths_4 (L_X9_findWorths_4 n) s v1 v2 v3 v4 v5
set_option maxRecDepth 100000 in
set_option maxHeartbeats 4000000 in
theorem wS_X9_findWorths_4 {X : CX} {G : Ge} {Z : Rt} {rec4 : St → Int → Int → Int → Int → Int → Option Rt} (hO : rr_OK X G cX9_findWorths 12 RX9 none 8 193) (hrec4 : ∀ (s : St) (v1 v2 v3 v4 v5 : Int), rec4 s v1 v2 v3 v4 v5 = some Z → rr_AT X G 12 0 Z 4 [(0, vr G 58), (1, vi v1), (2, vi v2), (3, vi v3), (4, vi v4), (5, vi v5)] [] s) (s : St) (v1 v2 v3 v4 v5 : Int) (hf : S_X9_findWorths_4 rec4 s v1 v2 v3 v4 v5 = some Z) : rr_AT X G 12 0 Z 4 [(0, vr G 58), (1, vi v1), (2, vi v2), (3, vi v3), (4, vi v4), (5, vi v5)] [] s := by
  unfold S_X9_findWorths_4 at hf
  refine at_iload hO 5 rfl dX9_findWorths_4 6 rfl ?_
  refine at_iload_n hO 2 rfl rfl dX9_findWorths_6 7 rfl ?_
  obtain ⟨h1, hf⟩ := chk_some hf
  obtain ⟨h2, hf⟩ := chk_some hf
  refine at_icmp_lt hO h1 h2 dX9_findWorths_7 148 rfl 10 rfl hf (fun hf => ?_) (fun hf => ?_)
  · exact at_return hO dX9_findWorths_148 hf
  · refine at_iconst hO dX9_findWorths_10 11 rfl ?_
    refine at_istore hO (lv' := [(6, vi 0), (0, vr G 58), (1, vi v1), (2, vi v2), (3, vi v3), (4, vi v4), (5, vi v5)]) (Nat.le_of_ble_eq_true rfl) rfl dX9_findWorths_11 13 rfl ?_
    exact at_sub (fun ls h => lv_sub h [1, 2, 3, 4, 5, 6, 0] rfl) (wL_X9_findWorths_13 hO hrec4 FU s v1 v2 v3 v4 v5 0 hf)
theorem wL_X9_findWorths_4 {X : CX} {G : Ge} {Z : Rt} (hO : rr_OK X G cX9_findWorths 12 RX9 none 8 193) : ∀ (n : Nat) (s : St) (v1 v2 v3 v4 v5 : Int), L_X9_findWorths_4 n s v1 v2 v3 v4 v5 = some Z → rr_AT X G 12 0 Z 4 [(0, vr G 58), (1, vi v1), (2, vi v2), (3, vi v3), (4, vi v4), (5, vi v5)] [] s := by
  intro n
  induction n with
  | zero =>
    intro s v1 v2 v3 v4 v5 hf
    cases hf
  | succ n ih =>
    intro s v1 v2 v3 v4 v5 hf
    exact wS_X9_findWorths_4 hO ih s v1 v2 v3 v4 v5 hf
def f_X9_findWorths (s : St) (p1 p2 p3 p4 : Int) : Option Rt := L_X9_findWorths_4 FU s p1 p2 p3 p4 29
set_option maxRecDepth 100000 in
set_option maxHeartbeats 4000000 in
theorem c_X9_findWorths (l : Launch) (G : Ge) (hG : rr_GD G) (s : St) (p1 p2 p3 p4 : Int) : rr_Ct l G yX9_findWorths cX9_findWorths 12 none 8 193 0 [vr G 58, vi p1, vi p2, vi p3, vi p4] s (f_X9_findWorths s p1 p2 p3 p4) := by
  refine rr_mk (lv := [(0, vr G 58), (1, vi p1), (2, vi p2), (3, vi p3), (4, vi p4)]) RX9 (by decide) rfl hG (Nat.le_of_ble_eq_true rfl) rfl ?_
  intro X Z hO hf
  unfold f_X9_findWorths at hf
  refine at_bipush hO (by decide) dX9_findWorths_0 2 rfl ?_
  refine at_istore hO (lv' := [(5, vi 29), (0, vr G 58), (1, vi p1), (2, vi p2), (3, vi p3), (4, vi p4)]) (Nat.le_of_ble_eq_true rfl) rfl dX9_findWorths_2 4 rfl ?_
  exact at_sub (fun ls h => lv_sub h [1, 2, 3, 4, 5, 0] rfl) (wL_X9_findWorths_4 hO FU s p1 p2 p3 p4 29 hf)

def S_X9_part_17 (rec17 : St → Int → Int → Int → Int → Int → Option Rt) (s : St) (v0 v2 v4 v5 v7 : Int) : Option Rt := chk (in64 v7) ((if v7 = 0 then chk (in32 v4) ((if v4 = 0 then chk ((0 ≤ v0 ∧ in64 v0) ∧ (0 < v5 ∧ in64 v5)) (some ((v0 / v5), s)) else chk ((0 ≤ v2 ∧ in64 v2) ∧ (0 < v5 ∧ in64 v5)) (some ((v2 / v5), s)))) else chk ((0 ≤ v5 ∧ in64 v5) ∧ (0 < v7 ∧ in64 v7)) (rec17 s v0 v2 v4 v7 (v5 % v7))))
def L_X9_part_17 : Nat → St → Int → Int → Int → Int → Int → Option Rt
  | 0, _, _, _, _, _, _ => none
  | n + 1, s, v0, v2, v4, v5, v7 => S_X9_part_17 (L_X9_part_17 n) s v0 v2 v4 v5 v7
set_option maxRecDepth 100000 in
set_option maxHeartbeats 4000000 in
theorem wS_X9_part_17 {X : CX} {G : Ge} {Z : Rt} {rec17 : St → Int → Int → Int → Int → Int → Option Rt} (hO : rr_OK X G cX9_part 11 RX9 (some .long) 0 0) (hrec17 : ∀ (s : St) (v0 v2 v4 v5 v7 : Int), rec17 s v0 v2 v4 v5 v7 = some Z → rr_AT X G 11 2 Z 17 [(0, vl v0), (2, vl v2), (4, vi v4), (5, vl v5), (7, vl v7)] [] s) (s : St) (v0 v2 v4 v5 v7 : Int) (hf : S_X9_part_17 rec17 s v0 v2 v4 v5 v7 = some Z) : rr_AT X G 11 2 Z 17 [(0, vl v0), (2, vl v2), (4, vi v4), (5, vl v5), (7, vl v7)] [] s := by
  unfold S_X9_part_17 at hf
  refine at_lload hO 4 rfl dX9_part_17 19 rfl ?_
  refine at_lconst (n := 0) hO (by decide) dX9_part_19 20 rfl ?_
  obtain ⟨h1, hf⟩ := chk_some hf
  refine at_lcmp_eq hO h1 (by decide) dX9_part_20 dX9_part_21 42 rfl 24 rfl hf (fun hf => ?_) (fun hf => ?_)
  · refine at_iload hO 2 rfl dX9_part_42 44 rfl ?_
    obtain ⟨h2, hf⟩ := chk_some hf
    refine at_if_ne hO h2 dX9_part_44 51 rfl 47 rfl hf (fun hf => ?_) (fun hf => ?_)
    · refine at_lload_n hO 1 rfl rfl dX9_part_51 52 rfl ?_
      refine at_lload hO 3 rfl dX9_part_52 54 rfl ?_
      obtain ⟨h3, hf⟩ := chk_some hf
      refine at_ldiv hO h3.1.1 h3.1.2 h3.2.1 h3.2.2 dX9_part_54 55 rfl ?_
      exact at_lreturn hO dX9_part_55 hf
    · refine at_lload_n hO 0 rfl rfl dX9_part_47 48 rfl ?_
      refine at_goto hO dX9_part_48 52 rfl ?_
      refine at_lload hO 3 rfl dX9_part_52 54 rfl ?_
      obtain ⟨h4, hf⟩ := chk_some hf
      refine at_ldiv hO h4.1.1 h4.1.2 h4.2.1 h4.2.2 dX9_part_54 55 rfl ?_
      exact at_lreturn hO dX9_part_55 hf
  · refine at_lload hO 3 rfl dX9_part_24 26 rfl ?_
    refine at_lload hO 4 rfl dX9_part_26 28 rfl ?_
    obtain ⟨h5, hf⟩ := chk_some hf
    refine at_lrem hO h5.1.1 h5.1.2 h5.2.1 h5.2.2 dX9_part_28 29 rfl ?_
    refine at_lstore hO (lv' := [(9, vl (v5 % v7)), (0, vl v0), (2, vl v2), (4, vi v4), (5, vl v5), (7, vl v7)]) (Nat.le_of_ble_eq_true rfl) rfl dX9_part_29 31 rfl ?_
    refine at_lload hO 5 rfl dX9_part_31 33 rfl ?_
    refine at_lstore hO (lv' := [(5, vl v7), (9, vl (v5 % v7)), (0, vl v0), (2, vl v2), (4, vi v4), (7, vl v7)]) (Nat.le_of_ble_eq_true rfl) rfl dX9_part_33 35 rfl ?_
    refine at_lload hO 1 rfl dX9_part_35 37 rfl ?_
    refine at_lstore hO (lv' := [(7, vl (v5 % v7)), (5, vl v7), (9, vl (v5 % v7)), (0, vl v0), (2, vl v2), (4, vi v4)]) (Nat.le_of_ble_eq_true rfl) rfl dX9_part_37 39 rfl ?_
    refine at_goto hO dX9_part_39 17 rfl ?_
    exact at_sub (fun ls h => lv_sub h [3, 4, 5, 1, 0] rfl) (hrec17 s v0 v2 v4 v7 (v5 % v7) hf)
theorem wL_X9_part_17 {X : CX} {G : Ge} {Z : Rt} (hO : rr_OK X G cX9_part 11 RX9 (some .long) 0 0) : ∀ (n : Nat) (s : St) (v0 v2 v4 v5 v7 : Int), L_X9_part_17 n s v0 v2 v4 v5 v7 = some Z → rr_AT X G 11 2 Z 17 [(0, vl v0), (2, vl v2), (4, vi v4), (5, vl v5), (7, vl v7)] [] s := by
  intro n
  induction n with
  | zero =>
    intro s v0 v2 v4 v5 v7 hf
    cases hf
  | succ n ih =>
    intro s v0 v2 v4 v5 v7 hf
    exact wS_X9_part_17 hO ih s v0 v2 v4 v5 v7 hf
def f_X9_part (s : St) (p1 p2 p3 : Int) : Option Rt := chk (in64 p1) ((if 0 ≤ p1 then L_X9_part_17 FU s p1 p2 p3 p1 p2 else L_X9_part_17 FU s p1 p2 p3 (-p1) p2))
set_option maxRecDepth 100000 in
set_option maxHeartbeats 4000000 in
theorem c_X9_part (l : Launch) (G : Ge) (hG : rr_GD G) (s : St) (p1 p2 p3 : Int) : rr_Ct l G yX9_part cX9_part 11 (some .long) 0 0 2 [vl p1, vl p2, vi p3] s (f_X9_part s p1 p2 p3) := by
  refine rr_mk (lv := [(0, vl p1), (2, vl p2), (4, vi p3)]) RX9 (by decide) rfl hG (Nat.le_of_ble_eq_true rfl) rfl ?_
  intro X Z hO hf
  unfold f_X9_part at hf
  refine at_lload_n hO 0 rfl rfl dX9_part_0 1 rfl ?_
  refine at_lconst (n := 0) hO (by decide) dX9_part_1 2 rfl ?_
  obtain ⟨h1, hf⟩ := chk_some hf
  refine at_lcmp_ge hO h1 (by decide) dX9_part_2 dX9_part_3 11 rfl 6 rfl hf (fun hf => ?_) (fun hf => ?_)
  · refine at_lload_n hO 0 rfl rfl dX9_part_11 12 rfl ?_
    refine at_lstore hO (lv' := [(5, vl p1), (0, vl p1), (2, vl p2), (4, vi p3)]) (Nat.le_of_ble_eq_true rfl) rfl dX9_part_12 14 rfl ?_
    refine at_lload_n hO 2 rfl rfl dX9_part_14 15 rfl ?_
    refine at_lstore hO (lv' := [(7, vl p2), (5, vl p1), (0, vl p1), (2, vl p2), (4, vi p3)]) (Nat.le_of_ble_eq_true rfl) rfl dX9_part_15 17 rfl ?_
    exact at_sub (fun ls h => lv_sub h [2, 3, 4, 1, 0] rfl) (wL_X9_part_17 hO FU s p1 p2 p3 p1 p2 hf)
  · refine at_lload_n hO 0 rfl rfl dX9_part_6 7 rfl ?_
    refine at_lneg hO dX9_part_7 8 rfl ?_
    refine at_goto hO dX9_part_8 12 rfl ?_
    refine at_lstore hO (lv' := [(5, vl (-p1)), (0, vl p1), (2, vl p2), (4, vi p3)]) (Nat.le_of_ble_eq_true rfl) rfl dX9_part_12 14 rfl ?_
    refine at_lload_n hO 2 rfl rfl dX9_part_14 15 rfl ?_
    refine at_lstore hO (lv' := [(7, vl p2), (5, vl (-p1)), (0, vl p1), (2, vl p2), (4, vi p3)]) (Nat.le_of_ble_eq_true rfl) rfl dX9_part_15 17 rfl ?_
    exact at_sub (fun ls h => lv_sub h [2, 3, 4, 1, 0] rfl) (wL_X9_part_17 hO FU s p1 p2 p3 (-p1) p2 hf)

def f_X9_waitsOf (s : St) (p1 p2 p3 p4 p5 : Int) : Option Rt := cll (f_X9_alike s p1 p2) (fun r1 s2 => cll (f_X9_weight s2 r1) (fun r3 s4 => chk (in64 r3) ((if r3 = 0 then cll (f_X9_no s4 (-3)) (fun r11 s12 => some (r11, s12)) else cll (f_X9_findWorths s4 p1 p2 p3 p4) (fun _ s7 => chk (ix ((3 * p2) + p1) 93) (cll (f_X9_part s7 (s7 68 ((3 * p2) + p1).toNat) r3 p5) (fun r9 s10 => some (r9, s10))))))))
set_option maxRecDepth 100000 in
set_option maxHeartbeats 4000000 in
theorem c_X9_waitsOf (l : Launch) (G : Ge) (hG : rr_GD G) (s : St) (p1 p2 p3 p4 p5 : Int) : rr_Ct l G yX9_waitsOf cX9_waitsOf 8 (some .long) 9 224 2 [vr G 58, vi p1, vi p2, vi p3, vi p4, vi p5] s (f_X9_waitsOf s p1 p2 p3 p4 p5) := by
  refine rr_mk (lv := [(0, vr G 58), (1, vi p1), (2, vi p2), (3, vi p3), (4, vi p4), (5, vi p5)]) RX9 (by decide) rfl hG (Nat.le_of_ble_eq_true rfl) rfl ?_
  intro X Z hO hf
  unfold f_X9_waitsOf at hf
  refine at_aload_n hO 0 rfl rfl dX9_waitsOf_0 1 rfl ?_
  refine at_aload_n hO 0 rfl rfl dX9_waitsOf_1 2 rfl ?_
  refine at_iload_n hO 1 rfl rfl dX9_waitsOf_2 3 rfl ?_
  refine at_iload_n hO 2 rfl rfl dX9_waitsOf_3 4 rfl ?_
  refine at_callV1 (As := [vi p1, vi p2]) (st := [vr G 58]) hO (c_X9_alike _ G hO.g s p1 p2) mb_X9_alike mi_X9_alike lk_X9_170 rfl ⟨_, rfl, rfl⟩ rfl ⟨(Nat.le_of_ble_eq_true rfl), (Nat.le_of_ble_eq_true rfl)⟩ (Nat.le_of_ble_eq_true rfl) rfl dX9_waitsOf_4 7 rfl hf (fun r1 s2 hf => ?_)
  refine at_callV2 (As := [vi r1]) (st := []) hO (c_X9_weight _ G hO.g s2 r1) mb_X9_weight mi_X9_weight lk_X9_166 rfl ⟨_, rfl, rfl⟩ rfl ⟨(Nat.le_of_ble_eq_true rfl), (Nat.le_of_ble_eq_true rfl)⟩ (Nat.le_of_ble_eq_true rfl) rfl dX9_waitsOf_7 10 rfl hf (fun r3 s4 hf => ?_)
  refine at_lstore hO (lv' := [(6, vl r3), (0, vr G 58), (1, vi p1), (2, vi p2), (3, vi p3), (4, vi p4), (5, vi p5)]) (Nat.le_of_ble_eq_true rfl) rfl dX9_waitsOf_10 12 rfl ?_
  refine at_lload hO 0 rfl dX9_waitsOf_12 14 rfl ?_
  refine at_lconst (n := 0) hO (by decide) dX9_waitsOf_14 15 rfl ?_
  obtain ⟨h5, hf⟩ := chk_some hf
  refine at_lcmp_ne hO h5 (by decide) dX9_waitsOf_15 dX9_waitsOf_16 25 rfl 19 rfl hf (fun hf => ?_) (fun hf => ?_)
  · refine at_aload_n hO 1 rfl rfl dX9_waitsOf_25 26 rfl ?_
    refine at_iload_n hO 2 rfl rfl dX9_waitsOf_26 27 rfl ?_
    refine at_iload_n hO 3 rfl rfl dX9_waitsOf_27 28 rfl ?_
    refine at_iload_n hO 4 rfl rfl dX9_waitsOf_28 29 rfl ?_
    refine at_iload hO 5 rfl dX9_waitsOf_29 31 rfl ?_
    refine at_callV0 (As := [vi p1, vi p2, vi p3, vi p4]) (st := []) hO (c_X9_findWorths _ G hO.g s4 p1 p2 p3 p4) mb_X9_findWorths mi_X9_findWorths lk_X9_184 rfl ⟨_, rfl, rfl⟩ rfl ⟨(Nat.le_of_ble_eq_true rfl), (Nat.le_of_ble_eq_true rfl)⟩ (Nat.le_of_ble_eq_true rfl) rfl dX9_waitsOf_31 34 rfl hf (fun r6 s7 hf => ?_)
    refine at_aload_n hO 1 rfl rfl dX9_waitsOf_34 35 rfl ?_
    refine at_getR hO fl_X9_37 rfl rfl dX9_waitsOf_35 38 rfl ?_
    refine at_iconst hO dX9_waitsOf_38 39 rfl ?_
    refine at_iload_n hO 3 rfl rfl dX9_waitsOf_39 40 rfl ?_
    refine at_imul hO dX9_waitsOf_40 41 rfl ?_
    refine at_iload_n hO 2 rfl rfl dX9_waitsOf_41 42 rfl ?_
    refine at_iadd hO dX9_waitsOf_42 43 rfl ?_
    obtain ⟨h8, hf⟩ := chk_some hf
    refine at_laload hO rfl (Nat.le_of_ble_eq_true rfl) h8 (((3 * p2) + p1).toNat) rfl dX9_waitsOf_43 44 rfl ?_
    refine at_lload hO 0 rfl dX9_waitsOf_44 46 rfl ?_
    refine at_iload hO 6 rfl dX9_waitsOf_46 48 rfl ?_
    refine at_callS2 (As := [vl (s7 68 ((3 * p2) + p1).toNat), vl r3, vi p5]) (st := []) hO (c_X9_part _ G hO.g s7 (s7 68 ((3 * p2) + p1).toNat) r3 p5) mb_X9_part ms_X9_part lk_X9_188 rfl ⟨(Nat.le_of_ble_eq_true rfl), (Nat.le_of_ble_eq_true rfl)⟩ (Nat.le_of_ble_eq_true rfl) rfl dX9_waitsOf_48 51 rfl hf (fun r9 s10 hf => ?_)
    exact at_lreturn hO dX9_waitsOf_51 hf
  · refine at_bipush hO (by decide) dX9_waitsOf_19 21 rfl ?_
    refine at_callS2 (As := [vi (-3)]) (st := []) hO (c_X9_no _ G hO.g s4 (-3)) mb_X9_no ms_X9_no lk_X9_181 rfl ⟨(Nat.le_of_ble_eq_true rfl), (Nat.le_of_ble_eq_true rfl)⟩ (Nat.le_of_ble_eq_true rfl) rfl dX9_waitsOf_21 24 rfl hf (fun r11 s12 hf => ?_)
    exact at_lreturn hO dX9_waitsOf_24 hf

def B_X9_waits_34 (s : St) : Option Rt := cll (f_X9_no s (-2)) (fun r1 s2 => some (r1, s2))
set_option maxRecDepth 100000 in
set_option maxHeartbeats 4000000 in
theorem wB_X9_waits_34 {X : CX} {G : Ge} {Z : Rt} (hO : rr_OK X G cX9_waits 6 RX9 (some .long) 10 251) (s : St) (hf : B_X9_waits_34 s = some Z) : rr_AT X G 6 2 Z 34 [] [] s := by
  unfold B_X9_waits_34 at hf
  refine at_bipush hO (by decide) dX9_waits_34 36 rfl ?_
  refine at_callS2 (As := [vi (-2)]) (st := []) hO (c_X9_no _ G hO.g s (-2)) mb_X9_no ms_X9_no lk_X9_181 rfl ⟨(Nat.le_of_ble_eq_true rfl), (Nat.le_of_ble_eq_true rfl)⟩ (Nat.le_of_ble_eq_true rfl) rfl dX9_waits_36 39 rfl hf (fun r1 s2 hf => ?_)
  exact at_lreturn hO dX9_waits_39 hf
def f_X9_waits (s : St) (p1 p2 p3 p4 p5 : Int) : Option Rt := cll (f_X9_isWay s p1 p2 p3 p4) (fun r1 s2 => chk (in32 r1) ((if r1 = 0 then B_X9_waits_34 s2 else cll (f_X9_isTwo s2 p5) (fun r4 s5 => chk (in32 r4) ((if r4 = 0 then B_X9_waits_34 s5 else cll (f_X9_waitsOf s5 p1 p2 p3 p4 p5) (fun r7 s8 => some (r7, s8))))))))
set_option maxRecDepth 100000 in
set_option maxHeartbeats 4000000 in
theorem c_X9_waits (l : Launch) (G : Ge) (hG : rr_GD G) (s : St) (p1 p2 p3 p4 p5 : Int) : rr_Ct l G yX9_waits cX9_waits 6 (some .long) 10 251 2 [vr G 58, vi p1, vi p2, vi p3, vi p4, vi p5] s (f_X9_waits s p1 p2 p3 p4 p5) := by
  refine rr_mk (lv := [(0, vr G 58), (1, vi p1), (2, vi p2), (3, vi p3), (4, vi p4), (5, vi p5)]) RX9 (by decide) rfl hG (Nat.le_of_ble_eq_true rfl) rfl ?_
  intro X Z hO hf
  unfold f_X9_waits at hf
  refine at_aload_n hO 0 rfl rfl dX9_waits_0 1 rfl ?_
  refine at_iload_n hO 1 rfl rfl dX9_waits_1 2 rfl ?_
  refine at_iload_n hO 2 rfl rfl dX9_waits_2 3 rfl ?_
  refine at_iload_n hO 3 rfl rfl dX9_waits_3 4 rfl ?_
  refine at_iload hO 4 rfl dX9_waits_4 6 rfl ?_
  refine at_callV1 (As := [vi p1, vi p2, vi p3, vi p4]) (st := []) hO (c_X9_isWay _ G hO.g s p1 p2 p3 p4) mb_X9_isWay mi_X9_isWay lk_X9_151 rfl ⟨_, rfl, rfl⟩ rfl ⟨(Nat.le_of_ble_eq_true rfl), (Nat.le_of_ble_eq_true rfl)⟩ (Nat.le_of_ble_eq_true rfl) rfl dX9_waits_6 9 rfl hf (fun r1 s2 hf => ?_)
  obtain ⟨h3, hf⟩ := chk_some hf
  refine at_if_eq hO h3 dX9_waits_9 34 rfl 12 rfl hf (fun hf => ?_) (fun hf => ?_)
  · exact at_sub (fun ls h => lv_sub h [] rfl) (wB_X9_waits_34 hO s2 hf)
  · refine at_iload hO 5 rfl dX9_waits_12 14 rfl ?_
    refine at_callS1 (As := [vi p5]) (st := []) hO (c_X9_isTwo _ G hO.g s2 p5) mb_X9_isTwo ms_X9_isTwo lk_X9_142 rfl ⟨(Nat.le_of_ble_eq_true rfl), (Nat.le_of_ble_eq_true rfl)⟩ (Nat.le_of_ble_eq_true rfl) rfl dX9_waits_14 17 rfl hf (fun r4 s5 hf => ?_)
    obtain ⟨h6, hf⟩ := chk_some hf
    refine at_if_eq hO h6 dX9_waits_17 34 rfl 20 rfl hf (fun hf => ?_) (fun hf => ?_)
    · exact at_sub (fun ls h => lv_sub h [] rfl) (wB_X9_waits_34 hO s5 hf)
    · refine at_aload_n hO 0 rfl rfl dX9_waits_20 21 rfl ?_
      refine at_iload_n hO 1 rfl rfl dX9_waits_21 22 rfl ?_
      refine at_iload_n hO 2 rfl rfl dX9_waits_22 23 rfl ?_
      refine at_iload_n hO 3 rfl rfl dX9_waits_23 24 rfl ?_
      refine at_iload hO 4 rfl dX9_waits_24 26 rfl ?_
      refine at_iload hO 5 rfl dX9_waits_26 28 rfl ?_
      refine at_callV2 (As := [vi p1, vi p2, vi p3, vi p4, vi p5]) (st := []) hO (c_X9_waitsOf _ G hO.g s5 p1 p2 p3 p4 p5) mb_X9_waitsOf mi_X9_waitsOf lk_X9_192 rfl ⟨_, rfl, rfl⟩ rfl ⟨(Nat.le_of_ble_eq_true rfl), (Nat.le_of_ble_eq_true rfl)⟩ (Nat.le_of_ble_eq_true rfl) rfl dX9_waits_28 31 rfl hf (fun r7 s8 hf => ?_)
      refine at_goto hO dX9_waits_31 39 rfl ?_
      exact at_lreturn hO dX9_waits_39 hf

def f_X9_goesOf (s : St) (p1 p2 p3 p4 : Int) : Option Rt := cll (f_X9_alike s p1 p2) (fun r1 s2 => cll (f_X9_weight s2 r1) (fun r3 s4 => chk (in64 r3) ((if r3 = 0 then some ((-3), s4) else cll (f_X9_findWorths s4 p1 p2 p3 p4) (fun _ s7 => chk (in32 (s7 58 12)) ((if (s7 58 12) = 0 then some (0, s7) else some (1, s7))))))))
set_option maxRecDepth 100000 in
set_option maxHeartbeats 4000000 in
theorem c_X9_goesOf (l : Launch) (G : Ge) (hG : rr_GD G) (s : St) (p1 p2 p3 p4 : Int) : rr_Ct l G yX9_goesOf cX9_goesOf 5 (some .int) 9 224 1 [vr G 58, vi p1, vi p2, vi p3, vi p4] s (f_X9_goesOf s p1 p2 p3 p4) := by
  refine rr_mk (lv := [(0, vr G 58), (1, vi p1), (2, vi p2), (3, vi p3), (4, vi p4)]) RX9 (by decide) rfl hG (Nat.le_of_ble_eq_true rfl) rfl ?_
  intro X Z hO hf
  unfold f_X9_goesOf at hf
  refine at_aload_n hO 0 rfl rfl dX9_goesOf_0 1 rfl ?_
  refine at_aload_n hO 0 rfl rfl dX9_goesOf_1 2 rfl ?_
  refine at_iload_n hO 1 rfl rfl dX9_goesOf_2 3 rfl ?_
  refine at_iload_n hO 2 rfl rfl dX9_goesOf_3 4 rfl ?_
  refine at_callV1 (As := [vi p1, vi p2]) (st := [vr G 58]) hO (c_X9_alike _ G hO.g s p1 p2) mb_X9_alike mi_X9_alike lk_X9_170 rfl ⟨_, rfl, rfl⟩ rfl ⟨(Nat.le_of_ble_eq_true rfl), (Nat.le_of_ble_eq_true rfl)⟩ (Nat.le_of_ble_eq_true rfl) rfl dX9_goesOf_4 7 rfl hf (fun r1 s2 hf => ?_)
  refine at_callV2 (As := [vi r1]) (st := []) hO (c_X9_weight _ G hO.g s2 r1) mb_X9_weight mi_X9_weight lk_X9_166 rfl ⟨_, rfl, rfl⟩ rfl ⟨(Nat.le_of_ble_eq_true rfl), (Nat.le_of_ble_eq_true rfl)⟩ (Nat.le_of_ble_eq_true rfl) rfl dX9_goesOf_7 10 rfl hf (fun r3 s4 hf => ?_)
  refine at_lconst (n := 0) hO (by decide) dX9_goesOf_10 11 rfl ?_
  obtain ⟨h5, hf⟩ := chk_some hf
  refine at_lcmp_ne hO h5 (by decide) dX9_goesOf_11 dX9_goesOf_12 18 rfl 15 rfl hf (fun hf => ?_) (fun hf => ?_)
  · refine at_aload_n hO 0 rfl rfl dX9_goesOf_18 19 rfl ?_
    refine at_iload_n hO 1 rfl rfl dX9_goesOf_19 20 rfl ?_
    refine at_iload_n hO 2 rfl rfl dX9_goesOf_20 21 rfl ?_
    refine at_iload_n hO 3 rfl rfl dX9_goesOf_21 22 rfl ?_
    refine at_iload hO 4 rfl dX9_goesOf_22 24 rfl ?_
    refine at_callV0 (As := [vi p1, vi p2, vi p3, vi p4]) (st := []) hO (c_X9_findWorths _ G hO.g s4 p1 p2 p3 p4) mb_X9_findWorths mi_X9_findWorths lk_X9_184 rfl ⟨_, rfl, rfl⟩ rfl ⟨(Nat.le_of_ble_eq_true rfl), (Nat.le_of_ble_eq_true rfl)⟩ (Nat.le_of_ble_eq_true rfl) rfl dX9_goesOf_24 27 rfl hf (fun r6 s7 hf => ?_)
    refine at_aload_n hO 0 rfl rfl dX9_goesOf_27 28 rfl ?_
    refine at_getZ hO fl_X9_177 rfl rfl dX9_goesOf_28 31 rfl ?_
    obtain ⟨h8, hf⟩ := chk_some hf
    refine at_if_eq hO h8 dX9_goesOf_31 38 rfl 34 rfl hf (fun hf => ?_) (fun hf => ?_)
    · refine at_iconst hO dX9_goesOf_38 39 rfl ?_
      exact at_ireturn hO dX9_goesOf_39 hf
    · refine at_iconst hO dX9_goesOf_34 35 rfl ?_
      refine at_goto hO dX9_goesOf_35 39 rfl ?_
      exact at_ireturn hO dX9_goesOf_39 hf
  · refine at_bipush hO (by decide) dX9_goesOf_15 17 rfl ?_
    exact at_ireturn hO dX9_goesOf_17 hf

def f_X9_goes (s : St) (p1 p2 p3 p4 : Int) : Option Rt := cll (f_X9_isWay s p1 p2 p3 p4) (fun r1 s2 => chk (in32 r1) ((if r1 = 0 then some ((-2), s2) else cll (f_X9_goesOf s2 p1 p2 p3 p4) (fun r4 s5 => some (r4, s5)))))
set_option maxRecDepth 100000 in
set_option maxHeartbeats 4000000 in
theorem c_X9_goes (l : Launch) (G : Ge) (hG : rr_GD G) (s : St) (p1 p2 p3 p4 : Int) : rr_Ct l G yX9_goes cX9_goes 5 (some .int) 10 248 1 [vr G 58, vi p1, vi p2, vi p3, vi p4] s (f_X9_goes s p1 p2 p3 p4) := by
  refine rr_mk (lv := [(0, vr G 58), (1, vi p1), (2, vi p2), (3, vi p3), (4, vi p4)]) RX9 (by decide) rfl hG (Nat.le_of_ble_eq_true rfl) rfl ?_
  intro X Z hO hf
  unfold f_X9_goes at hf
  refine at_aload_n hO 0 rfl rfl dX9_goes_0 1 rfl ?_
  refine at_iload_n hO 1 rfl rfl dX9_goes_1 2 rfl ?_
  refine at_iload_n hO 2 rfl rfl dX9_goes_2 3 rfl ?_
  refine at_iload_n hO 3 rfl rfl dX9_goes_3 4 rfl ?_
  refine at_iload hO 4 rfl dX9_goes_4 6 rfl ?_
  refine at_callV1 (As := [vi p1, vi p2, vi p3, vi p4]) (st := []) hO (c_X9_isWay _ G hO.g s p1 p2 p3 p4) mb_X9_isWay mi_X9_isWay lk_X9_151 rfl ⟨_, rfl, rfl⟩ rfl ⟨(Nat.le_of_ble_eq_true rfl), (Nat.le_of_ble_eq_true rfl)⟩ (Nat.le_of_ble_eq_true rfl) rfl dX9_goes_6 9 rfl hf (fun r1 s2 hf => ?_)
  obtain ⟨h3, hf⟩ := chk_some hf
  refine at_if_eq hO h3 dX9_goes_9 24 rfl 12 rfl hf (fun hf => ?_) (fun hf => ?_)
  · refine at_bipush hO (by decide) dX9_goes_24 26 rfl ?_
    exact at_ireturn hO dX9_goes_26 hf
  · refine at_aload_n hO 0 rfl rfl dX9_goes_12 13 rfl ?_
    refine at_iload_n hO 1 rfl rfl dX9_goes_13 14 rfl ?_
    refine at_iload_n hO 2 rfl rfl dX9_goes_14 15 rfl ?_
    refine at_iload_n hO 3 rfl rfl dX9_goes_15 16 rfl ?_
    refine at_iload hO 4 rfl dX9_goes_16 18 rfl ?_
    refine at_callV1 (As := [vi p1, vi p2, vi p3, vi p4]) (st := []) hO (c_X9_goesOf _ G hO.g s2 p1 p2 p3 p4) mb_X9_goesOf mi_X9_goesOf lk_X9_196 rfl ⟨_, rfl, rfl⟩ rfl ⟨(Nat.le_of_ble_eq_true rfl), (Nat.le_of_ble_eq_true rfl)⟩ (Nat.le_of_ble_eq_true rfl) rfl dX9_goes_18 21 rfl hf (fun r4 s5 hf => ?_)
    refine at_goto hO dX9_goes_21 26 rfl ?_
    exact at_ireturn hO dX9_goes_26 hf

def S_X9_dryDays_28 (rec6 : St → Int → Int → Int → Int → Int → Int → Option Rt) (rec28 : St → Int → Int → Int → Int → Int → Int → Int → Int → Option Rt) (s : St) (v1 v2 v3 v4 v5 v6 v7 v8 : Int) : Option Rt := chk (in32 v8) (chk (in32 v4) ((if v4 < v8 then chk (in32 v7) ((if v7 = 0 then rec6 s v1 v2 v3 v4 (v5 + 0) (v6 + 1) else rec6 s v1 v2 v3 v4 (v5 + 1) (v6 + 1))) else chk (in32 v7) ((if v7 = 0 then rec28 s v1 v2 v3 v4 v5 v6 0 (v8 + 1) else cll (f_X9_isWet s v1 v6 v8) (fun r5 s6 => chk (in32 r5) ((if r5 = 0 then rec28 s6 v1 v2 v3 v4 v5 v6 1 (v8 + 1) else rec28 s6 v1 v2 v3 v4 v5 v6 0 (v8 + 1)))))))))
def L_X9_dryDays_28 (rec6 : St → Int → Int → Int → Int → Int → Int → Option Rt) : Nat → St → Int → Int → Int → Int → Int → Int → Int → Int → Option Rt
  | 0, _, _, _, _, _, _, _, _, _ => none
  | n + 1, s, v1, v2, v3, v4, v5, v6, v7, v8 => S_X9_dryDays_28 rec6 (L_X9_dryDays_28 rec6 n) s v1 v2 v3 v4 v5 v6 v7 v8
set_option maxRecDepth 100000 in
set_option maxHeartbeats 4000000 in
theorem wS_X9_dryDays_28 {X : CX} {G : Ge} {Z : Rt} {rec6 : St → Int → Int → Int → Int → Int → Int → Option Rt} {rec28 : St → Int → Int → Int → Int → Int → Int → Int → Int → Option Rt} (hO : rr_OK X G cX9_dryDays 9 RX9 (some .int) 6 136) (hrec6 : ∀ (s : St) (v1 v2 v3 v4 v5 v6 : Int), rec6 s v1 v2 v3 v4 v5 v6 = some Z → rr_AT X G 9 1 Z 6 [(0, vr G 58), (1, vi v1), (2, vi v2), (3, vi v3), (4, vi v4), (5, vi v5), (6, vi v6)] [] s) (hrec28 : ∀ (s : St) (v1 v2 v3 v4 v5 v6 v7 v8 : Int), rec28 s v1 v2 v3 v4 v5 v6 v7 v8 = some Z → rr_AT X G 9 1 Z 28 [(0, vr G 58), (1, vi v1), (2, vi v2), (3, vi v3), (4, vi v4), (5, vi v5), (6, vi v6), (7, vi v7), (8, vi v8)] [] s) (s : St) (v1 v2 v3 v4 v5 v6 v7 v8 : Int) (hf : S_X9_dryDays_28 rec6 rec28 s v1 v2 v3 v4 v5 v6 v7 v8 = some Z) : rr_AT X G 9 1 Z 28 [(0, vr G 58), (1, vi v1), (2, vi v2), (3, vi v3), (4, vi v4), (5, vi v5), (6, vi v6), (7, vi v7), (8, vi v8)] [] s := by
  unfold S_X9_dryDays_28 at hf
  refine at_iload hO 8 rfl dX9_dryDays_28 30 rfl ?_
  refine at_iload hO 4 rfl dX9_dryDays_30 32 rfl ?_
  obtain ⟨h1, hf⟩ := chk_some hf
  obtain ⟨h2, hf⟩ := chk_some hf
  refine at_icmp_gt hO h1 h2 dX9_dryDays_32 65 rfl 35 rfl hf (fun hf => ?_) (fun hf => ?_)
  · refine at_iload hO 5 rfl dX9_dryDays_65 67 rfl ?_
    refine at_iload hO 7 rfl dX9_dryDays_67 69 rfl ?_
    obtain ⟨h3, hf⟩ := chk_some hf
    refine at_if_eq hO h3 dX9_dryDays_69 76 rfl 72 rfl hf (fun hf => ?_) (fun hf => ?_)
    · refine at_iconst hO dX9_dryDays_76 77 rfl ?_
      refine at_iadd hO dX9_dryDays_77 78 rfl ?_
      refine at_istore hO (lv' := [(5, vi (v5 + 0)), (0, vr G 58), (1, vi v1), (2, vi v2), (3, vi v3), (4, vi v4), (6, vi v6), (7, vi v7), (8, vi v8)]) (Nat.le_of_ble_eq_true rfl) rfl dX9_dryDays_78 80 rfl ?_
      refine at_iinc hO (lv' := [(6, vi (v6 + 1)), (5, vi (v5 + 0)), (0, vr G 58), (1, vi v1), (2, vi v2), (3, vi v3), (4, vi v4), (7, vi v7), (8, vi v8)]) 6 rfl (Nat.le_of_ble_eq_true rfl) rfl dX9_dryDays_80 83 rfl ?_
      refine at_goto hO dX9_dryDays_83 6 rfl ?_
      exact at_sub (fun ls h => lv_sub h [2, 3, 4, 5, 6, 1, 0] rfl) (hrec6 s v1 v2 v3 v4 (v5 + 0) (v6 + 1) hf)
    · refine at_iconst hO dX9_dryDays_72 73 rfl ?_
      refine at_goto hO dX9_dryDays_73 77 rfl ?_
      refine at_iadd hO dX9_dryDays_77 78 rfl ?_
      refine at_istore hO (lv' := [(5, vi (v5 + 1)), (0, vr G 58), (1, vi v1), (2, vi v2), (3, vi v3), (4, vi v4), (6, vi v6), (7, vi v7), (8, vi v8)]) (Nat.le_of_ble_eq_true rfl) rfl dX9_dryDays_78 80 rfl ?_
      refine at_iinc hO (lv' := [(6, vi (v6 + 1)), (5, vi (v5 + 1)), (0, vr G 58), (1, vi v1), (2, vi v2), (3, vi v3), (4, vi v4), (7, vi v7), (8, vi v8)]) 6 rfl (Nat.le_of_ble_eq_true rfl) rfl dX9_dryDays_80 83 rfl ?_
      refine at_goto hO dX9_dryDays_83 6 rfl ?_
      exact at_sub (fun ls h => lv_sub h [2, 3, 4, 5, 6, 1, 0] rfl) (hrec6 s v1 v2 v3 v4 (v5 + 1) (v6 + 1) hf)
  · refine at_iload hO 7 rfl dX9_dryDays_35 37 rfl ?_
    obtain ⟨h4, hf⟩ := chk_some hf
    refine at_if_eq hO h4 dX9_dryDays_37 56 rfl 40 rfl hf (fun hf => ?_) (fun hf => ?_)
    · refine at_iconst hO dX9_dryDays_56 57 rfl ?_
      refine at_istore hO (lv' := [(7, vi 0), (0, vr G 58), (1, vi v1), (2, vi v2), (3, vi v3), (4, vi v4), (5, vi v5), (6, vi v6), (8, vi v8)]) (Nat.le_of_ble_eq_true rfl) rfl dX9_dryDays_57 59 rfl ?_
      refine at_iinc hO (lv' := [(8, vi (v8 + 1)), (7, vi 0), (0, vr G 58), (1, vi v1), (2, vi v2), (3, vi v3), (4, vi v4), (5, vi v5), (6, vi v6)]) 8 rfl (Nat.le_of_ble_eq_true rfl) rfl dX9_dryDays_59 62 rfl ?_
      refine at_goto hO dX9_dryDays_62 28 rfl ?_
      exact at_sub (fun ls h => lv_sub h [2, 3, 4, 5, 6, 7, 8, 1, 0] rfl) (hrec28 s v1 v2 v3 v4 v5 v6 0 (v8 + 1) hf)
    · refine at_aload_n hO 0 rfl rfl dX9_dryDays_40 41 rfl ?_
      refine at_iload_n hO 1 rfl rfl dX9_dryDays_41 42 rfl ?_
      refine at_iload hO 6 rfl dX9_dryDays_42 44 rfl ?_
      refine at_iload hO 8 rfl dX9_dryDays_44 46 rfl ?_
      refine at_callV1 (As := [vi v1, vi v6, vi v8]) (st := []) hO (c_X9_isWet _ G hO.g s v1 v6 v8) mb_X9_isWet mi_X9_isWet lk_X9_135 rfl ⟨_, rfl, rfl⟩ rfl ⟨(Nat.le_of_ble_eq_true rfl), (Nat.le_of_ble_eq_true rfl)⟩ (Nat.le_of_ble_eq_true rfl) rfl dX9_dryDays_46 49 rfl hf (fun r5 s6 hf => ?_)
      obtain ⟨h7, hf⟩ := chk_some hf
      refine at_if_ne hO h7 dX9_dryDays_49 56 rfl 52 rfl hf (fun hf => ?_) (fun hf => ?_)
      · refine at_iconst hO dX9_dryDays_56 57 rfl ?_
        refine at_istore hO (lv' := [(7, vi 0), (0, vr G 58), (1, vi v1), (2, vi v2), (3, vi v3), (4, vi v4), (5, vi v5), (6, vi v6), (8, vi v8)]) (Nat.le_of_ble_eq_true rfl) rfl dX9_dryDays_57 59 rfl ?_
        refine at_iinc hO (lv' := [(8, vi (v8 + 1)), (7, vi 0), (0, vr G 58), (1, vi v1), (2, vi v2), (3, vi v3), (4, vi v4), (5, vi v5), (6, vi v6)]) 8 rfl (Nat.le_of_ble_eq_true rfl) rfl dX9_dryDays_59 62 rfl ?_
        refine at_goto hO dX9_dryDays_62 28 rfl ?_
        exact at_sub (fun ls h => lv_sub h [2, 3, 4, 5, 6, 7, 8, 1, 0] rfl) (hrec28 s6 v1 v2 v3 v4 v5 v6 0 (v8 + 1) hf)
      · refine at_iconst hO dX9_dryDays_52 53 rfl ?_
        refine at_goto hO dX9_dryDays_53 57 rfl ?_
        refine at_istore hO (lv' := [(7, vi 1), (0, vr G 58), (1, vi v1), (2, vi v2), (3, vi v3), (4, vi v4), (5, vi v5), (6, vi v6), (8, vi v8)]) (Nat.le_of_ble_eq_true rfl) rfl dX9_dryDays_57 59 rfl ?_
        refine at_iinc hO (lv' := [(8, vi (v8 + 1)), (7, vi 1), (0, vr G 58), (1, vi v1), (2, vi v2), (3, vi v3), (4, vi v4), (5, vi v5), (6, vi v6)]) 8 rfl (Nat.le_of_ble_eq_true rfl) rfl dX9_dryDays_59 62 rfl ?_
        refine at_goto hO dX9_dryDays_62 28 rfl ?_
        exact at_sub (fun ls h => lv_sub h [2, 3, 4, 5, 6, 7, 8, 1, 0] rfl) (hrec28 s6 v1 v2 v3 v4 v5 v6 1 (v8 + 1) hf)
theorem wL_X9_dryDays_28 {X : CX} {G : Ge} {Z : Rt} {rec6 : St → Int → Int → Int → Int → Int → Int → Option Rt} (hO : rr_OK X G cX9_dryDays 9 RX9 (some .int) 6 136) (hrec6 : ∀ (s : St) (v1 v2 v3 v4 v5 v6 : Int), rec6 s v1 v2 v3 v4 v5 v6 = some Z → rr_AT X G 9 1 Z 6 [(0, vr G 58), (1, vi v1), (2, vi v2), (3, vi v3), (4, vi v4), (5, vi v5), (6, vi v6)] [] s) : ∀ (n : Nat) (s : St) (v1 v2 v3 v4 v5 v6 v7 v8 : Int), L_X9_dryDays_28 rec6 n s v1 v2 v3 v4 v5 v6 v7 v8 = some Z → rr_AT X G 9 1 Z 28 [(0, vr G 58), (1, vi v1), (2, vi v2), (3, vi v3), (4, vi v4), (5, vi v5), (6, vi v6), (7, vi v7), (8, vi v8)] [] s := by
  intro n
  induction n with
  | zero =>
    intro s v1 v2 v3 v4 v5 v6 v7 v8 hf
    cases hf
  | succ n ih =>
    intro s v1 v2 v3 v4 v5 v6 v7 v8 hf
    exact wS_X9_dryDays_28 hO hrec6 ih s v1 v2 v3 v4 v5 v6 v7 v8 hf
def S_X9_dryDays_6 (rec6 : St → Int → Int → Int → Int → Int → Int → Option Rt) (s : St) (v1 v2 v3 v4 v5 v6 : Int) : Option Rt := chk (in32 v6) ((if 30 ≤ v6 then some (v5, s) else chk (in32 (v2 + 7)) ((if (v2 + 7) ≤ v6 then some (v5, s) else L_X9_dryDays_28 rec6 FU s v1 v2 v3 v4 v5 v6 1 v3))))
def L_X9_dryDays_6 : Nat → St → Int → Int → Int → Int → Int → Int → Option Rt
  | 0, _, _, _, _, _, _, _ => none
  | n + 1, s, v1, v2, v3, v4, v5, v6 => S_X9_dryDays_6 (L_X9_dryDays_6 n) s v1 v2 v3 v4 v5 v6
set_option maxRecDepth 100000 in
set_option maxHeartbeats 4000000 in
theorem wS_X9_dryDays_6 {X : CX} {G : Ge} {Z : Rt} {rec6 : St → Int → Int → Int → Int → Int → Int → Option Rt} (hO : rr_OK X G cX9_dryDays 9 RX9 (some .int) 6 136) (hrec6 : ∀ (s : St) (v1 v2 v3 v4 v5 v6 : Int), rec6 s v1 v2 v3 v4 v5 v6 = some Z → rr_AT X G 9 1 Z 6 [(0, vr G 58), (1, vi v1), (2, vi v2), (3, vi v3), (4, vi v4), (5, vi v5), (6, vi v6)] [] s) (s : St) (v1 v2 v3 v4 v5 v6 : Int) (hf : S_X9_dryDays_6 rec6 s v1 v2 v3 v4 v5 v6 = some Z) : rr_AT X G 9 1 Z 6 [(0, vr G 58), (1, vi v1), (2, vi v2), (3, vi v3), (4, vi v4), (5, vi v5), (6, vi v6)] [] s := by
  unfold S_X9_dryDays_6 at hf
  refine at_iload hO 6 rfl dX9_dryDays_6 8 rfl ?_
  refine at_bipush hO (by decide) dX9_dryDays_8 10 rfl ?_
  obtain ⟨h1, hf⟩ := chk_some hf
  refine at_icmp_ge hO h1 (by decide) dX9_dryDays_10 86 rfl 13 rfl hf (fun hf => ?_) (fun hf => ?_)
  · refine at_iload hO 5 rfl dX9_dryDays_86 88 rfl ?_
    exact at_ireturn hO dX9_dryDays_88 hf
  · refine at_iload hO 6 rfl dX9_dryDays_13 15 rfl ?_
    refine at_iload_n hO 2 rfl rfl dX9_dryDays_15 16 rfl ?_
    refine at_bipush hO (by decide) dX9_dryDays_16 18 rfl ?_
    refine at_iadd hO dX9_dryDays_18 19 rfl ?_
    obtain ⟨h2, hf⟩ := chk_some hf
    refine at_icmp_ge hO h1 h2 dX9_dryDays_19 86 rfl 22 rfl hf (fun hf => ?_) (fun hf => ?_)
    · refine at_iload hO 5 rfl dX9_dryDays_86 88 rfl ?_
      exact at_ireturn hO dX9_dryDays_88 hf
    · refine at_iconst hO dX9_dryDays_22 23 rfl ?_
      refine at_istore hO (lv' := [(7, vi 1), (0, vr G 58), (1, vi v1), (2, vi v2), (3, vi v3), (4, vi v4), (5, vi v5), (6, vi v6)]) (Nat.le_of_ble_eq_true rfl) rfl dX9_dryDays_23 25 rfl ?_
      refine at_iload_n hO 4 rfl rfl dX9_dryDays_25 26 rfl ?_
      refine at_istore hO (lv' := [(8, vi v3), (7, vi 1), (0, vr G 58), (1, vi v1), (2, vi v2), (3, vi v3), (4, vi v4), (5, vi v5), (6, vi v6)]) (Nat.le_of_ble_eq_true rfl) rfl dX9_dryDays_26 28 rfl ?_
      exact at_sub (fun ls h => lv_sub h [2, 3, 4, 5, 6, 7, 8, 1, 0] rfl) (wL_X9_dryDays_28 hO hrec6 FU s v1 v2 v3 v4 v5 v6 1 v3 hf)
theorem wL_X9_dryDays_6 {X : CX} {G : Ge} {Z : Rt} (hO : rr_OK X G cX9_dryDays 9 RX9 (some .int) 6 136) : ∀ (n : Nat) (s : St) (v1 v2 v3 v4 v5 v6 : Int), L_X9_dryDays_6 n s v1 v2 v3 v4 v5 v6 = some Z → rr_AT X G 9 1 Z 6 [(0, vr G 58), (1, vi v1), (2, vi v2), (3, vi v3), (4, vi v4), (5, vi v5), (6, vi v6)] [] s := by
  intro n
  induction n with
  | zero =>
    intro s v1 v2 v3 v4 v5 v6 hf
    cases hf
  | succ n ih =>
    intro s v1 v2 v3 v4 v5 v6 hf
    exact wS_X9_dryDays_6 hO ih s v1 v2 v3 v4 v5 v6 hf
def f_X9_dryDays (s : St) (p1 p2 p3 p4 : Int) : Option Rt := L_X9_dryDays_6 FU s p1 p2 p3 p4 0 p2
set_option maxRecDepth 100000 in
set_option maxHeartbeats 4000000 in
theorem c_X9_dryDays (l : Launch) (G : Ge) (hG : rr_GD G) (s : St) (p1 p2 p3 p4 : Int) : rr_Ct l G yX9_dryDays cX9_dryDays 9 (some .int) 6 136 1 [vr G 58, vi p1, vi p2, vi p3, vi p4] s (f_X9_dryDays s p1 p2 p3 p4) := by
  refine rr_mk (lv := [(0, vr G 58), (1, vi p1), (2, vi p2), (3, vi p3), (4, vi p4)]) RX9 (by decide) rfl hG (Nat.le_of_ble_eq_true rfl) rfl ?_
  intro X Z hO hf
  unfold f_X9_dryDays at hf
  refine at_iconst hO dX9_dryDays_0 1 rfl ?_
  refine at_istore hO (lv' := [(5, vi 0), (0, vr G 58), (1, vi p1), (2, vi p2), (3, vi p3), (4, vi p4)]) (Nat.le_of_ble_eq_true rfl) rfl dX9_dryDays_1 3 rfl ?_
  refine at_iload_n hO 3 rfl rfl dX9_dryDays_3 4 rfl ?_
  refine at_istore hO (lv' := [(6, vi p2), (5, vi 0), (0, vr G 58), (1, vi p1), (2, vi p2), (3, vi p3), (4, vi p4)]) (Nat.le_of_ble_eq_true rfl) rfl dX9_dryDays_4 6 rfl ?_
  exact at_sub (fun ls h => lv_sub h [2, 3, 4, 5, 6, 1, 0] rfl) (wL_X9_dryDays_6 hO FU s p1 p2 p3 p4 0 p2 hf)

def S_X9_keepOf_55 (rec44 : St → Int → Int → Int → Int → Int → Int → Int → Int → Int → Int → Int → Option Rt) (rec55 : St → Int → Int → Int → Int → Int → Int → Int → Int → Int → Int → Int → Int → Option Rt) (s : St) (v1 v2 v5 v6 v7 v8 v9 v10 v11 v12 v13 v14 : Int) : Option Rt := chk (in32 ((v14 + v13) - 1)) (chk (in32 v8) ((if v8 < ((v14 + v13) - 1) then rec44 s v1 v2 v5 v6 v7 v8 v9 v10 v11 v12 (v13 + 1) else chk (ix (3 * v12) 27) (chk (ix ((3 * v12) + 1) 27) (chk (ix ((3 * v12) + 2) 27) (cll (f_X9_dryDays (su (su (su (su s 67 (3 * v12).toNat v14) 67 ((3 * v12) + 1).toNat ((v14 + v13) - 1)) 67 ((3 * v12) + 2).toNat v2) 58 9 (v12 + 1)) v1 v2 v7 v8) (fun r6 s7 => chk (in32 r6) (chk (in32 v9) ((if r6 ≤ v9 then rec55 s7 v1 v2 v5 v6 v7 v8 v9 v10 v11 v12 v13 (v14 + 1) else rec55 s7 v1 v2 v5 v6 v7 v8 r6 v14 v13 v12 v13 (v14 + 1)))))))))))
def L_X9_keepOf_55 (rec44 : St → Int → Int → Int → Int → Int → Int → Int → Int → Int → Int → Int → Option Rt) : Nat → St → Int → Int → Int → Int → Int → Int → Int → Int → Int → Int → Int → Int → Option Rt
  | 0, _, _, _, _, _, _, _, _, _, _, _, _, _ => none
  | n + 1, s, v1, v2, v5, v6, v7, v8, v9, v10, v11, v12, v13, v14 => S_X9_keepOf_55 rec44 (L_X9_keepOf_55 rec44 n) s v1 v2 v5 v6 v7 v8 v9 v10 v11 v12 v13 v14
set_option maxRecDepth 100000 in
set_option maxHeartbeats 4000000 in
theorem wS_X9_keepOf_55 {X : CX} {G : Ge} {Z : Rt} {rec44 : St → Int → Int → Int → Int → Int → Int → Int → Int → Int → Int → Int → Option Rt} {rec55 : St → Int → Int → Int → Int → Int → Int → Int → Int → Int → Int → Int → Int → Option Rt} (hO : rr_OK X G cX9_keepOf 16 RX9 (some .int) 7 164) (hrec44 : ∀ (s : St) (v1 v2 v5 v6 v7 v8 v9 v10 v11 v12 v13 : Int), rec44 s v1 v2 v5 v6 v7 v8 v9 v10 v11 v12 v13 = some Z → rr_AT X G 16 1 Z 44 [(0, vr G 58), (1, vi v1), (2, vi v2), (5, vi v5), (6, vi v6), (7, vi v7), (8, vi v8), (9, vi v9), (10, vi v10), (11, vi v11), (12, vi v12), (13, vi v13)] [] s) (hrec55 : ∀ (s : St) (v1 v2 v5 v6 v7 v8 v9 v10 v11 v12 v13 v14 : Int), rec55 s v1 v2 v5 v6 v7 v8 v9 v10 v11 v12 v13 v14 = some Z → rr_AT X G 16 1 Z 55 [(0, vr G 58), (1, vi v1), (2, vi v2), (5, vi v5), (6, vi v6), (7, vi v7), (8, vi v8), (9, vi v9), (10, vi v10), (11, vi v11), (12, vi v12), (13, vi v13), (14, vi v14)] [] s) (s : St) (v1 v2 v5 v6 v7 v8 v9 v10 v11 v12 v13 v14 : Int) (hf : S_X9_keepOf_55 rec44 rec55 s v1 v2 v5 v6 v7 v8 v9 v10 v11 v12 v13 v14 = some Z) : rr_AT X G 16 1 Z 55 [(0, vr G 58), (1, vi v1), (2, vi v2), (5, vi v5), (6, vi v6), (7, vi v7), (8, vi v8), (9, vi v9), (10, vi v10), (11, vi v11), (12, vi v12), (13, vi v13), (14, vi v14)] [] s := by
  unfold S_X9_keepOf_55 at hf
  refine at_iload hO 12 rfl dX9_keepOf_55 57 rfl ?_
  refine at_iload hO 11 rfl dX9_keepOf_57 59 rfl ?_
  refine at_iadd hO dX9_keepOf_59 60 rfl ?_
  refine at_iconst hO dX9_keepOf_60 61 rfl ?_
  refine at_isub hO dX9_keepOf_61 62 rfl ?_
  refine at_iload hO 6 rfl dX9_keepOf_62 64 rfl ?_
  obtain ⟨h1, hf⟩ := chk_some hf
  obtain ⟨h2, hf⟩ := chk_some hf
  refine at_icmp_gt hO h1 h2 dX9_keepOf_64 153 rfl 67 rfl hf (fun hf => ?_) (fun hf => ?_)
  · refine at_iinc hO (lv' := [(13, vi (v13 + 1)), (0, vr G 58), (1, vi v1), (2, vi v2), (5, vi v5), (6, vi v6), (7, vi v7), (8, vi v8), (9, vi v9), (10, vi v10), (11, vi v11), (12, vi v12), (14, vi v14)]) 11 rfl (Nat.le_of_ble_eq_true rfl) rfl dX9_keepOf_153 156 rfl ?_
    refine at_goto hO dX9_keepOf_156 44 rfl ?_
    exact at_sub (fun ls h => lv_sub h [1, 2, 3, 4, 5, 6, 7, 8, 9, 10, 11, 0] rfl) (hrec44 s v1 v2 v5 v6 v7 v8 v9 v10 v11 v12 (v13 + 1) hf)
  · refine at_aload_n hO 0 rfl rfl dX9_keepOf_67 68 rfl ?_
    refine at_getR hO fl_X9_34 rfl rfl dX9_keepOf_68 71 rfl ?_
    refine at_iconst hO dX9_keepOf_71 72 rfl ?_
    refine at_iload hO 10 rfl dX9_keepOf_72 74 rfl ?_
    refine at_imul hO dX9_keepOf_74 75 rfl ?_
    refine at_iload hO 12 rfl dX9_keepOf_75 77 rfl ?_
    obtain ⟨h3, hf⟩ := chk_some hf
    refine at_iastore hO rfl (Nat.le_of_ble_eq_true rfl) h3 ((3 * v12).toNat) rfl dX9_keepOf_77 78 rfl ?_
    refine at_aload_n hO 0 rfl rfl dX9_keepOf_78 79 rfl ?_
    refine at_getR hO fl_X9_34 rfl rfl dX9_keepOf_79 82 rfl ?_
    refine at_iconst hO dX9_keepOf_82 83 rfl ?_
    refine at_iload hO 10 rfl dX9_keepOf_83 85 rfl ?_
    refine at_imul hO dX9_keepOf_85 86 rfl ?_
    refine at_iconst hO dX9_keepOf_86 87 rfl ?_
    refine at_iadd hO dX9_keepOf_87 88 rfl ?_
    refine at_iload hO 12 rfl dX9_keepOf_88 90 rfl ?_
    refine at_iload hO 11 rfl dX9_keepOf_90 92 rfl ?_
    refine at_iadd hO dX9_keepOf_92 93 rfl ?_
    refine at_iconst hO dX9_keepOf_93 94 rfl ?_
    refine at_isub hO dX9_keepOf_94 95 rfl ?_
    obtain ⟨h4, hf⟩ := chk_some hf
    refine at_iastore hO rfl (Nat.le_of_ble_eq_true rfl) h4 (((3 * v12) + 1).toNat) rfl dX9_keepOf_95 96 rfl ?_
    refine at_aload_n hO 0 rfl rfl dX9_keepOf_96 97 rfl ?_
    refine at_getR hO fl_X9_34 rfl rfl dX9_keepOf_97 100 rfl ?_
    refine at_iconst hO dX9_keepOf_100 101 rfl ?_
    refine at_iload hO 10 rfl dX9_keepOf_101 103 rfl ?_
    refine at_imul hO dX9_keepOf_103 104 rfl ?_
    refine at_iconst hO dX9_keepOf_104 105 rfl ?_
    refine at_iadd hO dX9_keepOf_105 106 rfl ?_
    refine at_iload_n hO 2 rfl rfl dX9_keepOf_106 107 rfl ?_
    obtain ⟨h5, hf⟩ := chk_some hf
    refine at_iastore hO rfl (Nat.le_of_ble_eq_true rfl) h5 (((3 * v12) + 2).toNat) rfl dX9_keepOf_107 108 rfl ?_
    refine at_aload_n hO 0 rfl rfl dX9_keepOf_108 109 rfl ?_
    refine at_iload hO 10 rfl dX9_keepOf_109 111 rfl ?_
    refine at_iconst hO dX9_keepOf_111 112 rfl ?_
    refine at_iadd hO dX9_keepOf_112 113 rfl ?_
    refine at_putI hO fp_X9_123 rfl rfl dX9_keepOf_113 116 rfl ?_
    refine at_aload_n hO 0 rfl rfl dX9_keepOf_116 117 rfl ?_
    refine at_iload_n hO 1 rfl rfl dX9_keepOf_117 118 rfl ?_
    refine at_iload_n hO 2 rfl rfl dX9_keepOf_118 119 rfl ?_
    refine at_iload hO 5 rfl dX9_keepOf_119 121 rfl ?_
    refine at_iload hO 6 rfl dX9_keepOf_121 123 rfl ?_
    refine at_callV1 (As := [vi v1, vi v2, vi v7, vi v8]) (st := []) hO (c_X9_dryDays _ G hO.g (su (su (su (su s 67 (3 * v12).toNat v14) 67 ((3 * v12) + 1).toNat ((v14 + v13) - 1)) 67 ((3 * v12) + 2).toNat v2) 58 9 (v12 + 1)) v1 v2 v7 v8) mb_X9_dryDays mi_X9_dryDays lk_X9_200 rfl ⟨_, rfl, rfl⟩ rfl ⟨(Nat.le_of_ble_eq_true rfl), (Nat.le_of_ble_eq_true rfl)⟩ (Nat.le_of_ble_eq_true rfl) rfl dX9_keepOf_123 126 rfl hf (fun r6 s7 hf => ?_)
    refine at_istore hO (lv' := [(15, vi r6), (0, vr G 58), (1, vi v1), (2, vi v2), (5, vi v5), (6, vi v6), (7, vi v7), (8, vi v8), (9, vi v9), (10, vi v10), (11, vi v11), (12, vi v12), (13, vi v13), (14, vi v14)]) (Nat.le_of_ble_eq_true rfl) rfl dX9_keepOf_126 128 rfl ?_
    refine at_iload hO 0 rfl dX9_keepOf_128 130 rfl ?_
    refine at_iload hO 8 rfl dX9_keepOf_130 132 rfl ?_
    obtain ⟨h8, hf⟩ := chk_some hf
    obtain ⟨h9, hf⟩ := chk_some hf
    refine at_icmp_le hO h8 h9 dX9_keepOf_132 147 rfl 135 rfl hf (fun hf => ?_) (fun hf => ?_)
    · refine at_iinc hO (lv' := [(14, vi (v14 + 1)), (15, vi r6), (0, vr G 58), (1, vi v1), (2, vi v2), (5, vi v5), (6, vi v6), (7, vi v7), (8, vi v8), (9, vi v9), (10, vi v10), (11, vi v11), (12, vi v12), (13, vi v13)]) 13 rfl (Nat.le_of_ble_eq_true rfl) rfl dX9_keepOf_147 150 rfl ?_
      refine at_goto hO dX9_keepOf_150 55 rfl ?_
      exact at_sub (fun ls h => lv_sub h [2, 3, 4, 5, 6, 7, 8, 9, 10, 11, 12, 13, 0] rfl) (hrec55 s7 v1 v2 v5 v6 v7 v8 v9 v10 v11 v12 v13 (v14 + 1) hf)
    · refine at_iload hO 0 rfl dX9_keepOf_135 137 rfl ?_
      refine at_istore hO (lv' := [(9, vi r6), (15, vi r6), (0, vr G 58), (1, vi v1), (2, vi v2), (5, vi v5), (6, vi v6), (7, vi v7), (8, vi v8), (10, vi v10), (11, vi v11), (12, vi v12), (13, vi v13), (14, vi v14)]) (Nat.le_of_ble_eq_true rfl) rfl dX9_keepOf_137 139 rfl ?_
      refine at_iload hO 13 rfl dX9_keepOf_139 141 rfl ?_
      refine at_istore hO (lv' := [(10, vi v14), (9, vi r6), (15, vi r6), (0, vr G 58), (1, vi v1), (2, vi v2), (5, vi v5), (6, vi v6), (7, vi v7), (8, vi v8), (11, vi v11), (12, vi v12), (13, vi v13), (14, vi v14)]) (Nat.le_of_ble_eq_true rfl) rfl dX9_keepOf_141 143 rfl ?_
      refine at_iload hO 12 rfl dX9_keepOf_143 145 rfl ?_
      refine at_istore hO (lv' := [(11, vi v13), (10, vi v14), (9, vi r6), (15, vi r6), (0, vr G 58), (1, vi v1), (2, vi v2), (5, vi v5), (6, vi v6), (7, vi v7), (8, vi v8), (12, vi v12), (13, vi v13), (14, vi v14)]) (Nat.le_of_ble_eq_true rfl) rfl dX9_keepOf_145 147 rfl ?_
      refine at_iinc hO (lv' := [(14, vi (v14 + 1)), (11, vi v13), (10, vi v14), (9, vi r6), (15, vi r6), (0, vr G 58), (1, vi v1), (2, vi v2), (5, vi v5), (6, vi v6), (7, vi v7), (8, vi v8), (12, vi v12), (13, vi v13)]) 13 rfl (Nat.le_of_ble_eq_true rfl) rfl dX9_keepOf_147 150 rfl ?_
      refine at_goto hO dX9_keepOf_150 55 rfl ?_
      exact at_sub (fun ls h => lv_sub h [5, 6, 7, 8, 9, 10, 11, 3, 2, 1, 12, 13, 0] rfl) (hrec55 s7 v1 v2 v5 v6 v7 v8 r6 v14 v13 v12 v13 (v14 + 1) hf)
theorem wL_X9_keepOf_55 {X : CX} {G : Ge} {Z : Rt} {rec44 : St → Int → Int → Int → Int → Int → Int → Int → Int → Int → Int → Int → Option Rt} (hO : rr_OK X G cX9_keepOf 16 RX9 (some .int) 7 164) (hrec44 : ∀ (s : St) (v1 v2 v5 v6 v7 v8 v9 v10 v11 v12 v13 : Int), rec44 s v1 v2 v5 v6 v7 v8 v9 v10 v11 v12 v13 = some Z → rr_AT X G 16 1 Z 44 [(0, vr G 58), (1, vi v1), (2, vi v2), (5, vi v5), (6, vi v6), (7, vi v7), (8, vi v8), (9, vi v9), (10, vi v10), (11, vi v11), (12, vi v12), (13, vi v13)] [] s) : ∀ (n : Nat) (s : St) (v1 v2 v5 v6 v7 v8 v9 v10 v11 v12 v13 v14 : Int), L_X9_keepOf_55 rec44 n s v1 v2 v5 v6 v7 v8 v9 v10 v11 v12 v13 v14 = some Z → rr_AT X G 16 1 Z 55 [(0, vr G 58), (1, vi v1), (2, vi v2), (5, vi v5), (6, vi v6), (7, vi v7), (8, vi v8), (9, vi v9), (10, vi v10), (11, vi v11), (12, vi v12), (13, vi v13), (14, vi v14)] [] s := by
  intro n
  induction n with
  | zero =>
    intro s v1 v2 v5 v6 v7 v8 v9 v10 v11 v12 v13 v14 hf
    cases hf
  | succ n ih =>
    intro s v1 v2 v5 v6 v7 v8 v9 v10 v11 v12 v13 v14 hf
    exact wS_X9_keepOf_55 hO hrec44 ih s v1 v2 v5 v6 v7 v8 v9 v10 v11 v12 v13 v14 hf
def S_X9_keepOf_44 (rec44 : St → Int → Int → Int → Int → Int → Int → Int → Int → Int → Int → Int → Option Rt) (s : St) (v1 v2 v5 v6 v7 v8 v9 v10 v11 v12 v13 : Int) : Option Rt := chk (in32 v13) (chk (in32 v5) ((if v5 < v13 then chk (in32 v6) ((if v6 = 0 then some (v9, (su s 58 9 v12)) else (if v6 = 1 then some (v10, (su s 58 9 v12)) else some (v11, (su s 58 9 v12))))) else L_X9_keepOf_55 rec44 FU s v1 v2 v5 v6 v7 v8 v9 v10 v11 v12 v13 v7)))
def L_X9_keepOf_44 : Nat → St → Int → Int → Int → Int → Int → Int → Int → Int → Int → Int → Int → Option Rt
  | 0, _, _, _, _, _, _, _, _, _, _, _, _ => none
  | n + 1, s, v1, v2, v5, v6, v7, v8, v9, v10, v11, v12, v13 => S_X9_keepOf_44 (L_X9_keepOf_44 n) s v1 v2 v5 v6 v7 v8 v9 v10 v11 v12 v13
set_option maxRecDepth 100000 in
set_option maxHeartbeats 4000000 in
theorem wS_X9_keepOf_44 {X : CX} {G : Ge} {Z : Rt} {rec44 : St → Int → Int → Int → Int → Int → Int → Int → Int → Int → Int → Int → Option Rt} (hO : rr_OK X G cX9_keepOf 16 RX9 (some .int) 7 164) (hrec44 : ∀ (s : St) (v1 v2 v5 v6 v7 v8 v9 v10 v11 v12 v13 : Int), rec44 s v1 v2 v5 v6 v7 v8 v9 v10 v11 v12 v13 = some Z → rr_AT X G 16 1 Z 44 [(0, vr G 58), (1, vi v1), (2, vi v2), (5, vi v5), (6, vi v6), (7, vi v7), (8, vi v8), (9, vi v9), (10, vi v10), (11, vi v11), (12, vi v12), (13, vi v13)] [] s) (s : St) (v1 v2 v5 v6 v7 v8 v9 v10 v11 v12 v13 : Int) (hf : S_X9_keepOf_44 rec44 s v1 v2 v5 v6 v7 v8 v9 v10 v11 v12 v13 = some Z) : rr_AT X G 16 1 Z 44 [(0, vr G 58), (1, vi v1), (2, vi v2), (5, vi v5), (6, vi v6), (7, vi v7), (8, vi v8), (9, vi v9), (10, vi v10), (11, vi v11), (12, vi v12), (13, vi v13)] [] s := by
  unfold S_X9_keepOf_44 at hf
  refine at_iload hO 11 rfl dX9_keepOf_44 46 rfl ?_
  refine at_iload hO 3 rfl dX9_keepOf_46 48 rfl ?_
  obtain ⟨h1, hf⟩ := chk_some hf
  obtain ⟨h2, hf⟩ := chk_some hf
  refine at_icmp_gt hO h1 h2 dX9_keepOf_48 159 rfl 51 rfl hf (fun hf => ?_) (fun hf => ?_)
  · refine at_aload_n hO 0 rfl rfl dX9_keepOf_159 160 rfl ?_
    refine at_iload hO 10 rfl dX9_keepOf_160 162 rfl ?_
    refine at_putI hO fp_X9_123 rfl rfl dX9_keepOf_162 165 rfl ?_
    refine at_iload hO 4 rfl dX9_keepOf_165 167 rfl ?_
    obtain ⟨h3, hf⟩ := chk_some hf
    refine at_if_ne hO h3 dX9_keepOf_167 175 rfl 170 rfl hf (fun hf => ?_) (fun hf => ?_)
    · refine at_iload hO 4 rfl dX9_keepOf_175 177 rfl ?_
      refine at_iconst hO dX9_keepOf_177 178 rfl ?_
      refine at_icmp_ne hO h3 (by decide) dX9_keepOf_178 186 rfl 181 rfl hf (fun hf => ?_) (fun hf => ?_)
      · refine at_iload hO 9 rfl dX9_keepOf_186 188 rfl ?_
        exact at_ireturn hO dX9_keepOf_188 hf
      · refine at_iload hO 8 rfl dX9_keepOf_181 183 rfl ?_
        refine at_goto hO dX9_keepOf_183 188 rfl ?_
        exact at_ireturn hO dX9_keepOf_188 hf
    · refine at_iload hO 7 rfl dX9_keepOf_170 172 rfl ?_
      refine at_goto hO dX9_keepOf_172 188 rfl ?_
      exact at_ireturn hO dX9_keepOf_188 hf
  · refine at_iload hO 5 rfl dX9_keepOf_51 53 rfl ?_
    refine at_istore hO (lv' := [(14, vi v7), (0, vr G 58), (1, vi v1), (2, vi v2), (5, vi v5), (6, vi v6), (7, vi v7), (8, vi v8), (9, vi v9), (10, vi v10), (11, vi v11), (12, vi v12), (13, vi v13)]) (Nat.le_of_ble_eq_true rfl) rfl dX9_keepOf_53 55 rfl ?_
    exact at_sub (fun ls h => lv_sub h [1, 2, 3, 4, 5, 6, 7, 8, 9, 10, 11, 12, 0] rfl) (wL_X9_keepOf_55 hO hrec44 FU s v1 v2 v5 v6 v7 v8 v9 v10 v11 v12 v13 v7 hf)
theorem wL_X9_keepOf_44 {X : CX} {G : Ge} {Z : Rt} (hO : rr_OK X G cX9_keepOf 16 RX9 (some .int) 7 164) : ∀ (n : Nat) (s : St) (v1 v2 v5 v6 v7 v8 v9 v10 v11 v12 v13 : Int), L_X9_keepOf_44 n s v1 v2 v5 v6 v7 v8 v9 v10 v11 v12 v13 = some Z → rr_AT X G 16 1 Z 44 [(0, vr G 58), (1, vi v1), (2, vi v2), (5, vi v5), (6, vi v6), (7, vi v7), (8, vi v8), (9, vi v9), (10, vi v10), (11, vi v11), (12, vi v12), (13, vi v13)] [] s := by
  intro n
  induction n with
  | zero =>
    intro s v1 v2 v5 v6 v7 v8 v9 v10 v11 v12 v13 hf
    cases hf
  | succ n ih =>
    intro s v1 v2 v5 v6 v7 v8 v9 v10 v11 v12 v13 hf
    exact wS_X9_keepOf_44 hO ih s v1 v2 v5 v6 v7 v8 v9 v10 v11 v12 v13 hf
def f_X9_keepOf (s : St) (p1 p2 p3 p4 p5 p6 : Int) : Option Rt := cll (f_X9_lesser s p3 p4) (fun r1 s2 => cll (f_X9_dryDays s2 p1 p2 r1 ((p3 + p4) - r1)) (fun r3 s4 => L_X9_keepOf_44 FU s4 p1 p2 p5 p6 r1 ((p3 + p4) - r1) r3 0 0 (s4 58 9) 1))
set_option maxRecDepth 100000 in
set_option maxHeartbeats 4000000 in
theorem c_X9_keepOf (l : Launch) (G : Ge) (hG : rr_GD G) (s : St) (p1 p2 p3 p4 p5 p6 : Int) : rr_Ct l G yX9_keepOf cX9_keepOf 16 (some .int) 7 164 1 [vr G 58, vi p1, vi p2, vi p3, vi p4, vi p5, vi p6] s (f_X9_keepOf s p1 p2 p3 p4 p5 p6) := by
  refine rr_mk (lv := [(0, vr G 58), (1, vi p1), (2, vi p2), (3, vi p3), (4, vi p4), (5, vi p5), (6, vi p6)]) RX9 (by decide) rfl hG (Nat.le_of_ble_eq_true rfl) rfl ?_
  intro X Z hO hf
  unfold f_X9_keepOf at hf
  refine at_iload_n hO 3 rfl rfl dX9_keepOf_0 1 rfl ?_
  refine at_iload hO 4 rfl dX9_keepOf_1 3 rfl ?_
  refine at_callS1 (As := [vi p3, vi p4]) (st := []) hO (c_X9_lesser _ G hO.g s p3 p4) mb_X9_lesser ms_X9_lesser lk_X9_148 rfl ⟨(Nat.le_of_ble_eq_true rfl), (Nat.le_of_ble_eq_true rfl)⟩ (Nat.le_of_ble_eq_true rfl) rfl dX9_keepOf_3 6 rfl hf (fun r1 s2 hf => ?_)
  refine at_istore hO (lv' := [(7, vi r1), (0, vr G 58), (1, vi p1), (2, vi p2), (3, vi p3), (4, vi p4), (5, vi p5), (6, vi p6)]) (Nat.le_of_ble_eq_true rfl) rfl dX9_keepOf_6 8 rfl ?_
  refine at_iload_n hO 4 rfl rfl dX9_keepOf_8 9 rfl ?_
  refine at_iload hO 5 rfl dX9_keepOf_9 11 rfl ?_
  refine at_iadd hO dX9_keepOf_11 12 rfl ?_
  refine at_iload hO 0 rfl dX9_keepOf_12 14 rfl ?_
  refine at_isub hO dX9_keepOf_14 15 rfl ?_
  refine at_istore hO (lv' := [(8, vi ((p3 + p4) - r1)), (7, vi r1), (0, vr G 58), (1, vi p1), (2, vi p2), (3, vi p3), (4, vi p4), (5, vi p5), (6, vi p6)]) (Nat.le_of_ble_eq_true rfl) rfl dX9_keepOf_15 17 rfl ?_
  refine at_aload_n hO 2 rfl rfl dX9_keepOf_17 18 rfl ?_
  refine at_iload_n hO 3 rfl rfl dX9_keepOf_18 19 rfl ?_
  refine at_iload_n hO 4 rfl rfl dX9_keepOf_19 20 rfl ?_
  refine at_iload hO 1 rfl dX9_keepOf_20 22 rfl ?_
  refine at_iload hO 0 rfl dX9_keepOf_22 24 rfl ?_
  refine at_callV1 (As := [vi p1, vi p2, vi r1, vi ((p3 + p4) - r1)]) (st := []) hO (c_X9_dryDays _ G hO.g s2 p1 p2 r1 ((p3 + p4) - r1)) mb_X9_dryDays mi_X9_dryDays lk_X9_200 rfl ⟨_, rfl, rfl⟩ rfl ⟨(Nat.le_of_ble_eq_true rfl), (Nat.le_of_ble_eq_true rfl)⟩ (Nat.le_of_ble_eq_true rfl) rfl dX9_keepOf_24 27 rfl hf (fun r3 s4 hf => ?_)
  refine at_istore hO (lv' := [(9, vi r3), (8, vi ((p3 + p4) - r1)), (7, vi r1), (0, vr G 58), (1, vi p1), (2, vi p2), (3, vi p3), (4, vi p4), (5, vi p5), (6, vi p6)]) (Nat.le_of_ble_eq_true rfl) rfl dX9_keepOf_27 29 rfl ?_
  refine at_iconst hO dX9_keepOf_29 30 rfl ?_
  refine at_istore hO (lv' := [(10, vi 0), (9, vi r3), (8, vi ((p3 + p4) - r1)), (7, vi r1), (0, vr G 58), (1, vi p1), (2, vi p2), (3, vi p3), (4, vi p4), (5, vi p5), (6, vi p6)]) (Nat.le_of_ble_eq_true rfl) rfl dX9_keepOf_30 32 rfl ?_
  refine at_iconst hO dX9_keepOf_32 33 rfl ?_
  refine at_istore hO (lv' := [(11, vi 0), (10, vi 0), (9, vi r3), (8, vi ((p3 + p4) - r1)), (7, vi r1), (0, vr G 58), (1, vi p1), (2, vi p2), (3, vi p3), (4, vi p4), (5, vi p5), (6, vi p6)]) (Nat.le_of_ble_eq_true rfl) rfl dX9_keepOf_33 35 rfl ?_
  refine at_aload_n hO 5 rfl rfl dX9_keepOf_35 36 rfl ?_
  refine at_getI hO fl_X9_123 rfl rfl dX9_keepOf_36 39 rfl ?_
  refine at_istore hO (lv' := [(12, vi (s4 58 9)), (11, vi 0), (10, vi 0), (9, vi r3), (8, vi ((p3 + p4) - r1)), (7, vi r1), (0, vr G 58), (1, vi p1), (2, vi p2), (3, vi p3), (4, vi p4), (5, vi p5), (6, vi p6)]) (Nat.le_of_ble_eq_true rfl) rfl dX9_keepOf_39 41 rfl ?_
  refine at_iconst hO dX9_keepOf_41 42 rfl ?_
  refine at_istore hO (lv' := [(13, vi 1), (12, vi (s4 58 9)), (11, vi 0), (10, vi 0), (9, vi r3), (8, vi ((p3 + p4) - r1)), (7, vi r1), (0, vr G 58), (1, vi p1), (2, vi p2), (3, vi p3), (4, vi p4), (5, vi p5), (6, vi p6)]) (Nat.le_of_ble_eq_true rfl) rfl dX9_keepOf_42 44 rfl ?_
  exact at_sub (fun ls h => lv_sub h [7, 8, 9, 12, 13, 6, 5, 4, 3, 2, 1, 0] rfl) (wL_X9_keepOf_44 hO FU s4 p1 p2 p5 p6 r1 ((p3 + p4) - r1) r3 0 0 (s4 58 9) 1 hf)
