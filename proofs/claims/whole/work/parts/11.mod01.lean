def f_X9_wipe (s : St) (p1 : Int) : Option Rt := cll (f_X9_isText s p1) (fun r1 s2 => chk (in32 r1) ((if r1 = 0 then some ((-2), s2) else chk (ix p1 4) (some ((s2 64 p1.toNat), (su s2 64 p1.toNat 0))))))
set_option maxRecDepth 100000 in
set_option maxHeartbeats 4000000 in
theorem c_X9_wipe (l : Launch) (G : Ge) (hG : rr_GD G) (s : St) (p1 : Int) : rr_Ct l G yX9_wipe cX9_wipe 3 (some .int) 2 45 1 [vr G 58, vi p1] s (f_X9_wipe s p1) := by
  refine rr_mk (lv := [(0, vr G 58), (1, vi p1)]) RX9 (by decide) rfl hG (Nat.le_of_ble_eq_true rfl) rfl ?_
  intro X Z hO hf
  unfold f_X9_wipe at hf
  refine at_iload_n hO 1 rfl rfl dX9_wipe_0 1 rfl ?_
  refine at_callS1 (As := [vi p1]) (st := []) hO (c_X9_isText _ G hO.g s p1) mb_X9_isText ms_X9_isText lk_X9_80 rfl ⟨(Nat.le_of_ble_eq_true rfl), (Nat.le_of_ble_eq_true rfl)⟩ (Nat.le_of_ble_eq_true rfl) rfl dX9_wipe_1 4 rfl hf (fun r1 s2 hf => ?_)
  obtain ⟨h3, hf⟩ := chk_some hf
  refine at_if_ne hO h3 dX9_wipe_4 10 rfl 7 rfl hf (fun hf => ?_) (fun hf => ?_)
  · refine at_aload_n hO 0 rfl rfl dX9_wipe_10 11 rfl ?_
    refine at_getR hO fl_X9_25 rfl rfl dX9_wipe_11 14 rfl ?_
    refine at_iload_n hO 1 rfl rfl dX9_wipe_14 15 rfl ?_
    obtain ⟨h4, hf⟩ := chk_some hf
    refine at_iaload hO rfl (Nat.le_of_ble_eq_true rfl) h4 (p1.toNat) rfl dX9_wipe_15 16 rfl ?_
    refine at_istore_n hO (lv' := [(2, vi (s2 64 p1.toNat)), (0, vr G 58), (1, vi p1)]) rfl (Nat.le_of_ble_eq_true rfl) rfl dX9_wipe_16 17 rfl ?_
    refine at_aload_n hO 1 rfl rfl dX9_wipe_17 18 rfl ?_
    refine at_getR hO fl_X9_25 rfl rfl dX9_wipe_18 21 rfl ?_
    refine at_iload_n hO 2 rfl rfl dX9_wipe_21 22 rfl ?_
    refine at_iconst hO dX9_wipe_22 23 rfl ?_
    refine at_iastore hO rfl (Nat.le_of_ble_eq_true rfl) h4 (p1.toNat) rfl dX9_wipe_23 24 rfl ?_
    refine at_iload_n hO 0 rfl rfl dX9_wipe_24 25 rfl ?_
    exact at_ireturn hO dX9_wipe_25 hf
  · refine at_bipush hO (by decide) dX9_wipe_7 9 rfl ?_
    exact at_ireturn hO dX9_wipe_9 hf

def S_X9_faultOf_2 (rec2 : St → Int → Int → Option Rt) (s : St) (v1 v2 : Int) : Option Rt := chk (ix v1 4) (chk (in32 v2) (chk (in32 (s 64 v1.toNat)) ((if (s 64 v1.toNat) ≤ v2 then some ((-1), s) else chk (ix ((30 * v1) + v2) 120) (chk (in32 (s 63 ((30 * v1) + v2).toNat)) (cll (f_X9_in s (s 63 ((30 * v1) + v2).toNat) 48 57) (fun r6 s7 => chk (in32 r6) ((if r6 = 0 then some (v2, s7) else rec2 s7 v1 (v2 + 1))))))))))
def L_X9_faultOf_2 : Nat → St → Int → Int → Option Rt
  | 0, _, _, _ => none
  | n + 1, s, v1, v2 => S_X9_faultOf_2 (L_X9_faultOf_2 n) s v1 v2
set_option maxRecDepth 100000 in
set_option maxHeartbeats 4000000 in
theorem wS_X9_faultOf_2 {X : CX} {G : Ge} {Z : Rt} {rec2 : St → Int → Int → Option Rt} (hO : rr_OK X G cX9_faultOf 3 RX9 (some .int) 1 25) (hrec2 : ∀ (s : St) (v1 v2 : Int), rec2 s v1 v2 = some Z → rr_AT X G 3 1 Z 2 [(0, vr G 58), (1, vi v1), (2, vi v2)] [] s) (s : St) (v1 v2 : Int) (hf : S_X9_faultOf_2 rec2 s v1 v2 = some Z) : rr_AT X G 3 1 Z 2 [(0, vr G 58), (1, vi v1), (2, vi v2)] [] s := by
  unfold S_X9_faultOf_2 at hf
  refine at_iload_n hO 2 rfl rfl dX9_faultOf_2 3 rfl ?_
  refine at_aload_n hO 0 rfl rfl dX9_faultOf_3 4 rfl ?_
  refine at_getR hO fl_X9_25 rfl rfl dX9_faultOf_4 7 rfl ?_
  refine at_iload_n hO 1 rfl rfl dX9_faultOf_7 8 rfl ?_
  obtain ⟨h1, hf⟩ := chk_some hf
  refine at_iaload hO rfl (Nat.le_of_ble_eq_true rfl) h1 (v1.toNat) rfl dX9_faultOf_8 9 rfl ?_
  obtain ⟨h2, hf⟩ := chk_some hf
  obtain ⟨h3, hf⟩ := chk_some hf
  refine at_icmp_ge hO h2 h3 dX9_faultOf_9 44 rfl 12 rfl hf (fun hf => ?_) (fun hf => ?_)
  · refine at_iconst hO dX9_faultOf_44 45 rfl ?_
    exact at_ireturn hO dX9_faultOf_45 hf
  · refine at_aload_n hO 0 rfl rfl dX9_faultOf_12 13 rfl ?_
    refine at_getR hO fl_X9_22 rfl rfl dX9_faultOf_13 16 rfl ?_
    refine at_bipush hO (by decide) dX9_faultOf_16 18 rfl ?_
    refine at_iload_n hO 1 rfl rfl dX9_faultOf_18 19 rfl ?_
    refine at_imul hO dX9_faultOf_19 20 rfl ?_
    refine at_iload_n hO 2 rfl rfl dX9_faultOf_20 21 rfl ?_
    refine at_iadd hO dX9_faultOf_21 22 rfl ?_
    obtain ⟨h4, hf⟩ := chk_some hf
    refine at_iaload hO rfl (Nat.le_of_ble_eq_true rfl) h4 (((30 * v1) + v2).toNat) rfl dX9_faultOf_22 23 rfl ?_
    obtain ⟨h5, hf⟩ := chk_some hf
    refine at_i2l hO h5 dX9_faultOf_23 24 rfl ?_
    refine at_ldc2_w (n := 48) hO lc_X9_85 (by decide) dX9_faultOf_24 27 rfl ?_
    refine at_ldc2_w (n := 57) hO lc_X9_87 (by decide) dX9_faultOf_27 30 rfl ?_
    refine at_callS1 (As := [vl (s 63 ((30 * v1) + v2).toNat), vl 48, vl 57]) (st := []) hO (c_X9_in _ G hO.g s (s 63 ((30 * v1) + v2).toNat) 48 57) mb_X9_in ms_X9_in lk_X9_49 rfl ⟨(Nat.le_of_ble_eq_true rfl), (Nat.le_of_ble_eq_true rfl)⟩ (Nat.le_of_ble_eq_true rfl) rfl dX9_faultOf_30 33 rfl hf (fun r6 s7 hf => ?_)
    obtain ⟨h8, hf⟩ := chk_some hf
    refine at_if_ne hO h8 dX9_faultOf_33 38 rfl 36 rfl hf (fun hf => ?_) (fun hf => ?_)
    · refine at_iinc hO (lv' := [(2, vi (v2 + 1)), (0, vr G 58), (1, vi v1)]) 2 rfl (Nat.le_of_ble_eq_true rfl) rfl dX9_faultOf_38 41 rfl ?_
      refine at_goto hO dX9_faultOf_41 2 rfl ?_
      exact at_sub (fun ls h => lv_sub h [1, 2, 0] rfl) (hrec2 s7 v1 (v2 + 1) hf)
    · refine at_iload_n hO 2 rfl rfl dX9_faultOf_36 37 rfl ?_
      exact at_ireturn hO dX9_faultOf_37 hf
theorem wL_X9_faultOf_2 {X : CX} {G : Ge} {Z : Rt} (hO : rr_OK X G cX9_faultOf 3 RX9 (some .int) 1 25) : ∀ (n : Nat) (s : St) (v1 v2 : Int), L_X9_faultOf_2 n s v1 v2 = some Z → rr_AT X G 3 1 Z 2 [(0, vr G 58), (1, vi v1), (2, vi v2)] [] s := by
  intro n
  induction n with
  | zero =>
    intro s v1 v2 hf
    cases hf
  | succ n ih =>
    intro s v1 v2 hf
    exact wS_X9_faultOf_2 hO ih s v1 v2 hf
def f_X9_faultOf (s : St) (p1 : Int) : Option Rt := L_X9_faultOf_2 FU s p1 0
set_option maxRecDepth 100000 in
set_option maxHeartbeats 4000000 in
theorem c_X9_faultOf (l : Launch) (G : Ge) (hG : rr_GD G) (s : St) (p1 : Int) : rr_Ct l G yX9_faultOf cX9_faultOf 3 (some .int) 1 25 1 [vr G 58, vi p1] s (f_X9_faultOf s p1) := by
  refine rr_mk (lv := [(0, vr G 58), (1, vi p1)]) RX9 (by decide) rfl hG (Nat.le_of_ble_eq_true rfl) rfl ?_
  intro X Z hO hf
  unfold f_X9_faultOf at hf
  refine at_iconst hO dX9_faultOf_0 1 rfl ?_
  refine at_istore_n hO (lv' := [(2, vi 0), (0, vr G 58), (1, vi p1)]) rfl (Nat.le_of_ble_eq_true rfl) rfl dX9_faultOf_1 2 rfl ?_
  exact at_sub (fun ls h => lv_sub h [1, 2, 0] rfl) (wL_X9_faultOf_2 hO FU s p1 0 hf)

def f_X9_fault (s : St) (p1 : Int) : Option Rt := cll (f_X9_isText s p1) (fun r1 s2 => chk (in32 r1) ((if r1 = 0 then some ((-2), s2) else cll (f_X9_faultOf s2 p1) (fun r4 s5 => some (r4, s5)))))
set_option maxRecDepth 100000 in
set_option maxHeartbeats 4000000 in
theorem c_X9_fault (l : Launch) (G : Ge) (hG : rr_GD G) (s : St) (p1 : Int) : rr_Ct l G yX9_fault cX9_fault 2 (some .int) 2 47 1 [vr G 58, vi p1] s (f_X9_fault s p1) := by
  refine rr_mk (lv := [(0, vr G 58), (1, vi p1)]) RX9 (by decide) rfl hG (Nat.le_of_ble_eq_true rfl) rfl ?_
  intro X Z hO hf
  unfold f_X9_fault at hf
  refine at_iload_n hO 1 rfl rfl dX9_fault_0 1 rfl ?_
  refine at_callS1 (As := [vi p1]) (st := []) hO (c_X9_isText _ G hO.g s p1) mb_X9_isText ms_X9_isText lk_X9_80 rfl ⟨(Nat.le_of_ble_eq_true rfl), (Nat.le_of_ble_eq_true rfl)⟩ (Nat.le_of_ble_eq_true rfl) rfl dX9_fault_1 4 rfl hf (fun r1 s2 hf => ?_)
  obtain ⟨h3, hf⟩ := chk_some hf
  refine at_if_eq hO h3 dX9_fault_4 15 rfl 7 rfl hf (fun hf => ?_) (fun hf => ?_)
  · refine at_bipush hO (by decide) dX9_fault_15 17 rfl ?_
    exact at_ireturn hO dX9_fault_17 hf
  · refine at_aload_n hO 0 rfl rfl dX9_fault_7 8 rfl ?_
    refine at_iload_n hO 1 rfl rfl dX9_fault_8 9 rfl ?_
    refine at_callV1 (As := [vi p1]) (st := []) hO (c_X9_faultOf _ G hO.g s2 p1) mb_X9_faultOf mi_X9_faultOf lk_X9_89 rfl ⟨_, rfl, rfl⟩ rfl ⟨(Nat.le_of_ble_eq_true rfl), (Nat.le_of_ble_eq_true rfl)⟩ (Nat.le_of_ble_eq_true rfl) rfl dX9_fault_9 12 rfl hf (fun r4 s5 hf => ?_)
    refine at_goto hO dX9_fault_12 17 rfl ?_
    exact at_ireturn hO dX9_fault_17 hf

def f_X9_figures (s : St) (p1 : Int) : Option Rt := cll (f_X9_faultOf s p1) (fun r1 s2 => chk (in32 r1) ((if r1 = (-1) then chk (ix p1 4) (some ((s2 64 p1.toNat), s2)) else some (0, s2))))
set_option maxRecDepth 100000 in
set_option maxHeartbeats 4000000 in
theorem c_X9_figures (l : Launch) (G : Ge) (hG : rr_GD G) (s : St) (p1 : Int) : rr_Ct l G yX9_figures cX9_figures 2 (some .int) 2 47 1 [vr G 58, vi p1] s (f_X9_figures s p1) := by
  refine rr_mk (lv := [(0, vr G 58), (1, vi p1)]) RX9 (by decide) rfl hG (Nat.le_of_ble_eq_true rfl) rfl ?_
  intro X Z hO hf
  unfold f_X9_figures at hf
  refine at_aload_n hO 0 rfl rfl dX9_figures_0 1 rfl ?_
  refine at_iload_n hO 1 rfl rfl dX9_figures_1 2 rfl ?_
  refine at_callV1 (As := [vi p1]) (st := []) hO (c_X9_faultOf _ G hO.g s p1) mb_X9_faultOf mi_X9_faultOf lk_X9_89 rfl ⟨_, rfl, rfl⟩ rfl ⟨(Nat.le_of_ble_eq_true rfl), (Nat.le_of_ble_eq_true rfl)⟩ (Nat.le_of_ble_eq_true rfl) rfl dX9_figures_2 5 rfl hf (fun r1 s2 hf => ?_)
  refine at_iconst hO dX9_figures_5 6 rfl ?_
  obtain ⟨h3, hf⟩ := chk_some hf
  refine at_icmp_ne hO h3 (by decide) dX9_figures_6 18 rfl 9 rfl hf (fun hf => ?_) (fun hf => ?_)
  · refine at_iconst hO dX9_figures_18 19 rfl ?_
    exact at_ireturn hO dX9_figures_19 hf
  · refine at_aload_n hO 0 rfl rfl dX9_figures_9 10 rfl ?_
    refine at_getR hO fl_X9_25 rfl rfl dX9_figures_10 13 rfl ?_
    refine at_iload_n hO 1 rfl rfl dX9_figures_13 14 rfl ?_
    obtain ⟨h4, hf⟩ := chk_some hf
    refine at_iaload hO rfl (Nat.le_of_ble_eq_true rfl) h4 (p1.toNat) rfl dX9_figures_14 15 rfl ?_
    refine at_goto hO dX9_figures_15 19 rfl ?_
    exact at_ireturn hO dX9_figures_19 hf

def f_X9_yards (s : St) : Option Rt := cll (f_X9_figures s 3) (fun r1 s2 => some (r1, s2))
set_option maxRecDepth 100000 in
set_option maxHeartbeats 4000000 in
theorem c_X9_yards (l : Launch) (G : Ge) (hG : rr_GD G) (s : St) : rr_Ct l G yX9_yards cX9_yards 1 (some .int) 3 68 1 [vr G 58] s (f_X9_yards s ) := by
  refine rr_mk (lv := [(0, vr G 58)]) RX9 (by decide) rfl hG (Nat.le_of_ble_eq_true rfl) rfl ?_
  intro X Z hO hf
  unfold f_X9_yards at hf
  refine at_aload_n hO 0 rfl rfl dX9_yards_0 1 rfl ?_
  refine at_iconst hO dX9_yards_1 2 rfl ?_
  refine at_callV1 (As := [vi 3]) (st := []) hO (c_X9_figures _ G hO.g s 3) mb_X9_figures mi_X9_figures lk_X9_92 rfl ⟨_, rfl, rfl⟩ rfl ⟨(Nat.le_of_ble_eq_true rfl), (Nat.le_of_ble_eq_true rfl)⟩ (Nat.le_of_ble_eq_true rfl) rfl dX9_yards_2 5 rfl hf (fun r1 s2 hf => ?_)
  exact at_ireturn hO dX9_yards_5 hf

def f_X9_isYard (s : St) (p1 : Int) : Option Rt := chk (in32 p1) (cll (f_X9_yards s) (fun r2 s3 => chk (in32 (r2 - 1)) (cll (f_X9_in s3 p1 0 (r2 - 1)) (fun r5 s6 => chk (r5 = 0 ∨ r5 = 1) (some (r5, s6))))))
set_option maxRecDepth 100000 in
set_option maxHeartbeats 4000000 in
theorem c_X9_isYard (l : Launch) (G : Ge) (hG : rr_GD G) (s : St) (p1 : Int) : rr_Ct l G yX9_isYard cX9_isYard 2 (some .boolean) 4 88 1 [vr G 58, vi p1] s (f_X9_isYard s p1) := by
  refine rr_mk (lv := [(0, vr G 58), (1, vi p1)]) RX9 (by decide) rfl hG (Nat.le_of_ble_eq_true rfl) rfl ?_
  intro X Z hO hf
  unfold f_X9_isYard at hf
  refine at_iload_n hO 1 rfl rfl dX9_isYard_0 1 rfl ?_
  obtain ⟨h1, hf⟩ := chk_some hf
  refine at_i2l hO h1 dX9_isYard_1 2 rfl ?_
  refine at_lconst (n := 0) hO (by decide) dX9_isYard_2 3 rfl ?_
  refine at_aload_n hO 0 rfl rfl dX9_isYard_3 4 rfl ?_
  refine at_callV1 (As := []) (st := [vl 0, vl p1]) hO (c_X9_yards _ G hO.g s ) mb_X9_yards mi_X9_yards lk_X9_95 rfl ⟨_, rfl, rfl⟩ rfl ⟨(Nat.le_of_ble_eq_true rfl), (Nat.le_of_ble_eq_true rfl)⟩ (Nat.le_of_ble_eq_true rfl) rfl dX9_isYard_4 7 rfl hf (fun r2 s3 hf => ?_)
  refine at_iconst hO dX9_isYard_7 8 rfl ?_
  refine at_isub hO dX9_isYard_8 9 rfl ?_
  obtain ⟨h4, hf⟩ := chk_some hf
  refine at_i2l hO h4 dX9_isYard_9 10 rfl ?_
  refine at_callS1 (As := [vl p1, vl 0, vl (r2 - 1)]) (st := []) hO (c_X9_in _ G hO.g s3 p1 0 (r2 - 1)) mb_X9_in ms_X9_in lk_X9_49 rfl ⟨(Nat.le_of_ble_eq_true rfl), (Nat.le_of_ble_eq_true rfl)⟩ (Nat.le_of_ble_eq_true rfl) rfl dX9_isYard_10 13 rfl hf (fun r5 s6 hf => ?_)
  obtain ⟨h7, hf⟩ := chk_some hf
  exact at_zreturn hO h7 dX9_isYard_13 hf

def f_X9_heightOf (s : St) (p1 : Int) : Option Rt := chk (ix (90 + p1) 120) (some (((s 63 (90 + p1).toNat) - 48), s))
set_option maxRecDepth 100000 in
set_option maxHeartbeats 4000000 in
theorem c_X9_heightOf (l : Launch) (G : Ge) (hG : rr_GD G) (s : St) (p1 : Int) : rr_Ct l G yX9_heightOf cX9_heightOf 2 (some .int) 0 0 1 [vr G 58, vi p1] s (f_X9_heightOf s p1) := by
  refine rr_mk (lv := [(0, vr G 58), (1, vi p1)]) RX9 (by decide) rfl hG (Nat.le_of_ble_eq_true rfl) rfl ?_
  intro X Z hO hf
  unfold f_X9_heightOf at hf
  refine at_aload_n hO 0 rfl rfl dX9_heightOf_0 1 rfl ?_
  refine at_getR hO fl_X9_22 rfl rfl dX9_heightOf_1 4 rfl ?_
  refine at_bipush hO (by decide) dX9_heightOf_4 6 rfl ?_
  refine at_iload_n hO 1 rfl rfl dX9_heightOf_6 7 rfl ?_
  refine at_iadd hO dX9_heightOf_7 8 rfl ?_
  obtain ⟨h1, hf⟩ := chk_some hf
  refine at_iaload hO rfl (Nat.le_of_ble_eq_true rfl) h1 ((90 + p1).toNat) rfl dX9_heightOf_8 9 rfl ?_
  refine at_bipush hO (by decide) dX9_heightOf_9 11 rfl ?_
  refine at_isub hO dX9_heightOf_11 12 rfl ?_
  exact at_ireturn hO dX9_heightOf_12 hf

def f_X9_height (s : St) (p1 : Int) : Option Rt := cll (f_X9_isYard s p1) (fun r1 s2 => chk (in32 r1) ((if r1 = 0 then some ((-2), s2) else cll (f_X9_heightOf s2 p1) (fun r4 s5 => some (r4, s5)))))
set_option maxRecDepth 100000 in
set_option maxHeartbeats 4000000 in
theorem c_X9_height (l : Launch) (G : Ge) (hG : rr_GD G) (s : St) (p1 : Int) : rr_Ct l G yX9_height cX9_height 2 (some .int) 5 109 1 [vr G 58, vi p1] s (f_X9_height s p1) := by
  refine rr_mk (lv := [(0, vr G 58), (1, vi p1)]) RX9 (by decide) rfl hG (Nat.le_of_ble_eq_true rfl) rfl ?_
  intro X Z hO hf
  unfold f_X9_height at hf
  refine at_aload_n hO 0 rfl rfl dX9_height_0 1 rfl ?_
  refine at_iload_n hO 1 rfl rfl dX9_height_1 2 rfl ?_
  refine at_callV1 (As := [vi p1]) (st := []) hO (c_X9_isYard _ G hO.g s p1) mb_X9_isYard mi_X9_isYard lk_X9_99 rfl ⟨_, rfl, rfl⟩ rfl ⟨(Nat.le_of_ble_eq_true rfl), (Nat.le_of_ble_eq_true rfl)⟩ (Nat.le_of_ble_eq_true rfl) rfl dX9_height_2 5 rfl hf (fun r1 s2 hf => ?_)
  obtain ⟨h3, hf⟩ := chk_some hf
  refine at_if_eq hO h3 dX9_height_5 16 rfl 8 rfl hf (fun hf => ?_) (fun hf => ?_)
  · refine at_bipush hO (by decide) dX9_height_16 18 rfl ?_
    exact at_ireturn hO dX9_height_18 hf
  · refine at_aload_n hO 0 rfl rfl dX9_height_8 9 rfl ?_
    refine at_iload_n hO 1 rfl rfl dX9_height_9 10 rfl ?_
    refine at_callV1 (As := [vi p1]) (st := []) hO (c_X9_heightOf _ G hO.g s2 p1) mb_X9_heightOf mi_X9_heightOf lk_X9_102 rfl ⟨_, rfl, rfl⟩ rfl ⟨(Nat.le_of_ble_eq_true rfl), (Nat.le_of_ble_eq_true rfl)⟩ (Nat.le_of_ble_eq_true rfl) rfl dX9_height_10 13 rfl hf (fun r4 s5 hf => ?_)
    refine at_goto hO dX9_height_13 18 rfl ?_
    exact at_ireturn hO dX9_height_18 hf

def f_X9_levelOf (s : St) (p1 p2 : Int) : Option Rt := cll (f_X9_figures s p1) (fun r1 s2 => chk (in32 p2) (chk (in32 r1) ((if r1 ≤ p2 then some (0, s2) else chk (ix ((30 * p1) + p2) 120) (some (((s2 63 ((30 * p1) + p2).toNat) - 48), s2))))))
set_option maxRecDepth 100000 in
set_option maxHeartbeats 4000000 in
theorem c_X9_levelOf (l : Launch) (G : Ge) (hG : rr_GD G) (s : St) (p1 p2 : Int) : rr_Ct l G yX9_levelOf cX9_levelOf 3 (some .int) 3 68 1 [vr G 58, vi p1, vi p2] s (f_X9_levelOf s p1 p2) := by
  refine rr_mk (lv := [(0, vr G 58), (1, vi p1), (2, vi p2)]) RX9 (by decide) rfl hG (Nat.le_of_ble_eq_true rfl) rfl ?_
  intro X Z hO hf
  unfold f_X9_levelOf at hf
  refine at_iload_n hO 2 rfl rfl dX9_levelOf_0 1 rfl ?_
  refine at_aload_n hO 0 rfl rfl dX9_levelOf_1 2 rfl ?_
  refine at_iload_n hO 1 rfl rfl dX9_levelOf_2 3 rfl ?_
  refine at_callV1 (As := [vi p1]) (st := [vi p2]) hO (c_X9_figures _ G hO.g s p1) mb_X9_figures mi_X9_figures lk_X9_92 rfl ⟨_, rfl, rfl⟩ rfl ⟨(Nat.le_of_ble_eq_true rfl), (Nat.le_of_ble_eq_true rfl)⟩ (Nat.le_of_ble_eq_true rfl) rfl dX9_levelOf_3 6 rfl hf (fun r1 s2 hf => ?_)
  obtain ⟨h3, hf⟩ := chk_some hf
  obtain ⟨h4, hf⟩ := chk_some hf
  refine at_icmp_ge hO h3 h4 dX9_levelOf_6 26 rfl 9 rfl hf (fun hf => ?_) (fun hf => ?_)
  · refine at_iconst hO dX9_levelOf_26 27 rfl ?_
    exact at_ireturn hO dX9_levelOf_27 hf
  · refine at_aload_n hO 0 rfl rfl dX9_levelOf_9 10 rfl ?_
    refine at_getR hO fl_X9_22 rfl rfl dX9_levelOf_10 13 rfl ?_
    refine at_bipush hO (by decide) dX9_levelOf_13 15 rfl ?_
    refine at_iload_n hO 1 rfl rfl dX9_levelOf_15 16 rfl ?_
    refine at_imul hO dX9_levelOf_16 17 rfl ?_
    refine at_iload_n hO 2 rfl rfl dX9_levelOf_17 18 rfl ?_
    refine at_iadd hO dX9_levelOf_18 19 rfl ?_
    obtain ⟨h5, hf⟩ := chk_some hf
    refine at_iaload hO rfl (Nat.le_of_ble_eq_true rfl) h5 (((30 * p1) + p2).toNat) rfl dX9_levelOf_19 20 rfl ?_
    refine at_bipush hO (by decide) dX9_levelOf_20 22 rfl ?_
    refine at_isub hO dX9_levelOf_22 23 rfl ?_
    refine at_goto hO dX9_levelOf_23 27 rfl ?_
    exact at_ireturn hO dX9_levelOf_27 hf

def f_X9_level (s : St) (p1 p2 : Int) : Option Rt := cll (f_X9_isSpring s p1) (fun r1 s2 => chk (in32 r1) ((if r1 = 0 then some ((-2), s2) else cll (f_X9_isDay s2 p2) (fun r4 s5 => chk (in32 r4) ((if r4 = 0 then some ((-2), s5) else cll (f_X9_levelOf s5 p1 p2) (fun r7 s8 => some (r7, s8))))))))
set_option maxRecDepth 100000 in
set_option maxHeartbeats 4000000 in
theorem c_X9_level (l : Launch) (G : Ge) (hG : rr_GD G) (s : St) (p1 p2 : Int) : rr_Ct l G yX9_level cX9_level 3 (some .int) 4 90 1 [vr G 58, vi p1, vi p2] s (f_X9_level s p1 p2) := by
  refine rr_mk (lv := [(0, vr G 58), (1, vi p1), (2, vi p2)]) RX9 (by decide) rfl hG (Nat.le_of_ble_eq_true rfl) rfl ?_
  intro X Z hO hf
  unfold f_X9_level at hf
  refine at_iload_n hO 1 rfl rfl dX9_level_0 1 rfl ?_
  refine at_callS1 (As := [vi p1]) (st := []) hO (c_X9_isSpring _ G hO.g s p1) mb_X9_isSpring ms_X9_isSpring lk_X9_105 rfl ⟨(Nat.le_of_ble_eq_true rfl), (Nat.le_of_ble_eq_true rfl)⟩ (Nat.le_of_ble_eq_true rfl) rfl dX9_level_1 4 rfl hf (fun r1 s2 hf => ?_)
  obtain ⟨h3, hf⟩ := chk_some hf
  refine at_if_eq hO h3 dX9_level_4 23 rfl 7 rfl hf (fun hf => ?_) (fun hf => ?_)
  · refine at_bipush hO (by decide) dX9_level_23 25 rfl ?_
    exact at_ireturn hO dX9_level_25 hf
  · refine at_iload_n hO 2 rfl rfl dX9_level_7 8 rfl ?_
    refine at_callS1 (As := [vi p2]) (st := []) hO (c_X9_isDay _ G hO.g s2 p2) mb_X9_isDay ms_X9_isDay lk_X9_108 rfl ⟨(Nat.le_of_ble_eq_true rfl), (Nat.le_of_ble_eq_true rfl)⟩ (Nat.le_of_ble_eq_true rfl) rfl dX9_level_8 11 rfl hf (fun r4 s5 hf => ?_)
    obtain ⟨h6, hf⟩ := chk_some hf
    refine at_if_eq hO h6 dX9_level_11 23 rfl 14 rfl hf (fun hf => ?_) (fun hf => ?_)
    · refine at_bipush hO (by decide) dX9_level_23 25 rfl ?_
      exact at_ireturn hO dX9_level_25 hf
    · refine at_aload_n hO 0 rfl rfl dX9_level_14 15 rfl ?_
      refine at_iload_n hO 1 rfl rfl dX9_level_15 16 rfl ?_
      refine at_iload_n hO 2 rfl rfl dX9_level_16 17 rfl ?_
      refine at_callV1 (As := [vi p1, vi p2]) (st := []) hO (c_X9_levelOf _ G hO.g s5 p1 p2) mb_X9_levelOf mi_X9_levelOf lk_X9_111 rfl ⟨_, rfl, rfl⟩ rfl ⟨(Nat.le_of_ble_eq_true rfl), (Nat.le_of_ble_eq_true rfl)⟩ (Nat.le_of_ble_eq_true rfl) rfl dX9_level_17 20 rfl hf (fun r7 s8 hf => ?_)
      refine at_goto hO dX9_level_20 25 rfl ?_
      exact at_ireturn hO dX9_level_25 hf

def f_X9_most (s : St) (p1 : Int) : Option Rt := chk (in32 p1) ((if p1 = 0 then some (9, s) else (if p1 = 3 then some (9, s) else (if p1 = 6 then some (9, s) else (if p1 = 1 then some (29, s) else some (99, s))))))
set_option maxRecDepth 100000 in
set_option maxHeartbeats 4000000 in
theorem c_X9_most (l : Launch) (G : Ge) (hG : rr_GD G) (s : St) (p1 : Int) : rr_Ct l G yX9_most cX9_most 1 (some .int) 0 0 1 [vi p1] s (f_X9_most s p1) := by
  refine rr_mk (lv := [(0, vi p1)]) RX9 (by decide) rfl hG (Nat.le_of_ble_eq_true rfl) rfl ?_
  intro X Z hO hf
  unfold f_X9_most at hf
  refine at_iload_n hO 0 rfl rfl dX9_most_0 1 rfl ?_
  obtain ⟨h1, hf⟩ := chk_some hf
  refine at_if_eq hO h1 dX9_most_1 15 rfl 4 rfl hf (fun hf => ?_) (fun hf => ?_)
  · refine at_bipush hO (by decide) dX9_most_15 17 rfl ?_
    refine at_goto hO dX9_most_17 32 rfl ?_
    exact at_ireturn hO dX9_most_32 hf
  · refine at_iload_n hO 0 rfl rfl dX9_most_4 5 rfl ?_
    refine at_iconst hO dX9_most_5 6 rfl ?_
    refine at_icmp_eq hO h1 (by decide) dX9_most_6 15 rfl 9 rfl hf (fun hf => ?_) (fun hf => ?_)
    · refine at_bipush hO (by decide) dX9_most_15 17 rfl ?_
      refine at_goto hO dX9_most_17 32 rfl ?_
      exact at_ireturn hO dX9_most_32 hf
    · refine at_iload_n hO 0 rfl rfl dX9_most_9 10 rfl ?_
      refine at_bipush hO (by decide) dX9_most_10 12 rfl ?_
      refine at_icmp_ne hO h1 (by decide) dX9_most_12 20 rfl 15 rfl hf (fun hf => ?_) (fun hf => ?_)
      · refine at_iload_n hO 0 rfl rfl dX9_most_20 21 rfl ?_
        refine at_iconst hO dX9_most_21 22 rfl ?_
        refine at_icmp_ne hO h1 (by decide) dX9_most_22 30 rfl 25 rfl hf (fun hf => ?_) (fun hf => ?_)
        · refine at_bipush hO (by decide) dX9_most_30 32 rfl ?_
          exact at_ireturn hO dX9_most_32 hf
        · refine at_bipush hO (by decide) dX9_most_25 27 rfl ?_
          refine at_goto hO dX9_most_27 32 rfl ?_
          exact at_ireturn hO dX9_most_32 hf
      · refine at_bipush hO (by decide) dX9_most_15 17 rfl ?_
        refine at_goto hO dX9_most_17 32 rfl ?_
        exact at_ireturn hO dX9_most_32 hf

def B_X9_set_24 (s : St) (v1 v2 t0 t1 : Int) : Option Rt := cll (f_X9_most s v1) (fun r1 s2 => chk (in32 r1) (cll (f_X9_in s2 t1 t0 r1) (fun r4 s5 => chk (in32 r4) ((if r4 = 0 then some ((-2), s5) else chk (ix v1 7) (some ((s5 65 v1.toNat), (su s5 65 v1.toNat v2))))))))
set_option maxRecDepth 100000 in
set_option maxHeartbeats 4000000 in
theorem wB_X9_set_24 {X : CX} {G : Ge} {Z : Rt} (hO : rr_OK X G cX9_set 4 RX9 (some .int) 1 25) (s : St) (v1 v2 t0 t1 : Int) (hf : B_X9_set_24 s v1 v2 t0 t1 = some Z) : rr_AT X G 4 1 Z 24 [(0, vr G 58), (1, vi v1), (2, vi v2)] [vl t0, vl t1] s := by
  unfold B_X9_set_24 at hf
  refine at_iload_n hO 1 rfl rfl dX9_set_24 25 rfl ?_
  refine at_callS1 (As := [vi v1]) (st := [vl t0, vl t1]) hO (c_X9_most _ G hO.g s v1) mb_X9_most ms_X9_most lk_X9_116 rfl ⟨(Nat.le_of_ble_eq_true rfl), (Nat.le_of_ble_eq_true rfl)⟩ (Nat.le_of_ble_eq_true rfl) rfl dX9_set_25 28 rfl hf (fun r1 s2 hf => ?_)
  obtain ⟨h3, hf⟩ := chk_some hf
  refine at_i2l hO h3 dX9_set_28 29 rfl ?_
  refine at_callS1 (As := [vl t1, vl t0, vl r1]) (st := []) hO (c_X9_in _ G hO.g s2 t1 t0 r1) mb_X9_in ms_X9_in lk_X9_49 rfl ⟨(Nat.le_of_ble_eq_true rfl), (Nat.le_of_ble_eq_true rfl)⟩ (Nat.le_of_ble_eq_true rfl) rfl dX9_set_29 32 rfl hf (fun r4 s5 hf => ?_)
  obtain ⟨h6, hf⟩ := chk_some hf
  refine at_if_ne hO h6 dX9_set_32 38 rfl 35 rfl hf (fun hf => ?_) (fun hf => ?_)
  · refine at_aload_n hO 0 rfl rfl dX9_set_38 39 rfl ?_
    refine at_getR hO fl_X9_28 rfl rfl dX9_set_39 42 rfl ?_
    refine at_iload_n hO 1 rfl rfl dX9_set_42 43 rfl ?_
    obtain ⟨h7, hf⟩ := chk_some hf
    refine at_iaload hO rfl (Nat.le_of_ble_eq_true rfl) h7 (v1.toNat) rfl dX9_set_43 44 rfl ?_
    refine at_istore_n hO (lv' := [(3, vi (s5 65 v1.toNat)), (0, vr G 58), (1, vi v1), (2, vi v2)]) rfl (Nat.le_of_ble_eq_true rfl) rfl dX9_set_44 45 rfl ?_
    refine at_aload_n hO 1 rfl rfl dX9_set_45 46 rfl ?_
    refine at_getR hO fl_X9_28 rfl rfl dX9_set_46 49 rfl ?_
    refine at_iload_n hO 2 rfl rfl dX9_set_49 50 rfl ?_
    refine at_iload_n hO 3 rfl rfl dX9_set_50 51 rfl ?_
    refine at_iastore hO rfl (Nat.le_of_ble_eq_true rfl) h7 (v1.toNat) rfl dX9_set_51 52 rfl ?_
    refine at_iload_n hO 0 rfl rfl dX9_set_52 53 rfl ?_
    exact at_ireturn hO dX9_set_53 hf
  · refine at_bipush hO (by decide) dX9_set_35 37 rfl ?_
    exact at_ireturn hO dX9_set_37 hf
def f_X9_set (s : St) (p1 p2 : Int) : Option Rt := chk (in32 p1) (cll (f_X9_in s p1 0 6) (fun r2 s3 => chk (in32 r2) ((if r2 = 0 then some ((-2), s3) else chk (in32 p2) ((if p1 = 3 then B_X9_set_24 s3 p1 p2 1 p2 else B_X9_set_24 s3 p1 p2 0 p2))))))
set_option maxRecDepth 100000 in
set_option maxHeartbeats 4000000 in
theorem c_X9_set (l : Launch) (G : Ge) (hG : rr_GD G) (s : St) (p1 p2 : Int) : rr_Ct l G yX9_set cX9_set 4 (some .int) 1 25 1 [vr G 58, vi p1, vi p2] s (f_X9_set s p1 p2) := by
  refine rr_mk (lv := [(0, vr G 58), (1, vi p1), (2, vi p2)]) RX9 (by decide) rfl hG (Nat.le_of_ble_eq_true rfl) rfl ?_
  intro X Z hO hf
  unfold f_X9_set at hf
  refine at_iload_n hO 1 rfl rfl dX9_set_0 1 rfl ?_
  obtain ⟨h1, hf⟩ := chk_some hf
  refine at_i2l hO h1 dX9_set_1 2 rfl ?_
  refine at_lconst (n := 0) hO (by decide) dX9_set_2 3 rfl ?_
  refine at_ldc2_w (n := 6) hO lc_X9_114 (by decide) dX9_set_3 6 rfl ?_
  refine at_callS1 (As := [vl p1, vl 0, vl 6]) (st := []) hO (c_X9_in _ G hO.g s p1 0 6) mb_X9_in ms_X9_in lk_X9_49 rfl ⟨(Nat.le_of_ble_eq_true rfl), (Nat.le_of_ble_eq_true rfl)⟩ (Nat.le_of_ble_eq_true rfl) rfl dX9_set_6 9 rfl hf (fun r2 s3 hf => ?_)
  obtain ⟨h4, hf⟩ := chk_some hf
  refine at_if_eq hO h4 dX9_set_9 35 rfl 12 rfl hf (fun hf => ?_) (fun hf => ?_)
  · refine at_bipush hO (by decide) dX9_set_35 37 rfl ?_
    exact at_ireturn hO dX9_set_37 hf
  · refine at_iload_n hO 2 rfl rfl dX9_set_12 13 rfl ?_
    obtain ⟨h5, hf⟩ := chk_some hf
    refine at_i2l hO h5 dX9_set_13 14 rfl ?_
    refine at_iload_n hO 1 rfl rfl dX9_set_14 15 rfl ?_
    refine at_iconst hO dX9_set_15 16 rfl ?_
    refine at_icmp_ne hO h1 (by decide) dX9_set_16 23 rfl 19 rfl hf (fun hf => ?_) (fun hf => ?_)
    · refine at_lconst (n := 0) hO (by decide) dX9_set_23 24 rfl ?_
      exact at_sub (fun ls h => lv_sub h [0, 1, 2] rfl) (wB_X9_set_24 hO s3 p1 p2 0 p2 hf)
    · refine at_lconst (n := 1) hO (by decide) dX9_set_19 20 rfl ?_
      refine at_goto hO dX9_set_20 24 rfl ?_
      exact at_sub (fun ls h => lv_sub h [0, 1, 2] rfl) (wB_X9_set_24 hO s3 p1 p2 1 p2 hf)

def f_X9_odds (s : St) (p1 p2 : Int) : Option Rt := cll (f_X9_isSpring s p1) (fun r1 s2 => chk (in32 r1) ((if r1 = 0 then some ((-2), s2) else chk (in32 p2) (cll (f_X9_in s2 p2 0 99) (fun r5 s6 => chk (in32 r5) ((if r5 = 0 then some ((-2), s6) else chk (ix p1 3) (some ((s6 66 p1.toNat), (su s6 66 p1.toNat p2))))))))))
set_option maxRecDepth 100000 in
set_option maxHeartbeats 4000000 in
theorem c_X9_odds (l : Launch) (G : Ge) (hG : rr_GD G) (s : St) (p1 p2 : Int) : rr_Ct l G yX9_odds cX9_odds 4 (some .int) 2 45 1 [vr G 58, vi p1, vi p2] s (f_X9_odds s p1 p2) := by
  refine rr_mk (lv := [(0, vr G 58), (1, vi p1), (2, vi p2)]) RX9 (by decide) rfl hG (Nat.le_of_ble_eq_true rfl) rfl ?_
  intro X Z hO hf
  unfold f_X9_odds at hf
  refine at_iload_n hO 1 rfl rfl dX9_odds_0 1 rfl ?_
  refine at_callS1 (As := [vi p1]) (st := []) hO (c_X9_isSpring _ G hO.g s p1) mb_X9_isSpring ms_X9_isSpring lk_X9_105 rfl ⟨(Nat.le_of_ble_eq_true rfl), (Nat.le_of_ble_eq_true rfl)⟩ (Nat.le_of_ble_eq_true rfl) rfl dX9_odds_1 4 rfl hf (fun r1 s2 hf => ?_)
  obtain ⟨h3, hf⟩ := chk_some hf
  refine at_if_eq hO h3 dX9_odds_4 19 rfl 7 rfl hf (fun hf => ?_) (fun hf => ?_)
  · refine at_bipush hO (by decide) dX9_odds_19 21 rfl ?_
    exact at_ireturn hO dX9_odds_21 hf
  · refine at_iload_n hO 2 rfl rfl dX9_odds_7 8 rfl ?_
    obtain ⟨h4, hf⟩ := chk_some hf
    refine at_i2l hO h4 dX9_odds_8 9 rfl ?_
    refine at_lconst (n := 0) hO (by decide) dX9_odds_9 10 rfl ?_
    refine at_ldc2_w (n := 99) hO lc_X9_119 (by decide) dX9_odds_10 13 rfl ?_
    refine at_callS1 (As := [vl p2, vl 0, vl 99]) (st := []) hO (c_X9_in _ G hO.g s2 p2 0 99) mb_X9_in ms_X9_in lk_X9_49 rfl ⟨(Nat.le_of_ble_eq_true rfl), (Nat.le_of_ble_eq_true rfl)⟩ (Nat.le_of_ble_eq_true rfl) rfl dX9_odds_13 16 rfl hf (fun r5 s6 hf => ?_)
    obtain ⟨h7, hf⟩ := chk_some hf
    refine at_if_ne hO h7 dX9_odds_16 22 rfl 19 rfl hf (fun hf => ?_) (fun hf => ?_)
    · refine at_aload_n hO 0 rfl rfl dX9_odds_22 23 rfl ?_
      refine at_getR hO fl_X9_31 rfl rfl dX9_odds_23 26 rfl ?_
      refine at_iload_n hO 1 rfl rfl dX9_odds_26 27 rfl ?_
      obtain ⟨h8, hf⟩ := chk_some hf
      refine at_iaload hO rfl (Nat.le_of_ble_eq_true rfl) h8 (p1.toNat) rfl dX9_odds_27 28 rfl ?_
      refine at_istore_n hO (lv' := [(3, vi (s6 66 p1.toNat)), (0, vr G 58), (1, vi p1), (2, vi p2)]) rfl (Nat.le_of_ble_eq_true rfl) rfl dX9_odds_28 29 rfl ?_
      refine at_aload_n hO 1 rfl rfl dX9_odds_29 30 rfl ?_
      refine at_getR hO fl_X9_31 rfl rfl dX9_odds_30 33 rfl ?_
      refine at_iload_n hO 2 rfl rfl dX9_odds_33 34 rfl ?_
      refine at_iload_n hO 3 rfl rfl dX9_odds_34 35 rfl ?_
      refine at_iastore hO rfl (Nat.le_of_ble_eq_true rfl) h8 (p1.toNat) rfl dX9_odds_35 36 rfl ?_
      refine at_iload_n hO 0 rfl rfl dX9_odds_36 37 rfl ?_
      exact at_ireturn hO dX9_odds_37 hf
    · refine at_bipush hO (by decide) dX9_odds_19 21 rfl ?_
      exact at_ireturn hO dX9_odds_21 hf

def f_X9_dike (s : St) (p1 p2 p3 : Int) : Option Rt := chk (in32 p1) (cll (f_X9_in s p1 0 11) (fun r2 s3 => chk (in32 r2) ((if r2 = 0 then some ((-2), s3) else chk (in32 p2) (cll (f_X9_in s3 p2 p1 11) (fun r6 s7 => chk (in32 r6) ((if r6 = 0 then some ((-2), s7) else cll (f_X9_isDay s7 p3) (fun r9 s10 => chk (in32 r9) ((if r9 = 0 then some ((-2), s10) else chk (in32 (s10 58 9)) ((if (s10 58 9) = 8 then some ((-4), s10) else chk (ix (3 * (s10 58 9)) 27) (chk (ix ((3 * ((su s10 67 (3 * (s10 58 9)).toNat p1) 58 9)) + 1) 27) (chk (ix ((3 * ((su (su s10 67 (3 * (s10 58 9)).toNat p1) 67 ((3 * ((su s10 67 (3 * (s10 58 9)).toNat p1) 58 9)) + 1).toNat p2) 58 9)) + 2) 27) (some (((su (su (su (su s10 67 (3 * (s10 58 9)).toNat p1) 67 ((3 * ((su s10 67 (3 * (s10 58 9)).toNat p1) 58 9)) + 1).toNat p2) 67 ((3 * ((su (su s10 67 (3 * (s10 58 9)).toNat p1) 67 ((3 * ((su s10 67 (3 * (s10 58 9)).toNat p1) 58 9)) + 1).toNat p2) 58 9)) + 2).toNat p3) 58 9 (((su (su (su s10 67 (3 * (s10 58 9)).toNat p1) 67 ((3 * ((su s10 67 (3 * (s10 58 9)).toNat p1) 58 9)) + 1).toNat p2) 67 ((3 * ((su (su s10 67 (3 * (s10 58 9)).toNat p1) 67 ((3 * ((su s10 67 (3 * (s10 58 9)).toNat p1) 58 9)) + 1).toNat p2) 58 9)) + 2).toNat p3) 58 9) + 1)) 58 9), (su (su (su (su s10 67 (3 * (s10 58 9)).toNat p1) 67 ((3 * ((su s10 67 (3 * (s10 58 9)).toNat p1) 58 9)) + 1).toNat p2) 67 ((3 * ((su (su s10 67 (3 * (s10 58 9)).toNat p1) 67 ((3 * ((su s10 67 (3 * (s10 58 9)).toNat p1) 58 9)) + 1).toNat p2) 58 9)) + 2).toNat p3) 58 9 (((su (su (su s10 67 (3 * (s10 58 9)).toNat p1) 67 ((3 * ((su s10 67 (3 * (s10 58 9)).toNat p1) 58 9)) + 1).toNat p2) 67 ((3 * ((su (su s10 67 (3 * (s10 58 9)).toNat p1) 67 ((3 * ((su s10 67 (3 * (s10 58 9)).toNat p1) 58 9)) + 1).toNat p2) 58 9)) + 2).toNat p3) 58 9) + 1)))))))))))))))))))
set_option maxRecDepth 100000 in
set_option maxHeartbeats 4000000 in
theorem c_X9_dike (l : Launch) (G : Ge) (hG : rr_GD G) (s : St) (p1 p2 p3 : Int) : rr_Ct l G yX9_dike cX9_dike 4 (some .int) 2 45 1 [vr G 58, vi p1, vi p2, vi p3] s (f_X9_dike s p1 p2 p3) := by
  refine rr_mk (lv := [(0, vr G 58), (1, vi p1), (2, vi p2), (3, vi p3)]) RX9 (by decide) rfl hG (Nat.le_of_ble_eq_true rfl) rfl ?_
  intro X Z hO hf
  unfold f_X9_dike at hf
  refine at_iload_n hO 1 rfl rfl dX9_dike_0 1 rfl ?_
  obtain ⟨h1, hf⟩ := chk_some hf
  refine at_i2l hO h1 dX9_dike_1 2 rfl ?_
  refine at_lconst (n := 0) hO (by decide) dX9_dike_2 3 rfl ?_
  refine at_ldc2_w (n := 11) hO lc_X9_121 (by decide) dX9_dike_3 6 rfl ?_
  refine at_callS1 (As := [vl p1, vl 0, vl 11]) (st := []) hO (c_X9_in _ G hO.g s p1 0 11) mb_X9_in ms_X9_in lk_X9_49 rfl ⟨(Nat.le_of_ble_eq_true rfl), (Nat.le_of_ble_eq_true rfl)⟩ (Nat.le_of_ble_eq_true rfl) rfl dX9_dike_6 9 rfl hf (fun r2 s3 hf => ?_)
  obtain ⟨h4, hf⟩ := chk_some hf
  refine at_if_eq hO h4 dX9_dike_9 32 rfl 12 rfl hf (fun hf => ?_) (fun hf => ?_)
  · refine at_bipush hO (by decide) dX9_dike_32 34 rfl ?_
    exact at_ireturn hO dX9_dike_34 hf
  · refine at_iload_n hO 2 rfl rfl dX9_dike_12 13 rfl ?_
    obtain ⟨h5, hf⟩ := chk_some hf
    refine at_i2l hO h5 dX9_dike_13 14 rfl ?_
    refine at_iload_n hO 1 rfl rfl dX9_dike_14 15 rfl ?_
    refine at_i2l hO h1 dX9_dike_15 16 rfl ?_
    refine at_ldc2_w (n := 11) hO lc_X9_121 (by decide) dX9_dike_16 19 rfl ?_
    refine at_callS1 (As := [vl p2, vl p1, vl 11]) (st := []) hO (c_X9_in _ G hO.g s3 p2 p1 11) mb_X9_in ms_X9_in lk_X9_49 rfl ⟨(Nat.le_of_ble_eq_true rfl), (Nat.le_of_ble_eq_true rfl)⟩ (Nat.le_of_ble_eq_true rfl) rfl dX9_dike_19 22 rfl hf (fun r6 s7 hf => ?_)
    obtain ⟨h8, hf⟩ := chk_some hf
    refine at_if_eq hO h8 dX9_dike_22 32 rfl 25 rfl hf (fun hf => ?_) (fun hf => ?_)
    · refine at_bipush hO (by decide) dX9_dike_32 34 rfl ?_
      exact at_ireturn hO dX9_dike_34 hf
    · refine at_iload_n hO 3 rfl rfl dX9_dike_25 26 rfl ?_
      refine at_callS1 (As := [vi p3]) (st := []) hO (c_X9_isDay _ G hO.g s7 p3) mb_X9_isDay ms_X9_isDay lk_X9_108 rfl ⟨(Nat.le_of_ble_eq_true rfl), (Nat.le_of_ble_eq_true rfl)⟩ (Nat.le_of_ble_eq_true rfl) rfl dX9_dike_26 29 rfl hf (fun r9 s10 hf => ?_)
      obtain ⟨h11, hf⟩ := chk_some hf
      refine at_if_ne hO h11 dX9_dike_29 35 rfl 32 rfl hf (fun hf => ?_) (fun hf => ?_)
      · refine at_aload_n hO 0 rfl rfl dX9_dike_35 36 rfl ?_
        refine at_getI hO fl_X9_123 rfl rfl dX9_dike_36 39 rfl ?_
        refine at_bipush hO (by decide) dX9_dike_39 41 rfl ?_
        obtain ⟨h12, hf⟩ := chk_some hf
        refine at_icmp_ne hO h12 (by decide) dX9_dike_41 47 rfl 44 rfl hf (fun hf => ?_) (fun hf => ?_)
        · refine at_aload_n hO 0 rfl rfl dX9_dike_47 48 rfl ?_
          refine at_getR hO fl_X9_34 rfl rfl dX9_dike_48 51 rfl ?_
          refine at_iconst hO dX9_dike_51 52 rfl ?_
          refine at_aload_n hO 0 rfl rfl dX9_dike_52 53 rfl ?_
          refine at_getI hO fl_X9_123 rfl rfl dX9_dike_53 56 rfl ?_
          refine at_imul hO dX9_dike_56 57 rfl ?_
          refine at_iload_n hO 1 rfl rfl dX9_dike_57 58 rfl ?_
          obtain ⟨h13, hf⟩ := chk_some hf
          refine at_iastore hO rfl (Nat.le_of_ble_eq_true rfl) h13 ((3 * (s10 58 9)).toNat) rfl dX9_dike_58 59 rfl ?_
          refine at_aload_n hO 0 rfl rfl dX9_dike_59 60 rfl ?_
          refine at_getR hO fl_X9_34 rfl rfl dX9_dike_60 63 rfl ?_
          refine at_iconst hO dX9_dike_63 64 rfl ?_
          refine at_aload_n hO 0 rfl rfl dX9_dike_64 65 rfl ?_
          refine at_getI hO fl_X9_123 rfl rfl dX9_dike_65 68 rfl ?_
          refine at_imul hO dX9_dike_68 69 rfl ?_
          refine at_iconst hO dX9_dike_69 70 rfl ?_
          refine at_iadd hO dX9_dike_70 71 rfl ?_
          refine at_iload_n hO 2 rfl rfl dX9_dike_71 72 rfl ?_
          obtain ⟨h14, hf⟩ := chk_some hf
          refine at_iastore hO rfl (Nat.le_of_ble_eq_true rfl) h14 (((3 * ((su s10 67 (3 * (s10 58 9)).toNat p1) 58 9)) + 1).toNat) rfl dX9_dike_72 73 rfl ?_
          refine at_aload_n hO 0 rfl rfl dX9_dike_73 74 rfl ?_
          refine at_getR hO fl_X9_34 rfl rfl dX9_dike_74 77 rfl ?_
          refine at_iconst hO dX9_dike_77 78 rfl ?_
          refine at_aload_n hO 0 rfl rfl dX9_dike_78 79 rfl ?_
          refine at_getI hO fl_X9_123 rfl rfl dX9_dike_79 82 rfl ?_
          refine at_imul hO dX9_dike_82 83 rfl ?_
          refine at_iconst hO dX9_dike_83 84 rfl ?_
          refine at_iadd hO dX9_dike_84 85 rfl ?_
          refine at_iload_n hO 3 rfl rfl dX9_dike_85 86 rfl ?_
          obtain ⟨h15, hf⟩ := chk_some hf
          refine at_iastore hO rfl (Nat.le_of_ble_eq_true rfl) h15 (((3 * ((su (su s10 67 (3 * (s10 58 9)).toNat p1) 67 ((3 * ((su s10 67 (3 * (s10 58 9)).toNat p1) 58 9)) + 1).toNat p2) 58 9)) + 2).toNat) rfl dX9_dike_86 87 rfl ?_
          refine at_aload_n hO 0 rfl rfl dX9_dike_87 88 rfl ?_
          refine at_dup hO rfl dX9_dike_88 89 rfl ?_
          refine at_getI hO fl_X9_123 rfl rfl dX9_dike_89 92 rfl ?_
          refine at_iconst hO dX9_dike_92 93 rfl ?_
          refine at_iadd hO dX9_dike_93 94 rfl ?_
          refine at_putI hO fp_X9_123 rfl rfl dX9_dike_94 97 rfl ?_
          refine at_aload_n hO 0 rfl rfl dX9_dike_97 98 rfl ?_
          refine at_getI hO fl_X9_123 rfl rfl dX9_dike_98 101 rfl ?_
          exact at_ireturn hO dX9_dike_101 hf
        · refine at_bipush hO (by decide) dX9_dike_44 46 rfl ?_
          exact at_ireturn hO dX9_dike_46 hf
      · refine at_bipush hO (by decide) dX9_dike_32 34 rfl ?_
        exact at_ireturn hO dX9_dike_34 hf

def B_X9_read_94 (rec29 : St → Int → Int → Int → Option Rt) (s : St) (v1 v2 t0 : Int) : Option Rt := chk (in32 t0) ((if t0 = 0 then rec29 s v1 (v2 + 0) t0 else rec29 s v1 (v2 + 1) t0))
set_option maxRecDepth 100000 in
set_option maxHeartbeats 4000000 in
theorem wB_X9_read_94 {X : CX} {G : Ge} {Z : Rt} {rec29 : St → Int → Int → Int → Option Rt} (hO : rr_OK X G cX9_read 5 RX9 (some .int) 3 68) (hrec29 : ∀ (s : St) (v1 v2 v3 : Int), rec29 s v1 v2 v3 = some Z → rr_AT X G 5 1 Z 29 [(0, vr G 58), (1, vi v1), (2, vi v2), (3, vi v3)] [] s) (s : St) (v1 v2 t0 : Int) (hf : B_X9_read_94 rec29 s v1 v2 t0 = some Z) : rr_AT X G 5 1 Z 94 [(0, vr G 58), (1, vi v1), (2, vi v2)] [vi t0] s := by
  unfold B_X9_read_94 at hf
  refine at_istore_n hO (lv' := [(3, vi t0), (0, vr G 58), (1, vi v1), (2, vi v2)]) rfl (Nat.le_of_ble_eq_true rfl) rfl dX9_read_94 95 rfl ?_
  refine at_iload_n hO 3 rfl rfl dX9_read_95 96 rfl ?_
  refine at_iload_n hO 0 rfl rfl dX9_read_96 97 rfl ?_
  obtain ⟨h1, hf⟩ := chk_some hf
  refine at_if_eq hO h1 dX9_read_97 104 rfl 100 rfl hf (fun hf => ?_) (fun hf => ?_)
  · refine at_iconst hO dX9_read_104 105 rfl ?_
    refine at_iadd hO dX9_read_105 106 rfl ?_
    refine at_istore_n hO (lv' := [(2, vi (v2 + 0)), (3, vi t0), (0, vr G 58), (1, vi v1)]) rfl (Nat.le_of_ble_eq_true rfl) rfl dX9_read_106 107 rfl ?_
    refine at_goto hO dX9_read_107 29 rfl ?_
    exact at_sub (fun ls h => lv_sub h [2, 3, 0, 1] rfl) (hrec29 s v1 (v2 + 0) t0 hf)
  · refine at_iconst hO dX9_read_100 101 rfl ?_
    refine at_goto hO dX9_read_101 105 rfl ?_
    refine at_iadd hO dX9_read_105 106 rfl ?_
    refine at_istore_n hO (lv' := [(2, vi (v2 + 1)), (3, vi t0), (0, vr G 58), (1, vi v1)]) rfl (Nat.le_of_ble_eq_true rfl) rfl dX9_read_106 107 rfl ?_
    refine at_goto hO dX9_read_107 29 rfl ?_
    exact at_sub (fun ls h => lv_sub h [2, 3, 0, 1] rfl) (hrec29 s v1 (v2 + 1) t0 hf)
def S_X9_read_29 (rec29 : St → Int → Int → Int → Option Rt) (s : St) (v1 v2 v3 : Int) : Option Rt := chk (in32 v3) ((if v3 = 0 then some (v2, s) else chk (ix v1 4) (chk (in32 ((3 * v2) + 3)) (chk (in32 (s 60 v1.toNat)) ((if (s 60 v1.toNat) < ((3 * v2) + 3) then some (v2, s) else chk (ix ((60 * v1) + (3 * v2)) 240) (chk (ix (((60 * v1) + (3 * v2)) + 1) 240) (chk (ix (((60 * v1) + (3 * v2)) + 2) 240) (cll (f_X9_dike s (s 61 ((60 * v1) + (3 * v2)).toNat) (s 61 (((60 * v1) + (3 * v2)) + 1).toNat) (s 61 (((60 * v1) + (3 * v2)) + 2).toNat)) (fun r8 s9 => chk (in32 r8) ((if r8 < 0 then B_X9_read_94 rec29 s9 v1 v2 0 else B_X9_read_94 rec29 s9 v1 v2 1))))))))))))
def L_X9_read_29 : Nat → St → Int → Int → Int → Option Rt
  | 0, _, _, _, _ => none
  | n + 1, s, v1, v2, v3 => S_X9_read_29 (L_X9_read_29 n) s v1 v2 v3
set_option maxRecDepth 100000 in
set_option maxHeartbeats 4000000 in
theorem wS_X9_read_29 {X : CX} {G : Ge} {Z : Rt} {rec29 : St → Int → Int → Int → Option Rt} (hO : rr_OK X G cX9_read 5 RX9 (some .int) 3 68) (hrec29 : ∀ (s : St) (v1 v2 v3 : Int), rec29 s v1 v2 v3 = some Z → rr_AT X G 5 1 Z 29 [(0, vr G 58), (1, vi v1), (2, vi v2), (3, vi v3)] [] s) (s : St) (v1 v2 v3 : Int) (hf : S_X9_read_29 rec29 s v1 v2 v3 = some Z) : rr_AT X G 5 1 Z 29 [(0, vr G 58), (1, vi v1), (2, vi v2), (3, vi v3)] [] s := by
  unfold S_X9_read_29 at hf
  refine at_iload_n hO 3 rfl rfl dX9_read_29 30 rfl ?_
  obtain ⟨h1, hf⟩ := chk_some hf
  refine at_if_eq hO h1 dX9_read_30 110 rfl 33 rfl hf (fun hf => ?_) (fun hf => ?_)
  · refine at_iload_n hO 2 rfl rfl dX9_read_110 111 rfl ?_
    exact at_ireturn hO dX9_read_111 hf
  · refine at_iconst hO dX9_read_33 34 rfl ?_
    refine at_iload_n hO 2 rfl rfl dX9_read_34 35 rfl ?_
    refine at_imul hO dX9_read_35 36 rfl ?_
    refine at_iconst hO dX9_read_36 37 rfl ?_
    refine at_iadd hO dX9_read_37 38 rfl ?_
    refine at_aload_n hO 0 rfl rfl dX9_read_38 39 rfl ?_
    refine at_getR hO fl_X9_13 rfl rfl dX9_read_39 42 rfl ?_
    refine at_iload_n hO 1 rfl rfl dX9_read_42 43 rfl ?_
    obtain ⟨h2, hf⟩ := chk_some hf
    refine at_iaload hO rfl (Nat.le_of_ble_eq_true rfl) h2 (v1.toNat) rfl dX9_read_43 44 rfl ?_
    obtain ⟨h3, hf⟩ := chk_some hf
    obtain ⟨h4, hf⟩ := chk_some hf
    refine at_icmp_gt hO h3 h4 dX9_read_44 110 rfl 47 rfl hf (fun hf => ?_) (fun hf => ?_)
    · refine at_iload_n hO 2 rfl rfl dX9_read_110 111 rfl ?_
      exact at_ireturn hO dX9_read_111 hf
    · refine at_bipush hO (by decide) dX9_read_47 49 rfl ?_
      refine at_iload_n hO 1 rfl rfl dX9_read_49 50 rfl ?_
      refine at_imul hO dX9_read_50 51 rfl ?_
      refine at_iconst hO dX9_read_51 52 rfl ?_
      refine at_iload_n hO 2 rfl rfl dX9_read_52 53 rfl ?_
      refine at_imul hO dX9_read_53 54 rfl ?_
      refine at_iadd hO dX9_read_54 55 rfl ?_
      refine at_istore hO (lv' := [(4, vi ((60 * v1) + (3 * v2))), (0, vr G 58), (1, vi v1), (2, vi v2), (3, vi v3)]) (Nat.le_of_ble_eq_true rfl) rfl dX9_read_55 57 rfl ?_
      refine at_aload_n hO 1 rfl rfl dX9_read_57 58 rfl ?_
      refine at_aload_n hO 1 rfl rfl dX9_read_58 59 rfl ?_
      refine at_getR hO fl_X9_16 rfl rfl dX9_read_59 62 rfl ?_
      refine at_iload hO 0 rfl dX9_read_62 64 rfl ?_
      obtain ⟨h5, hf⟩ := chk_some hf
      refine at_iaload hO rfl (Nat.le_of_ble_eq_true rfl) h5 (((60 * v1) + (3 * v2)).toNat) rfl dX9_read_64 65 rfl ?_
      refine at_aload_n hO 1 rfl rfl dX9_read_65 66 rfl ?_
      refine at_getR hO fl_X9_16 rfl rfl dX9_read_66 69 rfl ?_
      refine at_iload hO 0 rfl dX9_read_69 71 rfl ?_
      refine at_iconst hO dX9_read_71 72 rfl ?_
      refine at_iadd hO dX9_read_72 73 rfl ?_
      obtain ⟨h6, hf⟩ := chk_some hf
      refine at_iaload hO rfl (Nat.le_of_ble_eq_true rfl) h6 ((((60 * v1) + (3 * v2)) + 1).toNat) rfl dX9_read_73 74 rfl ?_
      refine at_aload_n hO 1 rfl rfl dX9_read_74 75 rfl ?_
      refine at_getR hO fl_X9_16 rfl rfl dX9_read_75 78 rfl ?_
      refine at_iload hO 0 rfl dX9_read_78 80 rfl ?_
      refine at_iconst hO dX9_read_80 81 rfl ?_
      refine at_iadd hO dX9_read_81 82 rfl ?_
      obtain ⟨h7, hf⟩ := chk_some hf
      refine at_iaload hO rfl (Nat.le_of_ble_eq_true rfl) h7 ((((60 * v1) + (3 * v2)) + 2).toNat) rfl dX9_read_82 83 rfl ?_
      refine at_callV1 (As := [vi (s 61 ((60 * v1) + (3 * v2)).toNat), vi (s 61 (((60 * v1) + (3 * v2)) + 1).toNat), vi (s 61 (((60 * v1) + (3 * v2)) + 2).toNat)]) (st := []) hO (c_X9_dike _ G hO.g s (s 61 ((60 * v1) + (3 * v2)).toNat) (s 61 (((60 * v1) + (3 * v2)) + 1).toNat) (s 61 (((60 * v1) + (3 * v2)) + 2).toNat)) mb_X9_dike mi_X9_dike lk_X9_126 rfl ⟨_, rfl, rfl⟩ rfl ⟨(Nat.le_of_ble_eq_true rfl), (Nat.le_of_ble_eq_true rfl)⟩ (Nat.le_of_ble_eq_true rfl) rfl dX9_read_83 86 rfl hf (fun r8 s9 hf => ?_)
      obtain ⟨h10, hf⟩ := chk_some hf
      refine at_if_lt hO h10 dX9_read_86 93 rfl 89 rfl hf (fun hf => ?_) (fun hf => ?_)
      · refine at_iconst hO dX9_read_93 94 rfl ?_
        exact at_sub (fun ls h => lv_sub h [1, 2, 3] rfl) (wB_X9_read_94 hO hrec29 s9 v1 v2 0 hf)
      · refine at_iconst hO dX9_read_89 90 rfl ?_
        refine at_goto hO dX9_read_90 94 rfl ?_
        exact at_sub (fun ls h => lv_sub h [1, 2, 3] rfl) (wB_X9_read_94 hO hrec29 s9 v1 v2 1 hf)
theorem wL_X9_read_29 {X : CX} {G : Ge} {Z : Rt} (hO : rr_OK X G cX9_read 5 RX9 (some .int) 3 68) : ∀ (n : Nat) (s : St) (v1 v2 v3 : Int), L_X9_read_29 n s v1 v2 v3 = some Z → rr_AT X G 5 1 Z 29 [(0, vr G 58), (1, vi v1), (2, vi v2), (3, vi v3)] [] s := by
  intro n
  induction n with
  | zero =>
    intro s v1 v2 v3 hf
    cases hf
  | succ n ih =>
    intro s v1 v2 v3 hf
    exact wS_X9_read_29 hO ih s v1 v2 v3 hf
def f_X9_read (s : St) (p1 : Int) : Option Rt := cll (f_X9_isSheet s p1) (fun r1 s2 => chk (in32 r1) ((if r1 = 0 then some ((-2), s2) else chk (ix p1 4) (chk (in32 (s2 59 p1.toNat)) ((if 0 ≤ (s2 59 p1.toNat) then L_X9_read_29 FU s2 p1 0 1 else cll (f_X9_met s2 1) (fun r6 s7 => some (r6, s7))))))))
set_option maxRecDepth 100000 in
set_option maxHeartbeats 4000000 in
theorem c_X9_read (l : Launch) (G : Ge) (hG : rr_GD G) (s : St) (p1 : Int) : rr_Ct l G yX9_read cX9_read 5 (some .int) 3 68 1 [vr G 58, vi p1] s (f_X9_read s p1) := by
  refine rr_mk (lv := [(0, vr G 58), (1, vi p1)]) RX9 (by decide) rfl hG (Nat.le_of_ble_eq_true rfl) rfl ?_
  intro X Z hO hf
  unfold f_X9_read at hf
  refine at_iload_n hO 1 rfl rfl dX9_read_0 1 rfl ?_
  refine at_callS1 (As := [vi p1]) (st := []) hO (c_X9_isSheet _ G hO.g s p1) mb_X9_isSheet ms_X9_isSheet lk_X9_59 rfl ⟨(Nat.le_of_ble_eq_true rfl), (Nat.le_of_ble_eq_true rfl)⟩ (Nat.le_of_ble_eq_true rfl) rfl dX9_read_1 4 rfl hf (fun r1 s2 hf => ?_)
  obtain ⟨h3, hf⟩ := chk_some hf
  refine at_if_ne hO h3 dX9_read_4 10 rfl 7 rfl hf (fun hf => ?_) (fun hf => ?_)
  · refine at_aload_n hO 0 rfl rfl dX9_read_10 11 rfl ?_
    refine at_getR hO fl_X9_7 rfl rfl dX9_read_11 14 rfl ?_
    refine at_iload_n hO 1 rfl rfl dX9_read_14 15 rfl ?_
    obtain ⟨h4, hf⟩ := chk_some hf
    refine at_iaload hO rfl (Nat.le_of_ble_eq_true rfl) h4 (p1.toNat) rfl dX9_read_15 16 rfl ?_
    obtain ⟨h5, hf⟩ := chk_some hf
    refine at_if_ge hO h5 dX9_read_16 25 rfl 19 rfl hf (fun hf => ?_) (fun hf => ?_)
    · refine at_iconst hO dX9_read_25 26 rfl ?_
      refine at_istore_n hO (lv' := [(2, vi 0), (0, vr G 58), (1, vi p1)]) rfl (Nat.le_of_ble_eq_true rfl) rfl dX9_read_26 27 rfl ?_
      refine at_iconst hO dX9_read_27 28 rfl ?_
      refine at_istore_n hO (lv' := [(3, vi 1), (2, vi 0), (0, vr G 58), (1, vi p1)]) rfl (Nat.le_of_ble_eq_true rfl) rfl dX9_read_28 29 rfl ?_
      exact at_sub (fun ls h => lv_sub h [2, 3, 1, 0] rfl) (wL_X9_read_29 hO FU s2 p1 0 1 hf)
    · refine at_aload_n hO 0 rfl rfl dX9_read_19 20 rfl ?_
      refine at_iconst hO dX9_read_20 21 rfl ?_
      refine at_callV1 (As := [vi 1]) (st := []) hO (c_X9_met _ G hO.g s2 1) mb_X9_met mi_X9_met lk_X9_65 rfl ⟨_, rfl, rfl⟩ rfl ⟨(Nat.le_of_ble_eq_true rfl), (Nat.le_of_ble_eq_true rfl)⟩ (Nat.le_of_ble_eq_true rfl) rfl dX9_read_21 24 rfl hf (fun r6 s7 hf => ?_)
      exact at_ireturn hO dX9_read_24 hf
  · refine at_bipush hO (by decide) dX9_read_7 9 rfl ?_
    exact at_ireturn hO dX9_read_9 hf

def f_X9_breaks (s : St) : Option Rt := chk (in32 (s 58 9)) ((if (s 58 9) = 0 then some ((-3), s) else some (((su s 58 9 ((s 58 9) - 1)) 58 9), (su s 58 9 ((s 58 9) - 1)))))
set_option maxRecDepth 100000 in
set_option maxHeartbeats 4000000 in
theorem c_X9_breaks (l : Launch) (G : Ge) (hG : rr_GD G) (s : St) : rr_Ct l G yX9_breaks cX9_breaks 1 (some .int) 0 0 1 [vr G 58] s (f_X9_breaks s ) := by
  refine rr_mk (lv := [(0, vr G 58)]) RX9 (by decide) rfl hG (Nat.le_of_ble_eq_true rfl) rfl ?_
  intro X Z hO hf
  unfold f_X9_breaks at hf
  refine at_aload_n hO 0 rfl rfl dX9_breaks_0 1 rfl ?_
  refine at_getI hO fl_X9_123 rfl rfl dX9_breaks_1 4 rfl ?_
  obtain ⟨h1, hf⟩ := chk_some hf
  refine at_if_ne hO h1 dX9_breaks_4 10 rfl 7 rfl hf (fun hf => ?_) (fun hf => ?_)
  · refine at_aload_n hO 0 rfl rfl dX9_breaks_10 11 rfl ?_
    refine at_dup hO rfl dX9_breaks_11 12 rfl ?_
    refine at_getI hO fl_X9_123 rfl rfl dX9_breaks_12 15 rfl ?_
    refine at_iconst hO dX9_breaks_15 16 rfl ?_
    refine at_isub hO dX9_breaks_16 17 rfl ?_
    refine at_putI hO fp_X9_123 rfl rfl dX9_breaks_17 20 rfl ?_
    refine at_aload_n hO 0 rfl rfl dX9_breaks_20 21 rfl ?_
    refine at_getI hO fl_X9_123 rfl rfl dX9_breaks_21 24 rfl ?_
    exact at_ireturn hO dX9_breaks_24 hf
  · refine at_bipush hO (by decide) dX9_breaks_7 9 rfl ?_
    exact at_ireturn hO dX9_breaks_9 hf

def S_X9_isKept_5 (rec5 : St → Int → Int → Int → Int → Option Rt) (s : St) (v1 v2 v3 v4 : Int) : Option Rt := chk (in32 v4) (chk (in32 (s 58 9)) ((if (s 58 9) ≤ v4 then chk (v3 = 0 ∨ v3 = 1) (some (v3, s)) else chk (in32 v3) ((if v3 = 0 then chk (in32 v2) (chk (ix (3 * v4) 27) (chk (in32 (s 67 (3 * v4).toNat)) (chk (ix ((3 * v4) + 1) 27) (chk (in32 (s 67 ((3 * v4) + 1).toNat)) (cll (f_X9_in s v2 (s 67 (3 * v4).toNat) (s 67 ((3 * v4) + 1).toNat)) (fun r10 s11 => chk (in32 r10) ((if r10 = 0 then rec5 s11 v1 v2 0 (v4 + 1) else chk (in32 v1) (chk (ix ((3 * v4) + 2) 27) (chk (in32 (s11 67 ((3 * v4) + 2).toNat)) (chk (in32 ((s11 67 ((3 * v4) + 2).toNat) + 6)) (cll (f_X9_in s11 v1 (s11 67 ((3 * v4) + 2).toNat) ((s11 67 ((3 * v4) + 2).toNat) + 6)) (fun r17 s18 => chk (in32 r17) ((if r17 = 0 then rec5 s18 v1 v2 0 (v4 + 1) else rec5 s18 v1 v2 1 (v4 + 1)))))))))))))))) else rec5 s v1 v2 1 (v4 + 1))))))
def L_X9_isKept_5 : Nat → St → Int → Int → Int → Int → Option Rt
  | 0, _, _, _, _, _ => none
  | n + 1, s, v1, v2, v3, v4 => S_X9_isKept_5 (L_X9_isKept_5 n) s v1 v2 v3 v4
set_option maxRecDepth 100000 in
set_option maxHeartbeats 4000000 in
theorem wS_X9_isKept_5 {X : CX} {G : Ge} {Z : Rt} {rec5 : St → Int → Int → Int → Int → Option Rt} (hO : rr_OK X G cX9_isKept 5 RX9 (some .boolean) 1 25) (hrec5 : ∀ (s : St) (v1 v2 v3 v4 : Int), rec5 s v1 v2 v3 v4 = some Z → rr_AT X G 5 1 Z 5 [(0, vr G 58), (1, vi v1), (2, vi v2), (3, vi v3), (4, vi v4)] [] s) (s : St) (v1 v2 v3 v4 : Int) (hf : S_X9_isKept_5 rec5 s v1 v2 v3 v4 = some Z) : rr_AT X G 5 1 Z 5 [(0, vr G 58), (1, vi v1), (2, vi v2), (3, vi v3), (4, vi v4)] [] s := by
  unfold S_X9_isKept_5 at hf
  refine at_iload hO 4 rfl dX9_isKept_5 7 rfl ?_
  refine at_aload_n hO 0 rfl rfl dX9_isKept_7 8 rfl ?_
  refine at_getI hO fl_X9_123 rfl rfl dX9_isKept_8 11 rfl ?_
  obtain ⟨h1, hf⟩ := chk_some hf
  obtain ⟨h2, hf⟩ := chk_some hf
  refine at_icmp_ge hO h1 h2 dX9_isKept_11 95 rfl 14 rfl hf (fun hf => ?_) (fun hf => ?_)
  · refine at_iload_n hO 3 rfl rfl dX9_isKept_95 96 rfl ?_
    obtain ⟨h3, hf⟩ := chk_some hf
    exact at_zreturn hO h3 dX9_isKept_96 hf
  · refine at_iload_n hO 3 rfl rfl dX9_isKept_14 15 rfl ?_
    obtain ⟨h4, hf⟩ := chk_some hf
    refine at_if_ne hO h4 dX9_isKept_15 83 rfl 18 rfl hf (fun hf => ?_) (fun hf => ?_)
    · refine at_iconst hO dX9_isKept_83 84 rfl ?_
      refine at_goto hO dX9_isKept_84 88 rfl ?_
      refine at_istore_n hO (lv' := [(3, vi 1), (0, vr G 58), (1, vi v1), (2, vi v2), (4, vi v4)]) rfl (Nat.le_of_ble_eq_true rfl) rfl dX9_isKept_88 89 rfl ?_
      refine at_iinc hO (lv' := [(4, vi (v4 + 1)), (3, vi 1), (0, vr G 58), (1, vi v1), (2, vi v2)]) 4 rfl (Nat.le_of_ble_eq_true rfl) rfl dX9_isKept_89 92 rfl ?_
      refine at_goto hO dX9_isKept_92 5 rfl ?_
      exact at_sub (fun ls h => lv_sub h [2, 3, 4, 1, 0] rfl) (hrec5 s v1 v2 1 (v4 + 1) hf)
    · refine at_iload_n hO 2 rfl rfl dX9_isKept_18 19 rfl ?_
      obtain ⟨h5, hf⟩ := chk_some hf
      refine at_i2l hO h5 dX9_isKept_19 20 rfl ?_
      refine at_aload_n hO 0 rfl rfl dX9_isKept_20 21 rfl ?_
      refine at_getR hO fl_X9_34 rfl rfl dX9_isKept_21 24 rfl ?_
      refine at_iconst hO dX9_isKept_24 25 rfl ?_
      refine at_iload hO 4 rfl dX9_isKept_25 27 rfl ?_
      refine at_imul hO dX9_isKept_27 28 rfl ?_
      obtain ⟨h6, hf⟩ := chk_some hf
      refine at_iaload hO rfl (Nat.le_of_ble_eq_true rfl) h6 ((3 * v4).toNat) rfl dX9_isKept_28 29 rfl ?_
      obtain ⟨h7, hf⟩ := chk_some hf
      refine at_i2l hO h7 dX9_isKept_29 30 rfl ?_
      refine at_aload_n hO 0 rfl rfl dX9_isKept_30 31 rfl ?_
      refine at_getR hO fl_X9_34 rfl rfl dX9_isKept_31 34 rfl ?_
      refine at_iconst hO dX9_isKept_34 35 rfl ?_
      refine at_iload hO 4 rfl dX9_isKept_35 37 rfl ?_
      refine at_imul hO dX9_isKept_37 38 rfl ?_
      refine at_iconst hO dX9_isKept_38 39 rfl ?_
      refine at_iadd hO dX9_isKept_39 40 rfl ?_
      obtain ⟨h8, hf⟩ := chk_some hf
      refine at_iaload hO rfl (Nat.le_of_ble_eq_true rfl) h8 (((3 * v4) + 1).toNat) rfl dX9_isKept_40 41 rfl ?_
      obtain ⟨h9, hf⟩ := chk_some hf
      refine at_i2l hO h9 dX9_isKept_41 42 rfl ?_
      refine at_callS1 (As := [vl v2, vl (s 67 (3 * v4).toNat), vl (s 67 ((3 * v4) + 1).toNat)]) (st := []) hO (c_X9_in _ G hO.g s v2 (s 67 (3 * v4).toNat) (s 67 ((3 * v4) + 1).toNat)) mb_X9_in ms_X9_in lk_X9_49 rfl ⟨(Nat.le_of_ble_eq_true rfl), (Nat.le_of_ble_eq_true rfl)⟩ (Nat.le_of_ble_eq_true rfl) rfl dX9_isKept_42 45 rfl hf (fun r10 s11 hf => ?_)
      obtain ⟨h12, hf⟩ := chk_some hf
      refine at_if_eq hO h12 dX9_isKept_45 87 rfl 48 rfl hf (fun hf => ?_) (fun hf => ?_)
      · refine at_iconst hO dX9_isKept_87 88 rfl ?_
        refine at_istore_n hO (lv' := [(3, vi 0), (0, vr G 58), (1, vi v1), (2, vi v2), (4, vi v4)]) rfl (Nat.le_of_ble_eq_true rfl) rfl dX9_isKept_88 89 rfl ?_
        refine at_iinc hO (lv' := [(4, vi (v4 + 1)), (3, vi 0), (0, vr G 58), (1, vi v1), (2, vi v2)]) 4 rfl (Nat.le_of_ble_eq_true rfl) rfl dX9_isKept_89 92 rfl ?_
        refine at_goto hO dX9_isKept_92 5 rfl ?_
        exact at_sub (fun ls h => lv_sub h [2, 3, 4, 1, 0] rfl) (hrec5 s11 v1 v2 0 (v4 + 1) hf)
      · refine at_iload_n hO 1 rfl rfl dX9_isKept_48 49 rfl ?_
        obtain ⟨h13, hf⟩ := chk_some hf
        refine at_i2l hO h13 dX9_isKept_49 50 rfl ?_
        refine at_aload_n hO 0 rfl rfl dX9_isKept_50 51 rfl ?_
        refine at_getR hO fl_X9_34 rfl rfl dX9_isKept_51 54 rfl ?_
        refine at_iconst hO dX9_isKept_54 55 rfl ?_
        refine at_iload hO 4 rfl dX9_isKept_55 57 rfl ?_
        refine at_imul hO dX9_isKept_57 58 rfl ?_
        refine at_iconst hO dX9_isKept_58 59 rfl ?_
        refine at_iadd hO dX9_isKept_59 60 rfl ?_
        obtain ⟨h14, hf⟩ := chk_some hf
        refine at_iaload hO rfl (Nat.le_of_ble_eq_true rfl) h14 (((3 * v4) + 2).toNat) rfl dX9_isKept_60 61 rfl ?_
        obtain ⟨h15, hf⟩ := chk_some hf
        refine at_i2l hO h15 dX9_isKept_61 62 rfl ?_
        refine at_aload_n hO 0 rfl rfl dX9_isKept_62 63 rfl ?_
        refine at_getR hO fl_X9_34 rfl rfl dX9_isKept_63 66 rfl ?_
        refine at_iconst hO dX9_isKept_66 67 rfl ?_
        refine at_iload hO 4 rfl dX9_isKept_67 69 rfl ?_
        refine at_imul hO dX9_isKept_69 70 rfl ?_
        refine at_iconst hO dX9_isKept_70 71 rfl ?_
        refine at_iadd hO dX9_isKept_71 72 rfl ?_
        refine at_iaload hO rfl (Nat.le_of_ble_eq_true rfl) h14 (((3 * v4) + 2).toNat) rfl dX9_isKept_72 73 rfl ?_
        refine at_bipush hO (by decide) dX9_isKept_73 75 rfl ?_
        refine at_iadd hO dX9_isKept_75 76 rfl ?_
        obtain ⟨h16, hf⟩ := chk_some hf
        refine at_i2l hO h16 dX9_isKept_76 77 rfl ?_
        refine at_callS1 (As := [vl v1, vl (s11 67 ((3 * v4) + 2).toNat), vl ((s11 67 ((3 * v4) + 2).toNat) + 6)]) (st := []) hO (c_X9_in _ G hO.g s11 v1 (s11 67 ((3 * v4) + 2).toNat) ((s11 67 ((3 * v4) + 2).toNat) + 6)) mb_X9_in ms_X9_in lk_X9_49 rfl ⟨(Nat.le_of_ble_eq_true rfl), (Nat.le_of_ble_eq_true rfl)⟩ (Nat.le_of_ble_eq_true rfl) rfl dX9_isKept_77 80 rfl hf (fun r17 s18 hf => ?_)
        obtain ⟨h19, hf⟩ := chk_some hf
        refine at_if_eq hO h19 dX9_isKept_80 87 rfl 83 rfl hf (fun hf => ?_) (fun hf => ?_)
        · refine at_iconst hO dX9_isKept_87 88 rfl ?_
          refine at_istore_n hO (lv' := [(3, vi 0), (0, vr G 58), (1, vi v1), (2, vi v2), (4, vi v4)]) rfl (Nat.le_of_ble_eq_true rfl) rfl dX9_isKept_88 89 rfl ?_
          refine at_iinc hO (lv' := [(4, vi (v4 + 1)), (3, vi 0), (0, vr G 58), (1, vi v1), (2, vi v2)]) 4 rfl (Nat.le_of_ble_eq_true rfl) rfl dX9_isKept_89 92 rfl ?_
          refine at_goto hO dX9_isKept_92 5 rfl ?_
          exact at_sub (fun ls h => lv_sub h [2, 3, 4, 1, 0] rfl) (hrec5 s18 v1 v2 0 (v4 + 1) hf)
        · refine at_iconst hO dX9_isKept_83 84 rfl ?_
          refine at_goto hO dX9_isKept_84 88 rfl ?_
          refine at_istore_n hO (lv' := [(3, vi 1), (0, vr G 58), (1, vi v1), (2, vi v2), (4, vi v4)]) rfl (Nat.le_of_ble_eq_true rfl) rfl dX9_isKept_88 89 rfl ?_
          refine at_iinc hO (lv' := [(4, vi (v4 + 1)), (3, vi 1), (0, vr G 58), (1, vi v1), (2, vi v2)]) 4 rfl (Nat.le_of_ble_eq_true rfl) rfl dX9_isKept_89 92 rfl ?_
          refine at_goto hO dX9_isKept_92 5 rfl ?_
          exact at_sub (fun ls h => lv_sub h [2, 3, 4, 1, 0] rfl) (hrec5 s18 v1 v2 1 (v4 + 1) hf)
theorem wL_X9_isKept_5 {X : CX} {G : Ge} {Z : Rt} (hO : rr_OK X G cX9_isKept 5 RX9 (some .boolean) 1 25) : ∀ (n : Nat) (s : St) (v1 v2 v3 v4 : Int), L_X9_isKept_5 n s v1 v2 v3 v4 = some Z → rr_AT X G 5 1 Z 5 [(0, vr G 58), (1, vi v1), (2, vi v2), (3, vi v3), (4, vi v4)] [] s := by
  intro n
  induction n with
  | zero =>
    intro s v1 v2 v3 v4 hf
    cases hf
  | succ n ih =>
    intro s v1 v2 v3 v4 hf
    exact wS_X9_isKept_5 hO ih s v1 v2 v3 v4 hf
def f_X9_isKept (s : St) (p1 p2 : Int) : Option Rt := L_X9_isKept_5 FU s p1 p2 0 0
set_option maxRecDepth 100000 in
set_option maxHeartbeats 4000000 in
theorem c_X9_isKept (l : Launch) (G : Ge) (hG : rr_GD G) (s : St) (p1 p2 : Int) : rr_Ct l G yX9_isKept cX9_isKept 5 (some .boolean) 1 25 1 [vr G 58, vi p1, vi p2] s (f_X9_isKept s p1 p2) := by
  refine rr_mk (lv := [(0, vr G 58), (1, vi p1), (2, vi p2)]) RX9 (by decide) rfl hG (Nat.le_of_ble_eq_true rfl) rfl ?_
  intro X Z hO hf
  unfold f_X9_isKept at hf
  refine at_iconst hO dX9_isKept_0 1 rfl ?_
  refine at_istore_n hO (lv' := [(3, vi 0), (0, vr G 58), (1, vi p1), (2, vi p2)]) rfl (Nat.le_of_ble_eq_true rfl) rfl dX9_isKept_1 2 rfl ?_
  refine at_iconst hO dX9_isKept_2 3 rfl ?_
  refine at_istore hO (lv' := [(4, vi 0), (3, vi 0), (0, vr G 58), (1, vi p1), (2, vi p2)]) (Nat.le_of_ble_eq_true rfl) rfl dX9_isKept_3 5 rfl ?_
  exact at_sub (fun ls h => lv_sub h [2, 3, 4, 1, 0] rfl) (wL_X9_isKept_5 hO FU s p1 p2 0 0 hf)

def S_X9_possessionOf_2 (rec2 : St → Int → Int → Option Rt) (s : St) (v1 v2 : Int) : Option Rt := chk (in32 v2) (chk (in32 (s 65 1)) ((if (s 65 1) < v2 then some ((-1), s) else cll (f_X9_levelOf s v1 v2) (fun r3 s4 => chk (in32 r3) (chk (in32 (s4 65 0)) ((if r3 < (s4 65 0) then rec2 s4 v1 (v2 + 1) else some (v2, s4))))))))
def L_X9_possessionOf_2 : Nat → St → Int → Int → Option Rt
  | 0, _, _, _ => none
  | n + 1, s, v1, v2 => S_X9_possessionOf_2 (L_X9_possessionOf_2 n) s v1 v2
set_option maxRecDepth 100000 in
set_option maxHeartbeats 4000000 in
theorem wS_X9_possessionOf_2 {X : CX} {G : Ge} {Z : Rt} {rec2 : St → Int → Int → Option Rt} (hO : rr_OK X G cX9_possessionOf 3 RX9 (some .int) 4 90) (hrec2 : ∀ (s : St) (v1 v2 : Int), rec2 s v1 v2 = some Z → rr_AT X G 3 1 Z 2 [(0, vr G 58), (1, vi v1), (2, vi v2)] [] s) (s : St) (v1 v2 : Int) (hf : S_X9_possessionOf_2 rec2 s v1 v2 = some Z) : rr_AT X G 3 1 Z 2 [(0, vr G 58), (1, vi v1), (2, vi v2)] [] s := by
  unfold S_X9_possessionOf_2 at hf
  refine at_iload_n hO 2 rfl rfl dX9_possessionOf_2 3 rfl ?_
  refine at_aload_n hO 0 rfl rfl dX9_possessionOf_3 4 rfl ?_
  refine at_getR hO fl_X9_28 rfl rfl dX9_possessionOf_4 7 rfl ?_
  refine at_iconst hO dX9_possessionOf_7 8 rfl ?_
  refine at_iaload hO rfl (Nat.le_of_ble_eq_true rfl) (by decide) (1) rfl dX9_possessionOf_8 9 rfl ?_
  obtain ⟨h1, hf⟩ := chk_some hf
  obtain ⟨h2, hf⟩ := chk_some hf
  refine at_icmp_gt hO h1 h2 dX9_possessionOf_9 35 rfl 12 rfl hf (fun hf => ?_) (fun hf => ?_)
  · refine at_iconst hO dX9_possessionOf_35 36 rfl ?_
    exact at_ireturn hO dX9_possessionOf_36 hf
  · refine at_aload_n hO 0 rfl rfl dX9_possessionOf_12 13 rfl ?_
    refine at_iload_n hO 1 rfl rfl dX9_possessionOf_13 14 rfl ?_
    refine at_iload_n hO 2 rfl rfl dX9_possessionOf_14 15 rfl ?_
    refine at_callV1 (As := [vi v1, vi v2]) (st := []) hO (c_X9_levelOf _ G hO.g s v1 v2) mb_X9_levelOf mi_X9_levelOf lk_X9_111 rfl ⟨_, rfl, rfl⟩ rfl ⟨(Nat.le_of_ble_eq_true rfl), (Nat.le_of_ble_eq_true rfl)⟩ (Nat.le_of_ble_eq_true rfl) rfl dX9_possessionOf_15 18 rfl hf (fun r3 s4 hf => ?_)
    refine at_aload_n hO 0 rfl rfl dX9_possessionOf_18 19 rfl ?_
    refine at_getR hO fl_X9_28 rfl rfl dX9_possessionOf_19 22 rfl ?_
    refine at_iconst hO dX9_possessionOf_22 23 rfl ?_
    refine at_iaload hO rfl (Nat.le_of_ble_eq_true rfl) (by decide) (0) rfl dX9_possessionOf_23 24 rfl ?_
    obtain ⟨h5, hf⟩ := chk_some hf
    obtain ⟨h6, hf⟩ := chk_some hf
    refine at_icmp_lt hO h5 h6 dX9_possessionOf_24 29 rfl 27 rfl hf (fun hf => ?_) (fun hf => ?_)
    · refine at_iinc hO (lv' := [(2, vi (v2 + 1)), (0, vr G 58), (1, vi v1)]) 2 rfl (Nat.le_of_ble_eq_true rfl) rfl dX9_possessionOf_29 32 rfl ?_
      refine at_goto hO dX9_possessionOf_32 2 rfl ?_
      exact at_sub (fun ls h => lv_sub h [1, 2, 0] rfl) (hrec2 s4 v1 (v2 + 1) hf)
    · refine at_iload_n hO 2 rfl rfl dX9_possessionOf_27 28 rfl ?_
      exact at_ireturn hO dX9_possessionOf_28 hf
theorem wL_X9_possessionOf_2 {X : CX} {G : Ge} {Z : Rt} (hO : rr_OK X G cX9_possessionOf 3 RX9 (some .int) 4 90) : ∀ (n : Nat) (s : St) (v1 v2 : Int), L_X9_possessionOf_2 n s v1 v2 = some Z → rr_AT X G 3 1 Z 2 [(0, vr G 58), (1, vi v1), (2, vi v2)] [] s := by
  intro n
  induction n with
  | zero =>
    intro s v1 v2 hf
    cases hf
  | succ n ih =>
    intro s v1 v2 hf
    exact wS_X9_possessionOf_2 hO ih s v1 v2 hf
def f_X9_possessionOf (s : St) (p1 : Int) : Option Rt := L_X9_possessionOf_2 FU s p1 0
set_option maxRecDepth 100000 in
set_option maxHeartbeats 4000000 in
theorem c_X9_possessionOf (l : Launch) (G : Ge) (hG : rr_GD G) (s : St) (p1 : Int) : rr_Ct l G yX9_possessionOf cX9_possessionOf 3 (some .int) 4 90 1 [vr G 58, vi p1] s (f_X9_possessionOf s p1) := by
  refine rr_mk (lv := [(0, vr G 58), (1, vi p1)]) RX9 (by decide) rfl hG (Nat.le_of_ble_eq_true rfl) rfl ?_
  intro X Z hO hf
  unfold f_X9_possessionOf at hf
  refine at_iconst hO dX9_possessionOf_0 1 rfl ?_
  refine at_istore_n hO (lv' := [(2, vi 0), (0, vr G 58), (1, vi p1)]) rfl (Nat.le_of_ble_eq_true rfl) rfl dX9_possessionOf_1 2 rfl ?_
  exact at_sub (fun ls h => lv_sub h [1, 2, 0] rfl) (wL_X9_possessionOf_2 hO FU s p1 0 hf)

def f_X9_possession (s : St) (p1 : Int) : Option Rt := cll (f_X9_isSpring s p1) (fun r1 s2 => chk (in32 r1) ((if r1 = 0 then some ((-2), s2) else cll (f_X9_possessionOf s2 p1) (fun r4 s5 => some (r4, s5)))))
set_option maxRecDepth 100000 in
set_option maxHeartbeats 4000000 in
theorem c_X9_possession (l : Launch) (G : Ge) (hG : rr_GD G) (s : St) (p1 : Int) : rr_Ct l G yX9_possession cX9_possession 2 (some .int) 5 112 1 [vr G 58, vi p1] s (f_X9_possession s p1) := by
  refine rr_mk (lv := [(0, vr G 58), (1, vi p1)]) RX9 (by decide) rfl hG (Nat.le_of_ble_eq_true rfl) rfl ?_
  intro X Z hO hf
  unfold f_X9_possession at hf
  refine at_iload_n hO 1 rfl rfl dX9_possession_0 1 rfl ?_
  refine at_callS1 (As := [vi p1]) (st := []) hO (c_X9_isSpring _ G hO.g s p1) mb_X9_isSpring ms_X9_isSpring lk_X9_105 rfl ⟨(Nat.le_of_ble_eq_true rfl), (Nat.le_of_ble_eq_true rfl)⟩ (Nat.le_of_ble_eq_true rfl) rfl dX9_possession_1 4 rfl hf (fun r1 s2 hf => ?_)
  obtain ⟨h3, hf⟩ := chk_some hf
  refine at_if_eq hO h3 dX9_possession_4 15 rfl 7 rfl hf (fun hf => ?_) (fun hf => ?_)
  · refine at_bipush hO (by decide) dX9_possession_15 17 rfl ?_
    exact at_ireturn hO dX9_possession_17 hf
  · refine at_aload_n hO 0 rfl rfl dX9_possession_7 8 rfl ?_
    refine at_iload_n hO 1 rfl rfl dX9_possession_8 9 rfl ?_
    refine at_callV1 (As := [vi p1]) (st := []) hO (c_X9_possessionOf _ G hO.g s2 p1) mb_X9_possessionOf mi_X9_possessionOf lk_X9_128 rfl ⟨_, rfl, rfl⟩ rfl ⟨(Nat.le_of_ble_eq_true rfl), (Nat.le_of_ble_eq_true rfl)⟩ (Nat.le_of_ble_eq_true rfl) rfl dX9_possession_9 12 rfl hf (fun r4 s5 hf => ?_)
    refine at_goto hO dX9_possession_12 17 rfl ?_
    exact at_ireturn hO dX9_possession_17 hf
