def f_X5_figure (q0 : Nat) (s : St) (p1 : Int) : Option Rt := cll (f_X8_inside s p1 (s (2 + q0) 1)) (fun r1 s2 => chk (in32 r1) ((if r1 = 0 then some (0, s2) else cll (f_X8_inside s2 p1 ((rr_tl q0) : Int)) (fun r4 s5 => chk (in32 r4) ((if r4 = 0 then some (0, s5) else chk (ix p1 (rr_tl q0)) (some (((s5 (6 + q0) p1.toNat) - 48), s5))))))))
set_option maxRecDepth 100000 in
set_option maxHeartbeats 4000000 in
theorem c_X5_figure (l : Launch) (G : Ge) (hG : rr_GD G) (q0 : Nat) (hq0 : q0 < 4) (s : St) (p1 : Int) : rr_Ct l G yX5_figure cX5_figure 2 (some .int) 1 21 1 [vr G (2 + q0), vi p1] s (f_X5_figure q0 s p1) := by
  refine rr_mk (lv := [(0, vr G (2 + q0)), (1, vi p1)]) RX5 (by decide) rfl hG (Nat.le_of_ble_eq_true rfl) rfl ?_
  intro X Z hO hf
  unfold f_X5_figure at hf
  refine at_iload_n hO 1 rfl rfl dX5_figure_0 1 rfl ?_
  refine at_aload_n hO 0 rfl rfl dX5_figure_1 2 rfl ?_
  refine at_getI hO fl_X5_9 (tb_text hq0) rfl dX5_figure_2 5 rfl ?_
  refine at_callSN1 (As := [vi p1, vi (s (2 + q0) 1)]) (st := []) hO (c_X8_inside _ G hO.g s p1 (s (2 + q0) 1)) mb_X8_inside ms_X8_inside lk_X5_25 rfl ⟨(Nat.le_of_ble_eq_true rfl), (Nat.le_of_ble_eq_true rfl)⟩ (Nat.le_of_ble_eq_true rfl) rfl dX5_figure_5 8 rfl hf (fun r1 s2 hf => ?_)
  obtain ⟨h3, hf⟩ := chk_some hf
  refine at_if_eq hO h3 dX5_figure_8 35 rfl 11 rfl hf (fun hf => ?_) (fun hf => ?_)
  · refine at_iconst hO dX5_figure_35 36 rfl ?_
    exact at_ireturn hO dX5_figure_36 hf
  · refine at_iload_n hO 1 rfl rfl dX5_figure_11 12 rfl ?_
    refine at_aload_n hO 0 rfl rfl dX5_figure_12 13 rfl ?_
    refine at_getR hO fl_X5_21 (tb_text hq0) rfl dX5_figure_13 16 rfl ?_
    refine at_alen hO (tb_bytes hq0) dX5_figure_16 17 rfl ?_
    refine at_callSN1 (As := [vi p1, vi ((rr_tl q0) : Int)]) (st := []) hO (c_X8_inside _ G hO.g s2 p1 ((rr_tl q0) : Int)) mb_X8_inside ms_X8_inside lk_X5_25 rfl ⟨(Nat.le_of_ble_eq_true rfl), (Nat.le_of_ble_eq_true rfl)⟩ (Nat.le_of_ble_eq_true rfl) rfl dX5_figure_17 20 rfl hf (fun r4 s5 hf => ?_)
    obtain ⟨h6, hf⟩ := chk_some hf
    refine at_if_eq hO h6 dX5_figure_20 35 rfl 23 rfl hf (fun hf => ?_) (fun hf => ?_)
    · refine at_iconst hO dX5_figure_35 36 rfl ?_
      exact at_ireturn hO dX5_figure_36 hf
    · refine at_aload_n hO 0 rfl rfl dX5_figure_23 24 rfl ?_
      refine at_getR hO fl_X5_21 (tb_text hq0) rfl dX5_figure_24 27 rfl ?_
      refine at_iload_n hO 1 rfl rfl dX5_figure_27 28 rfl ?_
      obtain ⟨h7, hf⟩ := chk_some hf
      refine at_iaload hO (tb_bytes hq0) (rr_tl_le _) h7 (p1.toNat) rfl dX5_figure_28 29 rfl ?_
      refine at_bipush hO (by decide) dX5_figure_29 31 rfl ?_
      refine at_isub hO dX5_figure_31 32 rfl ?_
      refine at_goto hO dX5_figure_32 36 rfl ?_
      exact at_ireturn hO dX5_figure_36 hf

def f_X6_change (s : St) : Option Rt := some (0, (su s 16 8 1))
set_option maxRecDepth 100000 in
set_option maxHeartbeats 4000000 in
theorem c_X6_change (l : Launch) (G : Ge) (hG : rr_GD G) (s : St) : rr_Ct l G yX6_change cX6_change 1 none 0 0 0 [vr G 16] s (f_X6_change s ) := by
  refine rr_mk (lv := [(0, vr G 16)]) RX6 (by decide) rfl hG (Nat.le_of_ble_eq_true rfl) rfl ?_
  intro X Z hO hf
  unfold f_X6_change at hf
  refine at_aload_n hO 0 rfl rfl dX6_change_0 1 rfl ?_
  refine at_iconst hO dX6_change_1 2 rfl ?_
  refine at_putZ hO (Or.inr rfl) fp_X6_29 rfl rfl dX6_change_2 5 rfl ?_
  exact at_return hO dX6_change_5 hf

def S_X6_fillLowYards_23 (rec12 : St → Int → Int → Option Rt) (rec23 : St → Int → Int → Int → Int → Option Rt) (s : St) (v1 v2 v3 v4 : Int) : Option Rt := chk (in32 v4) (chk (in32 v1) ((if v1 ≤ v4 then chk (ix v2 10) (rec12 (su s 26 v2.toNat v3) v1 (v2 + 1)) else cll (f_X5_figure 3 s v4) (fun r4 s5 => chk (in32 v2) (chk (in32 r4) ((if v2 ≤ r4 then rec23 s5 v1 v2 v3 (v4 + 1) else rec23 s5 v1 v2 (orZ v3 (shlZ 1 v4)) (v4 + 1))))))))
def L_X6_fillLowYards_23 (rec12 : St → Int → Int → Option Rt) : Nat → St → Int → Int → Int → Int → Option Rt
  | 0, _, _, _, _, _ => none
  | n + 1, s, v1, v2, v3, v4 => S_X6_fillLowYards_23 rec12 (L_X6_fillLowYards_23 rec12 n) s v1 v2 v3 v4
set_option maxRecDepth 100000 in
set_option maxHeartbeats 4000000 in
theorem wS_X6_fillLowYards_23 {X : CX} {G : Ge} {Z : Rt} {rec12 : St → Int → Int → Option Rt} {rec23 : St → Int → Int → Int → Int → Option Rt} (hO : rr_OK X G cX6_fillLowYards 5 RX6 none 2 42) (hrec12 : ∀ (s : St) (v1 v2 : Int), rec12 s v1 v2 = some Z → rr_AT X G 5 0 Z 12 [(0, vr G 16), (1, vi v1), (2, vi v2)] [] s) (hrec23 : ∀ (s : St) (v1 v2 v3 v4 : Int), rec23 s v1 v2 v3 v4 = some Z → rr_AT X G 5 0 Z 23 [(0, vr G 16), (1, vi v1), (2, vi v2), (3, vi v3), (4, vi v4)] [] s) (s : St) (v1 v2 v3 v4 : Int) (hf : S_X6_fillLowYards_23 rec12 rec23 s v1 v2 v3 v4 = some Z) : rr_AT X G 5 0 Z 23 [(0, vr G 16), (1, vi v1), (2, vi v2), (3, vi v3), (4, vi v4)] [] s := by
  unfold S_X6_fillLowYards_23 at hf
  refine at_iload hO 4 rfl dX6_fillLowYards_23 25 rfl ?_
  refine at_iload_n hO 1 rfl rfl dX6_fillLowYards_25 26 rfl ?_
  obtain ⟨h1, hf⟩ := chk_some hf
  obtain ⟨h2, hf⟩ := chk_some hf
  refine at_icmp_ge hO h1 h2 dX6_fillLowYards_26 57 rfl 29 rfl hf (fun hf => ?_) (fun hf => ?_)
  · refine at_aload_n hO 0 rfl rfl dX6_fillLowYards_57 58 rfl ?_
    refine at_getR hO fl_X6_23 rfl rfl dX6_fillLowYards_58 61 rfl ?_
    refine at_iload_n hO 2 rfl rfl dX6_fillLowYards_61 62 rfl ?_
    refine at_iload_n hO 3 rfl rfl dX6_fillLowYards_62 63 rfl ?_
    obtain ⟨h3, hf⟩ := chk_some hf
    refine at_iastore hO rfl (Nat.le_of_ble_eq_true rfl) h3 (v2.toNat) rfl dX6_fillLowYards_63 64 rfl ?_
    refine at_iinc hO (lv' := [(2, vi (v2 + 1)), (0, vr G 16), (1, vi v1), (3, vi v3), (4, vi v4)]) 2 rfl (Nat.le_of_ble_eq_true rfl) rfl dX6_fillLowYards_64 67 rfl ?_
    refine at_goto hO dX6_fillLowYards_67 12 rfl ?_
    exact at_sub (fun ls h => lv_sub h [1, 2, 0] rfl) (hrec12 (su s 26 v2.toNat v3) v1 (v2 + 1) hf)
  · refine at_iload_n hO 2 rfl rfl dX6_fillLowYards_29 30 rfl ?_
    refine at_aload_n hO 0 rfl rfl dX6_fillLowYards_30 31 rfl ?_
    refine at_getR hO fl_X6_33 rfl rfl dX6_fillLowYards_31 34 rfl ?_
    refine at_iconst hO dX6_fillLowYards_34 35 rfl ?_
    refine at_aaload3 hO rfl (Nat.le_of_ble_eq_true rfl) (by decide) 5 rfl dX6_fillLowYards_35 36 rfl ?_
    refine at_iload hO 4 rfl dX6_fillLowYards_36 38 rfl ?_
    refine at_callV1 (As := [vi v4]) (st := [vi v2]) hO (c_X5_figure _ G hO.g 3 (by decide) s v4) mb_X5_figure mi_X5_figure lk_X6_79 rfl ⟨_, rfl, rfl⟩ rfl ⟨(Nat.le_of_ble_eq_true rfl), (Nat.le_of_ble_eq_true rfl)⟩ (Nat.le_of_ble_eq_true rfl) rfl dX6_fillLowYards_38 41 rfl hf (fun r4 s5 hf => ?_)
    obtain ⟨h6, hf⟩ := chk_some hf
    obtain ⟨h7, hf⟩ := chk_some hf
    refine at_icmp_le hO h6 h7 dX6_fillLowYards_41 51 rfl 44 rfl hf (fun hf => ?_) (fun hf => ?_)
    · refine at_iinc hO (lv' := [(4, vi (v4 + 1)), (0, vr G 16), (1, vi v1), (2, vi v2), (3, vi v3)]) 4 rfl (Nat.le_of_ble_eq_true rfl) rfl dX6_fillLowYards_51 54 rfl ?_
      refine at_goto hO dX6_fillLowYards_54 23 rfl ?_
      exact at_sub (fun ls h => lv_sub h [1, 2, 3, 4, 0] rfl) (hrec23 s5 v1 v2 v3 (v4 + 1) hf)
    · refine at_iload_n hO 3 rfl rfl dX6_fillLowYards_44 45 rfl ?_
      refine at_iconst hO dX6_fillLowYards_45 46 rfl ?_
      refine at_iload hO 4 rfl dX6_fillLowYards_46 48 rfl ?_
      refine at_ishl hO dX6_fillLowYards_48 49 rfl ?_
      refine at_ior hO dX6_fillLowYards_49 50 rfl ?_
      refine at_istore_n hO (lv' := [(3, vi (orZ v3 (shlZ 1 v4))), (0, vr G 16), (1, vi v1), (2, vi v2), (4, vi v4)]) rfl (Nat.le_of_ble_eq_true rfl) rfl dX6_fillLowYards_50 51 rfl ?_
      refine at_iinc hO (lv' := [(4, vi (v4 + 1)), (3, vi (orZ v3 (shlZ 1 v4))), (0, vr G 16), (1, vi v1), (2, vi v2)]) 4 rfl (Nat.le_of_ble_eq_true rfl) rfl dX6_fillLowYards_51 54 rfl ?_
      refine at_goto hO dX6_fillLowYards_54 23 rfl ?_
      exact at_sub (fun ls h => lv_sub h [2, 3, 4, 1, 0] rfl) (hrec23 s5 v1 v2 (orZ v3 (shlZ 1 v4)) (v4 + 1) hf)
theorem wL_X6_fillLowYards_23 {X : CX} {G : Ge} {Z : Rt} {rec12 : St → Int → Int → Option Rt} (hO : rr_OK X G cX6_fillLowYards 5 RX6 none 2 42) (hrec12 : ∀ (s : St) (v1 v2 : Int), rec12 s v1 v2 = some Z → rr_AT X G 5 0 Z 12 [(0, vr G 16), (1, vi v1), (2, vi v2)] [] s) : ∀ (n : Nat) (s : St) (v1 v2 v3 v4 : Int), L_X6_fillLowYards_23 rec12 n s v1 v2 v3 v4 = some Z → rr_AT X G 5 0 Z 23 [(0, vr G 16), (1, vi v1), (2, vi v2), (3, vi v3), (4, vi v4)] [] s := by
  intro n
  induction n with
  | zero =>
    intro s v1 v2 v3 v4 hf
    cases hf
  | succ n ih =>
    intro s v1 v2 v3 v4 hf
    exact wS_X6_fillLowYards_23 hO hrec12 ih s v1 v2 v3 v4 hf
def S_X6_fillLowYards_12 (rec12 : St → Int → Int → Option Rt) (s : St) (v1 v2 : Int) : Option Rt := chk (in32 v2) ((if 10 ≤ v2 then some (0, s) else L_X6_fillLowYards_23 rec12 FU s v1 v2 0 0))
def L_X6_fillLowYards_12 : Nat → St → Int → Int → Option Rt
  | 0, _, _, _ => none
  | n + 1, s, v1, v2 => S_X6_fillLowYards_12 (L_X6_fillLowYards_12 n) s v1 v2
set_option maxRecDepth 100000 in
set_option maxHeartbeats 4000000 in
theorem wS_X6_fillLowYards_12 {X : CX} {G : Ge} {Z : Rt} {rec12 : St → Int → Int → Option Rt} (hO : rr_OK X G cX6_fillLowYards 5 RX6 none 2 42) (hrec12 : ∀ (s : St) (v1 v2 : Int), rec12 s v1 v2 = some Z → rr_AT X G 5 0 Z 12 [(0, vr G 16), (1, vi v1), (2, vi v2)] [] s) (s : St) (v1 v2 : Int) (hf : S_X6_fillLowYards_12 rec12 s v1 v2 = some Z) : rr_AT X G 5 0 Z 12 [(0, vr G 16), (1, vi v1), (2, vi v2)] [] s := by
  unfold S_X6_fillLowYards_12 at hf
  refine at_iload_n hO 2 rfl rfl dX6_fillLowYards_12 13 rfl ?_
  refine at_bipush hO (by decide) dX6_fillLowYards_13 15 rfl ?_
  obtain ⟨h1, hf⟩ := chk_some hf
  refine at_icmp_ge hO h1 (by decide) dX6_fillLowYards_15 70 rfl 18 rfl hf (fun hf => ?_) (fun hf => ?_)
  · exact at_return hO dX6_fillLowYards_70 hf
  · refine at_iconst hO dX6_fillLowYards_18 19 rfl ?_
    refine at_istore_n hO (lv' := [(3, vi 0), (0, vr G 16), (1, vi v1), (2, vi v2)]) rfl (Nat.le_of_ble_eq_true rfl) rfl dX6_fillLowYards_19 20 rfl ?_
    refine at_iconst hO dX6_fillLowYards_20 21 rfl ?_
    refine at_istore hO (lv' := [(4, vi 0), (3, vi 0), (0, vr G 16), (1, vi v1), (2, vi v2)]) (Nat.le_of_ble_eq_true rfl) rfl dX6_fillLowYards_21 23 rfl ?_
    exact at_sub (fun ls h => lv_sub h [2, 3, 4, 1, 0] rfl) (wL_X6_fillLowYards_23 hO hrec12 FU s v1 v2 0 0 hf)
theorem wL_X6_fillLowYards_12 {X : CX} {G : Ge} {Z : Rt} (hO : rr_OK X G cX6_fillLowYards 5 RX6 none 2 42) : ∀ (n : Nat) (s : St) (v1 v2 : Int), L_X6_fillLowYards_12 n s v1 v2 = some Z → rr_AT X G 5 0 Z 12 [(0, vr G 16), (1, vi v1), (2, vi v2)] [] s := by
  intro n
  induction n with
  | zero =>
    intro s v1 v2 hf
    cases hf
  | succ n ih =>
    intro s v1 v2 hf
    exact wS_X6_fillLowYards_12 hO ih s v1 v2 hf
def f_X6_fillLowYards (s : St) : Option Rt := cll (f_X5_told 3 s) (fun r1 s2 => L_X6_fillLowYards_12 FU s2 r1 0)
set_option maxRecDepth 100000 in
set_option maxHeartbeats 4000000 in
theorem c_X6_fillLowYards (l : Launch) (G : Ge) (hG : rr_GD G) (s : St) : rr_Ct l G yX6_fillLowYards cX6_fillLowYards 5 none 2 42 0 [vr G 16] s (f_X6_fillLowYards s ) := by
  refine rr_mk (lv := [(0, vr G 16)]) RX6 (by decide) rfl hG (Nat.le_of_ble_eq_true rfl) rfl ?_
  intro X Z hO hf
  unfold f_X6_fillLowYards at hf
  refine at_aload_n hO 0 rfl rfl dX6_fillLowYards_0 1 rfl ?_
  refine at_getR hO fl_X6_33 rfl rfl dX6_fillLowYards_1 4 rfl ?_
  refine at_iconst hO dX6_fillLowYards_4 5 rfl ?_
  refine at_aaload3 hO rfl (Nat.le_of_ble_eq_true rfl) (by decide) 5 rfl dX6_fillLowYards_5 6 rfl ?_
  refine at_callV1 (As := []) (st := []) hO (c_X5_told _ G hO.g 3 (by decide) s ) mb_X5_told mi_X5_told lk_X6_73 rfl ⟨_, rfl, rfl⟩ rfl ⟨(Nat.le_of_ble_eq_true rfl), (Nat.le_of_ble_eq_true rfl)⟩ (Nat.le_of_ble_eq_true rfl) rfl dX6_fillLowYards_6 9 rfl hf (fun r1 s2 hf => ?_)
  refine at_istore_n hO (lv' := [(1, vi r1), (0, vr G 16)]) rfl (Nat.le_of_ble_eq_true rfl) rfl dX6_fillLowYards_9 10 rfl ?_
  refine at_iconst hO dX6_fillLowYards_10 11 rfl ?_
  refine at_istore_n hO (lv' := [(2, vi 0), (1, vi r1), (0, vr G 16)]) rfl (Nat.le_of_ble_eq_true rfl) rfl dX6_fillLowYards_11 12 rfl ?_
  exact at_sub (fun ls h => lv_sub h [2, 1, 0] rfl) (wL_X6_fillLowYards_12 hO FU s2 r1 0 hf)

def S_X6_fillLevels_12 (rec12 : St → Int → Int → Int → Option Rt) (s : St) (v1 v2 v3 : Int) : Option Rt := chk (in32 v3) ((if 30 ≤ v3 then some (0, s) else chk (ix v1 3) (chk (in32 v2) ((if v2 ≤ v3 then chk (ix v3 30) (rec12 (su s (18 + v1.toNat) v3.toNat 0) v1 v2 (v3 + 1)) else chk (ix v1 4) (cll (f_X5_figure v1.toNat s v3) (fun r6 s7 => chk (ix v3 30) (rec12 (su s7 (18 + v1.toNat) v3.toNat r6) v1 v2 (v3 + 1)))))))))
def L_X6_fillLevels_12 : Nat → St → Int → Int → Int → Option Rt
  | 0, _, _, _, _ => none
  | n + 1, s, v1, v2, v3 => S_X6_fillLevels_12 (L_X6_fillLevels_12 n) s v1 v2 v3
set_option maxRecDepth 100000 in
set_option maxHeartbeats 4000000 in
theorem wS_X6_fillLevels_12 {X : CX} {G : Ge} {Z : Rt} {rec12 : St → Int → Int → Int → Option Rt} (hO : rr_OK X G cX6_fillLevels 4 RX6 none 2 42) (hrec12 : ∀ (s : St) (v1 v2 v3 : Int), rec12 s v1 v2 v3 = some Z → rr_AT X G 4 0 Z 12 [(0, vr G 16), (1, vi v1), (2, vi v2), (3, vi v3)] [] s) (s : St) (v1 v2 v3 : Int) (hf : S_X6_fillLevels_12 rec12 s v1 v2 v3 = some Z) : rr_AT X G 4 0 Z 12 [(0, vr G 16), (1, vi v1), (2, vi v2), (3, vi v3)] [] s := by
  unfold S_X6_fillLevels_12 at hf
  refine at_iload_n hO 3 rfl rfl dX6_fillLevels_12 13 rfl ?_
  refine at_bipush hO (by decide) dX6_fillLevels_13 15 rfl ?_
  obtain ⟨h1, hf⟩ := chk_some hf
  refine at_icmp_ge hO h1 (by decide) dX6_fillLevels_15 51 rfl 18 rfl hf (fun hf => ?_) (fun hf => ?_)
  · exact at_return hO dX6_fillLevels_51 hf
  · refine at_aload_n hO 0 rfl rfl dX6_fillLevels_18 19 rfl ?_
    refine at_getR hO fl_X6_11 rfl rfl dX6_fillLevels_19 22 rfl ?_
    refine at_iload_n hO 1 rfl rfl dX6_fillLevels_22 23 rfl ?_
    obtain ⟨h2, hf⟩ := chk_some hf
    refine at_aaload5 hO rfl (Nat.le_of_ble_eq_true rfl) h2 (18 + v1.toNat) rfl dX6_fillLevels_23 24 rfl ?_
    refine at_iload_n hO 3 rfl rfl dX6_fillLevels_24 25 rfl ?_
    refine at_iload_n hO 3 rfl rfl dX6_fillLevels_25 26 rfl ?_
    refine at_iload_n hO 2 rfl rfl dX6_fillLevels_26 27 rfl ?_
    obtain ⟨h3, hf⟩ := chk_some hf
    refine at_icmp_ge hO h1 h3 dX6_fillLevels_27 43 rfl 30 rfl hf (fun hf => ?_) (fun hf => ?_)
    · refine at_iconst hO dX6_fillLevels_43 44 rfl ?_
      obtain ⟨h4, hf⟩ := chk_some hf
      refine at_iastore hO (tb_lev (ix_nat h2)) (Nat.le_of_ble_eq_true rfl) h4 (v3.toNat) rfl dX6_fillLevels_44 45 rfl ?_
      refine at_iinc hO (lv' := [(3, vi (v3 + 1)), (0, vr G 16), (1, vi v1), (2, vi v2)]) 3 rfl (Nat.le_of_ble_eq_true rfl) rfl dX6_fillLevels_45 48 rfl ?_
      refine at_goto hO dX6_fillLevels_48 12 rfl ?_
      exact at_sub (fun ls h => lv_sub h [1, 2, 3, 0] rfl) (hrec12 (su s (18 + v1.toNat) v3.toNat 0) v1 v2 (v3 + 1) hf)
    · refine at_aload_n hO 0 rfl rfl dX6_fillLevels_30 31 rfl ?_
      refine at_getR hO fl_X6_33 rfl rfl dX6_fillLevels_31 34 rfl ?_
      refine at_iload_n hO 1 rfl rfl dX6_fillLevels_34 35 rfl ?_
      obtain ⟨h5, hf⟩ := chk_some hf
      refine at_aaload3 hO rfl (Nat.le_of_ble_eq_true rfl) h5 (2 + v1.toNat) rfl dX6_fillLevels_35 36 rfl ?_
      refine at_iload_n hO 3 rfl rfl dX6_fillLevels_36 37 rfl ?_
      refine at_callV1 (As := [vi v3]) (st := [vi v3, vr G (18 + v1.toNat)]) hO (c_X5_figure _ G hO.g v1.toNat (ix_nat h5) s v3) mb_X5_figure mi_X5_figure lk_X6_79 (tb_text (ix_nat h5)) ⟨_, rfl, rfl⟩ rfl ⟨(Nat.le_of_ble_eq_true rfl), (Nat.le_of_ble_eq_true rfl)⟩ (Nat.le_of_ble_eq_true rfl) rfl dX6_fillLevels_37 40 rfl hf (fun r6 s7 hf => ?_)
      refine at_goto hO dX6_fillLevels_40 44 rfl ?_
      obtain ⟨h8, hf⟩ := chk_some hf
      refine at_iastore hO (tb_lev (ix_nat h2)) (Nat.le_of_ble_eq_true rfl) h8 (v3.toNat) rfl dX6_fillLevels_44 45 rfl ?_
      refine at_iinc hO (lv' := [(3, vi (v3 + 1)), (0, vr G 16), (1, vi v1), (2, vi v2)]) 3 rfl (Nat.le_of_ble_eq_true rfl) rfl dX6_fillLevels_45 48 rfl ?_
      refine at_goto hO dX6_fillLevels_48 12 rfl ?_
      exact at_sub (fun ls h => lv_sub h [1, 2, 3, 0] rfl) (hrec12 (su s7 (18 + v1.toNat) v3.toNat r6) v1 v2 (v3 + 1) hf)
theorem wL_X6_fillLevels_12 {X : CX} {G : Ge} {Z : Rt} (hO : rr_OK X G cX6_fillLevels 4 RX6 none 2 42) : ∀ (n : Nat) (s : St) (v1 v2 v3 : Int), L_X6_fillLevels_12 n s v1 v2 v3 = some Z → rr_AT X G 4 0 Z 12 [(0, vr G 16), (1, vi v1), (2, vi v2), (3, vi v3)] [] s := by
  intro n
  induction n with
  | zero =>
    intro s v1 v2 v3 hf
    cases hf
  | succ n ih =>
    intro s v1 v2 v3 hf
    exact wS_X6_fillLevels_12 hO ih s v1 v2 v3 hf
def f_X6_fillLevels (s : St) (p1 : Int) : Option Rt := chk (ix p1 4) (cll (f_X5_told p1.toNat s) (fun r2 s3 => L_X6_fillLevels_12 FU s3 p1 r2 0))
set_option maxRecDepth 100000 in
set_option maxHeartbeats 4000000 in
theorem c_X6_fillLevels (l : Launch) (G : Ge) (hG : rr_GD G) (s : St) (p1 : Int) : rr_Ct l G yX6_fillLevels cX6_fillLevels 4 none 2 42 0 [vr G 16, vi p1] s (f_X6_fillLevels s p1) := by
  refine rr_mk (lv := [(0, vr G 16), (1, vi p1)]) RX6 (by decide) rfl hG (Nat.le_of_ble_eq_true rfl) rfl ?_
  intro X Z hO hf
  unfold f_X6_fillLevels at hf
  refine at_aload_n hO 0 rfl rfl dX6_fillLevels_0 1 rfl ?_
  refine at_getR hO fl_X6_33 rfl rfl dX6_fillLevels_1 4 rfl ?_
  refine at_iload_n hO 1 rfl rfl dX6_fillLevels_4 5 rfl ?_
  obtain ⟨h1, hf⟩ := chk_some hf
  refine at_aaload3 hO rfl (Nat.le_of_ble_eq_true rfl) h1 (2 + p1.toNat) rfl dX6_fillLevels_5 6 rfl ?_
  refine at_callV1 (As := []) (st := []) hO (c_X5_told _ G hO.g p1.toNat (ix_nat h1) s ) mb_X5_told mi_X5_told lk_X6_73 (tb_text (ix_nat h1)) ⟨_, rfl, rfl⟩ rfl ⟨(Nat.le_of_ble_eq_true rfl), (Nat.le_of_ble_eq_true rfl)⟩ (Nat.le_of_ble_eq_true rfl) rfl dX6_fillLevels_6 9 rfl hf (fun r2 s3 hf => ?_)
  refine at_istore_n hO (lv' := [(2, vi r2), (0, vr G 16), (1, vi p1)]) rfl (Nat.le_of_ble_eq_true rfl) rfl dX6_fillLevels_9 10 rfl ?_
  refine at_iconst hO dX6_fillLevels_10 11 rfl ?_
  refine at_istore_n hO (lv' := [(3, vi 0), (2, vi r2), (0, vr G 16), (1, vi p1)]) rfl (Nat.le_of_ble_eq_true rfl) rfl dX6_fillLevels_11 12 rfl ?_
  exact at_sub (fun ls h => lv_sub h [2, 3, 1, 0] rfl) (wL_X6_fillLevels_12 hO FU s3 p1 r2 0 hf)

def S_X6_firstThaw_2 (rec2 : St → Int → Int → Option Rt) (s : St) (v1 v2 : Int) : Option Rt := chk (in32 v2) (chk (in32 (s 10 1)) ((if (s 10 1) < v2 then some ((-1), s) else (if 30 ≤ v2 then some ((-1), s) else chk (ix v1 3) (chk (ix v2 30) (chk (in32 (s (18 + v1.toNat) v2.toNat)) (chk (in32 (s 10 0)) ((if (s (18 + v1.toNat) v2.toNat) < (s 10 0) then rec2 s v1 (v2 + 1) else some (v2, s))))))))))
def L_X6_firstThaw_2 : Nat → St → Int → Int → Option Rt
  | 0, _, _, _ => none
  | n + 1, s, v1, v2 => S_X6_firstThaw_2 (L_X6_firstThaw_2 n) s v1 v2
set_option maxRecDepth 100000 in
set_option maxHeartbeats 4000000 in
theorem wS_X6_firstThaw_2 {X : CX} {G : Ge} {Z : Rt} {rec2 : St → Int → Int → Option Rt} (hO : rr_OK X G cX6_firstThaw 3 RX6 (some .int) 0 0) (hrec2 : ∀ (s : St) (v1 v2 : Int), rec2 s v1 v2 = some Z → rr_AT X G 3 1 Z 2 [(0, vr G 16), (1, vi v1), (2, vi v2)] [] s) (s : St) (v1 v2 : Int) (hf : S_X6_firstThaw_2 rec2 s v1 v2 = some Z) : rr_AT X G 3 1 Z 2 [(0, vr G 16), (1, vi v1), (2, vi v2)] [] s := by
  unfold S_X6_firstThaw_2 at hf
  refine at_iload_n hO 2 rfl rfl dX6_firstThaw_2 3 rfl ?_
  refine at_aload_n hO 0 rfl rfl dX6_firstThaw_3 4 rfl ?_
  refine at_getR hO fl_X6_37 rfl rfl dX6_firstThaw_4 7 rfl ?_
  refine at_iconst hO dX6_firstThaw_7 8 rfl ?_
  refine at_iaload hO rfl (Nat.le_of_ble_eq_true rfl) (by decide) (1) rfl dX6_firstThaw_8 9 rfl ?_
  obtain ⟨h1, hf⟩ := chk_some hf
  obtain ⟨h2, hf⟩ := chk_some hf
  refine at_icmp_gt hO h1 h2 dX6_firstThaw_9 43 rfl 12 rfl hf (fun hf => ?_) (fun hf => ?_)
  · refine at_iconst hO dX6_firstThaw_43 44 rfl ?_
    exact at_ireturn hO dX6_firstThaw_44 hf
  · refine at_iload_n hO 2 rfl rfl dX6_firstThaw_12 13 rfl ?_
    refine at_bipush hO (by decide) dX6_firstThaw_13 15 rfl ?_
    refine at_icmp_ge hO h1 (by decide) dX6_firstThaw_15 43 rfl 18 rfl hf (fun hf => ?_) (fun hf => ?_)
    · refine at_iconst hO dX6_firstThaw_43 44 rfl ?_
      exact at_ireturn hO dX6_firstThaw_44 hf
    · refine at_aload_n hO 0 rfl rfl dX6_firstThaw_18 19 rfl ?_
      refine at_getR hO fl_X6_11 rfl rfl dX6_firstThaw_19 22 rfl ?_
      refine at_iload_n hO 1 rfl rfl dX6_firstThaw_22 23 rfl ?_
      obtain ⟨h3, hf⟩ := chk_some hf
      refine at_aaload5 hO rfl (Nat.le_of_ble_eq_true rfl) h3 (18 + v1.toNat) rfl dX6_firstThaw_23 24 rfl ?_
      refine at_iload_n hO 2 rfl rfl dX6_firstThaw_24 25 rfl ?_
      obtain ⟨h4, hf⟩ := chk_some hf
      refine at_iaload hO (tb_lev (ix_nat h3)) (Nat.le_of_ble_eq_true rfl) h4 (v2.toNat) rfl dX6_firstThaw_25 26 rfl ?_
      refine at_aload_n hO 0 rfl rfl dX6_firstThaw_26 27 rfl ?_
      refine at_getR hO fl_X6_37 rfl rfl dX6_firstThaw_27 30 rfl ?_
      refine at_iconst hO dX6_firstThaw_30 31 rfl ?_
      refine at_iaload hO rfl (Nat.le_of_ble_eq_true rfl) (by decide) (0) rfl dX6_firstThaw_31 32 rfl ?_
      obtain ⟨h5, hf⟩ := chk_some hf
      obtain ⟨h6, hf⟩ := chk_some hf
      refine at_icmp_lt hO h5 h6 dX6_firstThaw_32 37 rfl 35 rfl hf (fun hf => ?_) (fun hf => ?_)
      · refine at_iinc hO (lv' := [(2, vi (v2 + 1)), (0, vr G 16), (1, vi v1)]) 2 rfl (Nat.le_of_ble_eq_true rfl) rfl dX6_firstThaw_37 40 rfl ?_
        refine at_goto hO dX6_firstThaw_40 2 rfl ?_
        exact at_sub (fun ls h => lv_sub h [1, 2, 0] rfl) (hrec2 s v1 (v2 + 1) hf)
      · refine at_iload_n hO 2 rfl rfl dX6_firstThaw_35 36 rfl ?_
        exact at_ireturn hO dX6_firstThaw_36 hf
theorem wL_X6_firstThaw_2 {X : CX} {G : Ge} {Z : Rt} (hO : rr_OK X G cX6_firstThaw 3 RX6 (some .int) 0 0) : ∀ (n : Nat) (s : St) (v1 v2 : Int), L_X6_firstThaw_2 n s v1 v2 = some Z → rr_AT X G 3 1 Z 2 [(0, vr G 16), (1, vi v1), (2, vi v2)] [] s := by
  intro n
  induction n with
  | zero =>
    intro s v1 v2 hf
    cases hf
  | succ n ih =>
    intro s v1 v2 hf
    exact wS_X6_firstThaw_2 hO ih s v1 v2 hf
def f_X6_firstThaw (s : St) (p1 : Int) : Option Rt := L_X6_firstThaw_2 FU s p1 0
set_option maxRecDepth 100000 in
set_option maxHeartbeats 4000000 in
theorem c_X6_firstThaw (l : Launch) (G : Ge) (hG : rr_GD G) (s : St) (p1 : Int) : rr_Ct l G yX6_firstThaw cX6_firstThaw 3 (some .int) 0 0 1 [vr G 16, vi p1] s (f_X6_firstThaw s p1) := by
  refine rr_mk (lv := [(0, vr G 16), (1, vi p1)]) RX6 (by decide) rfl hG (Nat.le_of_ble_eq_true rfl) rfl ?_
  intro X Z hO hf
  unfold f_X6_firstThaw at hf
  refine at_iconst hO dX6_firstThaw_0 1 rfl ?_
  refine at_istore_n hO (lv' := [(2, vi 0), (0, vr G 16), (1, vi p1)]) rfl (Nat.le_of_ble_eq_true rfl) rfl dX6_firstThaw_1 2 rfl ?_
  exact at_sub (fun ls h => lv_sub h [1, 2, 0] rfl) (wL_X6_firstThaw_2 hO FU s p1 0 hf)

def B_X6_fillWet_40 (rec9 : St → Int → Int → Int → Option Rt) (s : St) (v1 v2 v3 t0 : Int) : Option Rt := chk (ix v1 3) (chk (ix v3 30) (chk (in32 t0) ((if t0 = 0 then rec9 (su s (22 + v1.toNat) v3.toNat 0) v1 v2 (v3 + 1) else cll (f_X8_inside s (s (18 + v1.toNat) v3.toNat) 10) (fun r4 s5 => chk (in32 r4) ((if r4 = 0 then rec9 (su s5 (22 + v1.toNat) v3.toNat 0) v1 v2 (v3 + 1) else chk (ix (s (18 + v1.toNat) v3.toNat) 10) (rec9 (su s5 (22 + v1.toNat) v3.toNat (andZ (s5 26 (s (18 + v1.toNat) v3.toNat).toNat) (xorZ (s5 27 v3.toNat) (-1)))) v1 v2 (v3 + 1)))))))))
set_option maxRecDepth 100000 in
set_option maxHeartbeats 4000000 in
theorem wB_X6_fillWet_40 {X : CX} {G : Ge} {Z : Rt} {rec9 : St → Int → Int → Int → Option Rt} (hO : rr_OK X G cX6_fillWet 6 RX6 none 1 21) (hrec9 : ∀ (s : St) (v1 v2 v3 : Int), rec9 s v1 v2 v3 = some Z → rr_AT X G 6 0 Z 9 [(0, vr G 16), (1, vi v1), (2, vi v2), (3, vi v3)] [] s) (s : St) (v1 v2 v3 t0 : Int) (hf : B_X6_fillWet_40 rec9 s v1 v2 v3 t0 = some Z) : rr_AT X G 6 0 Z 40 [(0, vr G 16), (1, vi v1), (2, vi v2), (3, vi v3)] [vi t0] s := by
  unfold B_X6_fillWet_40 at hf
  refine at_istore hO (lv' := [(4, vi t0), (0, vr G 16), (1, vi v1), (2, vi v2), (3, vi v3)]) (Nat.le_of_ble_eq_true rfl) rfl dX6_fillWet_40 42 rfl ?_
  refine at_aload_n hO 1 rfl rfl dX6_fillWet_42 43 rfl ?_
  refine at_getR hO fl_X6_11 rfl rfl dX6_fillWet_43 46 rfl ?_
  refine at_iload_n hO 2 rfl rfl dX6_fillWet_46 47 rfl ?_
  obtain ⟨h1, hf⟩ := chk_some hf
  refine at_aaload5 hO rfl (Nat.le_of_ble_eq_true rfl) h1 (18 + v1.toNat) rfl dX6_fillWet_47 48 rfl ?_
  refine at_iload_n hO 4 rfl rfl dX6_fillWet_48 49 rfl ?_
  obtain ⟨h2, hf⟩ := chk_some hf
  refine at_iaload hO (tb_lev (ix_nat h1)) (Nat.le_of_ble_eq_true rfl) h2 (v3.toNat) rfl dX6_fillWet_49 50 rfl ?_
  refine at_istore hO (lv' := [(5, vi (s (18 + v1.toNat) v3.toNat)), (4, vi t0), (0, vr G 16), (1, vi v1), (2, vi v2), (3, vi v3)]) (Nat.le_of_ble_eq_true rfl) rfl dX6_fillWet_50 52 rfl ?_
  refine at_aload_n hO 2 rfl rfl dX6_fillWet_52 53 rfl ?_
  refine at_getR hO fl_X6_16 rfl rfl dX6_fillWet_53 56 rfl ?_
  refine at_iload_n hO 3 rfl rfl dX6_fillWet_56 57 rfl ?_
  refine at_aaload5 hO rfl (Nat.le_of_ble_eq_true rfl) h1 (22 + v1.toNat) rfl dX6_fillWet_57 58 rfl ?_
  refine at_iload_n hO 5 rfl rfl dX6_fillWet_58 59 rfl ?_
  refine at_iload hO 1 rfl dX6_fillWet_59 61 rfl ?_
  obtain ⟨h3, hf⟩ := chk_some hf
  refine at_if_eq hO h3 dX6_fillWet_61 93 rfl 64 rfl hf (fun hf => ?_) (fun hf => ?_)
  · refine at_iconst hO dX6_fillWet_93 94 rfl ?_
    refine at_iastore hO (tb_wet (ix_nat h1)) (Nat.le_of_ble_eq_true rfl) h2 (v3.toNat) rfl dX6_fillWet_94 95 rfl ?_
    refine at_iinc hO (lv' := [(3, vi (v3 + 1)), (5, vi (s (18 + v1.toNat) v3.toNat)), (4, vi t0), (0, vr G 16), (1, vi v1), (2, vi v2)]) 5 rfl (Nat.le_of_ble_eq_true rfl) rfl dX6_fillWet_95 98 rfl ?_
    refine at_goto hO dX6_fillWet_98 9 rfl ?_
    exact at_sub (fun ls h => lv_sub h [3, 4, 5, 0] rfl) (hrec9 (su s (22 + v1.toNat) v3.toNat 0) v1 v2 (v3 + 1) hf)
  · refine at_iload hO 0 rfl dX6_fillWet_64 66 rfl ?_
    refine at_bipush hO (by decide) dX6_fillWet_66 68 rfl ?_
    refine at_callSN1 (As := [vi (s (18 + v1.toNat) v3.toNat), vi 10]) (st := [vi v3, vr G (22 + v1.toNat)]) hO (c_X8_inside _ G hO.g s (s (18 + v1.toNat) v3.toNat) 10) mb_X8_inside ms_X8_inside lk_X6_66 rfl ⟨(Nat.le_of_ble_eq_true rfl), (Nat.le_of_ble_eq_true rfl)⟩ (Nat.le_of_ble_eq_true rfl) rfl dX6_fillWet_68 71 rfl hf (fun r4 s5 hf => ?_)
    obtain ⟨h6, hf⟩ := chk_some hf
    refine at_if_eq hO h6 dX6_fillWet_71 93 rfl 74 rfl hf (fun hf => ?_) (fun hf => ?_)
    · refine at_iconst hO dX6_fillWet_93 94 rfl ?_
      refine at_iastore hO (tb_wet (ix_nat h1)) (Nat.le_of_ble_eq_true rfl) h2 (v3.toNat) rfl dX6_fillWet_94 95 rfl ?_
      refine at_iinc hO (lv' := [(3, vi (v3 + 1)), (5, vi (s (18 + v1.toNat) v3.toNat)), (4, vi t0), (0, vr G 16), (1, vi v1), (2, vi v2)]) 5 rfl (Nat.le_of_ble_eq_true rfl) rfl dX6_fillWet_95 98 rfl ?_
      refine at_goto hO dX6_fillWet_98 9 rfl ?_
      exact at_sub (fun ls h => lv_sub h [3, 4, 5, 0] rfl) (hrec9 (su s5 (22 + v1.toNat) v3.toNat 0) v1 v2 (v3 + 1) hf)
    · refine at_aload_n hO 2 rfl rfl dX6_fillWet_74 75 rfl ?_
      refine at_getR hO fl_X6_23 rfl rfl dX6_fillWet_75 78 rfl ?_
      refine at_iload hO 0 rfl dX6_fillWet_78 80 rfl ?_
      obtain ⟨h7, hf⟩ := chk_some hf
      refine at_iaload hO rfl (Nat.le_of_ble_eq_true rfl) h7 ((s (18 + v1.toNat) v3.toNat).toNat) rfl dX6_fillWet_80 81 rfl ?_
      refine at_aload_n hO 2 rfl rfl dX6_fillWet_81 82 rfl ?_
      refine at_getR hO fl_X6_26 rfl rfl dX6_fillWet_82 85 rfl ?_
      refine at_iload_n hO 5 rfl rfl dX6_fillWet_85 86 rfl ?_
      refine at_iaload hO rfl (Nat.le_of_ble_eq_true rfl) h2 (v3.toNat) rfl dX6_fillWet_86 87 rfl ?_
      refine at_iconst hO dX6_fillWet_87 88 rfl ?_
      refine at_ixor hO dX6_fillWet_88 89 rfl ?_
      refine at_iand hO dX6_fillWet_89 90 rfl ?_
      refine at_goto hO dX6_fillWet_90 94 rfl ?_
      refine at_iastore hO (tb_wet (ix_nat h1)) (Nat.le_of_ble_eq_true rfl) h2 (v3.toNat) rfl dX6_fillWet_94 95 rfl ?_
      refine at_iinc hO (lv' := [(3, vi (v3 + 1)), (5, vi (s (18 + v1.toNat) v3.toNat)), (4, vi t0), (0, vr G 16), (1, vi v1), (2, vi v2)]) 5 rfl (Nat.le_of_ble_eq_true rfl) rfl dX6_fillWet_95 98 rfl ?_
      refine at_goto hO dX6_fillWet_98 9 rfl ?_
      exact at_sub (fun ls h => lv_sub h [3, 4, 5, 0] rfl) (hrec9 (su s5 (22 + v1.toNat) v3.toNat (andZ (s5 26 (s (18 + v1.toNat) v3.toNat).toNat) (xorZ (s5 27 v3.toNat) (-1)))) v1 v2 (v3 + 1) hf)
def S_X6_fillWet_9 (rec9 : St → Int → Int → Int → Option Rt) (s : St) (v1 v2 v3 : Int) : Option Rt := chk (in32 v3) ((if 30 ≤ v3 then some (0, s) else chk (in32 v2) ((if v2 = (-1) then B_X6_fillWet_40 rec9 s v1 v2 v3 0 else (if v3 < v2 then B_X6_fillWet_40 rec9 s v1 v2 v3 0 else chk (in32 (s 10 1)) ((if (s 10 1) < v3 then B_X6_fillWet_40 rec9 s v1 v2 v3 0 else B_X6_fillWet_40 rec9 s v1 v2 v3 1)))))))
def L_X6_fillWet_9 : Nat → St → Int → Int → Int → Option Rt
  | 0, _, _, _, _ => none
  | n + 1, s, v1, v2, v3 => S_X6_fillWet_9 (L_X6_fillWet_9 n) s v1 v2 v3
set_option maxRecDepth 100000 in
set_option maxHeartbeats 4000000 in
theorem wS_X6_fillWet_9 {X : CX} {G : Ge} {Z : Rt} {rec9 : St → Int → Int → Int → Option Rt} (hO : rr_OK X G cX6_fillWet 6 RX6 none 1 21) (hrec9 : ∀ (s : St) (v1 v2 v3 : Int), rec9 s v1 v2 v3 = some Z → rr_AT X G 6 0 Z 9 [(0, vr G 16), (1, vi v1), (2, vi v2), (3, vi v3)] [] s) (s : St) (v1 v2 v3 : Int) (hf : S_X6_fillWet_9 rec9 s v1 v2 v3 = some Z) : rr_AT X G 6 0 Z 9 [(0, vr G 16), (1, vi v1), (2, vi v2), (3, vi v3)] [] s := by
  unfold S_X6_fillWet_9 at hf
  refine at_iload_n hO 3 rfl rfl dX6_fillWet_9 10 rfl ?_
  refine at_bipush hO (by decide) dX6_fillWet_10 12 rfl ?_
  obtain ⟨h1, hf⟩ := chk_some hf
  refine at_icmp_ge hO h1 (by decide) dX6_fillWet_12 101 rfl 15 rfl hf (fun hf => ?_) (fun hf => ?_)
  · exact at_return hO dX6_fillWet_101 hf
  · refine at_iload_n hO 2 rfl rfl dX6_fillWet_15 16 rfl ?_
    refine at_iconst hO dX6_fillWet_16 17 rfl ?_
    obtain ⟨h2, hf⟩ := chk_some hf
    refine at_icmp_eq hO h2 (by decide) dX6_fillWet_17 39 rfl 20 rfl hf (fun hf => ?_) (fun hf => ?_)
    · refine at_iconst hO dX6_fillWet_39 40 rfl ?_
      exact at_sub (fun ls h => lv_sub h [0, 1, 2, 3] rfl) (wB_X6_fillWet_40 hO hrec9 s v1 v2 v3 0 hf)
    · refine at_iload_n hO 3 rfl rfl dX6_fillWet_20 21 rfl ?_
      refine at_iload_n hO 2 rfl rfl dX6_fillWet_21 22 rfl ?_
      refine at_icmp_lt hO h1 h2 dX6_fillWet_22 39 rfl 25 rfl hf (fun hf => ?_) (fun hf => ?_)
      · refine at_iconst hO dX6_fillWet_39 40 rfl ?_
        exact at_sub (fun ls h => lv_sub h [0, 1, 2, 3] rfl) (wB_X6_fillWet_40 hO hrec9 s v1 v2 v3 0 hf)
      · refine at_iload_n hO 3 rfl rfl dX6_fillWet_25 26 rfl ?_
        refine at_aload_n hO 0 rfl rfl dX6_fillWet_26 27 rfl ?_
        refine at_getR hO fl_X6_37 rfl rfl dX6_fillWet_27 30 rfl ?_
        refine at_iconst hO dX6_fillWet_30 31 rfl ?_
        refine at_iaload hO rfl (Nat.le_of_ble_eq_true rfl) (by decide) (1) rfl dX6_fillWet_31 32 rfl ?_
        obtain ⟨h3, hf⟩ := chk_some hf
        refine at_icmp_gt hO h1 h3 dX6_fillWet_32 39 rfl 35 rfl hf (fun hf => ?_) (fun hf => ?_)
        · refine at_iconst hO dX6_fillWet_39 40 rfl ?_
          exact at_sub (fun ls h => lv_sub h [0, 1, 2, 3] rfl) (wB_X6_fillWet_40 hO hrec9 s v1 v2 v3 0 hf)
        · refine at_iconst hO dX6_fillWet_35 36 rfl ?_
          refine at_goto hO dX6_fillWet_36 40 rfl ?_
          exact at_sub (fun ls h => lv_sub h [0, 1, 2, 3] rfl) (wB_X6_fillWet_40 hO hrec9 s v1 v2 v3 1 hf)
theorem wL_X6_fillWet_9 {X : CX} {G : Ge} {Z : Rt} (hO : rr_OK X G cX6_fillWet 6 RX6 none 1 21) : ∀ (n : Nat) (s : St) (v1 v2 v3 : Int), L_X6_fillWet_9 n s v1 v2 v3 = some Z → rr_AT X G 6 0 Z 9 [(0, vr G 16), (1, vi v1), (2, vi v2), (3, vi v3)] [] s := by
  intro n
  induction n with
  | zero =>
    intro s v1 v2 v3 hf
    cases hf
  | succ n ih =>
    intro s v1 v2 v3 hf
    exact wS_X6_fillWet_9 hO ih s v1 v2 v3 hf
def f_X6_fillWet (s : St) (p1 : Int) : Option Rt := chk (ix p1 3) (L_X6_fillWet_9 FU s p1 (s 25 p1.toNat) 0)
set_option maxRecDepth 100000 in
set_option maxHeartbeats 4000000 in
theorem c_X6_fillWet (l : Launch) (G : Ge) (hG : rr_GD G) (s : St) (p1 : Int) : rr_Ct l G yX6_fillWet cX6_fillWet 6 none 1 21 0 [vr G 16, vi p1] s (f_X6_fillWet s p1) := by
  refine rr_mk (lv := [(0, vr G 16), (1, vi p1)]) RX6 (by decide) rfl hG (Nat.le_of_ble_eq_true rfl) rfl ?_
  intro X Z hO hf
  unfold f_X6_fillWet at hf
  refine at_aload_n hO 0 rfl rfl dX6_fillWet_0 1 rfl ?_
  refine at_getR hO fl_X6_19 rfl rfl dX6_fillWet_1 4 rfl ?_
  refine at_iload_n hO 1 rfl rfl dX6_fillWet_4 5 rfl ?_
  obtain ⟨h1, hf⟩ := chk_some hf
  refine at_iaload hO rfl (Nat.le_of_ble_eq_true rfl) h1 (p1.toNat) rfl dX6_fillWet_5 6 rfl ?_
  refine at_istore_n hO (lv' := [(2, vi (s 25 p1.toNat)), (0, vr G 16), (1, vi p1)]) rfl (Nat.le_of_ble_eq_true rfl) rfl dX6_fillWet_6 7 rfl ?_
  refine at_iconst hO dX6_fillWet_7 8 rfl ?_
  refine at_istore_n hO (lv' := [(3, vi 0), (2, vi (s 25 p1.toNat)), (0, vr G 16), (1, vi p1)]) rfl (Nat.le_of_ble_eq_true rfl) rfl dX6_fillWet_8 9 rfl ?_
  exact at_sub (fun ls h => lv_sub h [2, 3, 1, 0] rfl) (wL_X6_fillWet_9 hO FU s p1 (s 25 p1.toNat) 0 hf)

def S_X6_refresh_42 (rec42 : St → Int → Option Rt) (s : St) (v1 : Int) : Option Rt := chk (in32 v1) ((if 3 ≤ v1 then some (0, (su s 16 8 0)) else cll (f_X6_fillLevels s v1) (fun _ s3 => cll (f_X6_firstThaw s3 v1) (fun r4 s5 => chk (ix v1 3) (cll (f_X6_fillWet (su s5 25 v1.toNat r4) v1) (fun _ s8 => rec42 s8 (v1 + 1)))))))
def L_X6_refresh_42 : Nat → St → Int → Option Rt
  | 0, _, _ => none
  | n + 1, s, v1 => S_X6_refresh_42 (L_X6_refresh_42 n) s v1
set_option maxRecDepth 100000 in
set_option maxHeartbeats 4000000 in
theorem wS_X6_refresh_42 {X : CX} {G : Ge} {Z : Rt} {rec42 : St → Int → Option Rt} (hO : rr_OK X G cX6_refresh 2 RX6 none 3 66) (hrec42 : ∀ (s : St) (v1 : Int), rec42 s v1 = some Z → rr_AT X G 2 0 Z 42 [(0, vr G 16), (1, vi v1)] [] s) (s : St) (v1 : Int) (hf : S_X6_refresh_42 rec42 s v1 = some Z) : rr_AT X G 2 0 Z 42 [(0, vr G 16), (1, vi v1)] [] s := by
  unfold S_X6_refresh_42 at hf
  refine at_iload_n hO 1 rfl rfl dX6_refresh_42 43 rfl ?_
  refine at_iconst hO dX6_refresh_43 44 rfl ?_
  obtain ⟨h1, hf⟩ := chk_some hf
  refine at_icmp_ge hO h1 (by decide) dX6_refresh_44 74 rfl 47 rfl hf (fun hf => ?_) (fun hf => ?_)
  · refine at_aload_n hO 0 rfl rfl dX6_refresh_74 75 rfl ?_
    refine at_iconst hO dX6_refresh_75 76 rfl ?_
    refine at_putZ hO (Or.inl rfl) fp_X6_29 rfl rfl dX6_refresh_76 79 rfl ?_
    exact at_return hO dX6_refresh_79 hf
  · refine at_aload_n hO 0 rfl rfl dX6_refresh_47 48 rfl ?_
    refine at_iload_n hO 1 rfl rfl dX6_refresh_48 49 rfl ?_
    refine at_callV0 (As := [vi v1]) (st := []) hO (c_X6_fillLevels _ G hO.g s v1) mb_X6_fillLevels mi_X6_fillLevels lk_X6_52 rfl ⟨_, rfl, rfl⟩ rfl ⟨(Nat.le_of_ble_eq_true rfl), (Nat.le_of_ble_eq_true rfl)⟩ (Nat.le_of_ble_eq_true rfl) rfl dX6_refresh_49 52 rfl hf (fun r2 s3 hf => ?_)
    refine at_aload_n hO 0 rfl rfl dX6_refresh_52 53 rfl ?_
    refine at_getR hO fl_X6_19 rfl rfl dX6_refresh_53 56 rfl ?_
    refine at_iload_n hO 1 rfl rfl dX6_refresh_56 57 rfl ?_
    refine at_aload_n hO 0 rfl rfl dX6_refresh_57 58 rfl ?_
    refine at_iload_n hO 1 rfl rfl dX6_refresh_58 59 rfl ?_
    refine at_callV1 (As := [vi v1]) (st := [vi v1, vr G 25]) hO (c_X6_firstThaw _ G hO.g s3 v1) mb_X6_firstThaw mi_X6_firstThaw lk_X6_56 rfl ⟨_, rfl, rfl⟩ rfl ⟨(Nat.le_of_ble_eq_true rfl), (Nat.le_of_ble_eq_true rfl)⟩ (Nat.le_of_ble_eq_true rfl) rfl dX6_refresh_59 62 rfl hf (fun r4 s5 hf => ?_)
    obtain ⟨h6, hf⟩ := chk_some hf
    refine at_iastore hO rfl (Nat.le_of_ble_eq_true rfl) h6 (v1.toNat) rfl dX6_refresh_62 63 rfl ?_
    refine at_aload_n hO 0 rfl rfl dX6_refresh_63 64 rfl ?_
    refine at_iload_n hO 1 rfl rfl dX6_refresh_64 65 rfl ?_
    refine at_callV0 (As := [vi v1]) (st := []) hO (c_X6_fillWet _ G hO.g (su s5 25 v1.toNat r4) v1) mb_X6_fillWet mi_X6_fillWet lk_X6_59 rfl ⟨_, rfl, rfl⟩ rfl ⟨(Nat.le_of_ble_eq_true rfl), (Nat.le_of_ble_eq_true rfl)⟩ (Nat.le_of_ble_eq_true rfl) rfl dX6_refresh_65 68 rfl hf (fun r7 s8 hf => ?_)
    refine at_iinc hO (lv' := [(1, vi (v1 + 1)), (0, vr G 16)]) 1 rfl (Nat.le_of_ble_eq_true rfl) rfl dX6_refresh_68 71 rfl ?_
    refine at_goto hO dX6_refresh_71 42 rfl ?_
    exact at_sub (fun ls h => lv_sub h [1, 0] rfl) (hrec42 s8 (v1 + 1) hf)
theorem wL_X6_refresh_42 {X : CX} {G : Ge} {Z : Rt} (hO : rr_OK X G cX6_refresh 2 RX6 none 3 66) : ∀ (n : Nat) (s : St) (v1 : Int), L_X6_refresh_42 n s v1 = some Z → rr_AT X G 2 0 Z 42 [(0, vr G 16), (1, vi v1)] [] s := by
  intro n
  induction n with
  | zero =>
    intro s v1 hf
    cases hf
  | succ n ih =>
    intro s v1 hf
    exact wS_X6_refresh_42 hO ih s v1 hf
def S_X6_refresh_14 (rec14 : St → Int → Option Rt) (s : St) (v1 : Int) : Option Rt := chk (in32 v1) ((if 30 ≤ v1 then L_X6_refresh_42 FU s 0 else cll (f_X1_keptYards s v1) (fun r2 s3 => chk (ix v1 30) (rec14 (su s3 27 v1.toNat r2) (v1 + 1)))))
def L_X6_refresh_14 : Nat → St → Int → Option Rt
  | 0, _, _ => none
  | n + 1, s, v1 => S_X6_refresh_14 (L_X6_refresh_14 n) s v1
set_option maxRecDepth 100000 in
set_option maxHeartbeats 4000000 in
theorem wS_X6_refresh_14 {X : CX} {G : Ge} {Z : Rt} {rec14 : St → Int → Option Rt} (hO : rr_OK X G cX6_refresh 2 RX6 none 3 66) (hrec14 : ∀ (s : St) (v1 : Int), rec14 s v1 = some Z → rr_AT X G 2 0 Z 14 [(0, vr G 16), (1, vi v1)] [] s) (s : St) (v1 : Int) (hf : S_X6_refresh_14 rec14 s v1 = some Z) : rr_AT X G 2 0 Z 14 [(0, vr G 16), (1, vi v1)] [] s := by
  unfold S_X6_refresh_14 at hf
  refine at_iload_n hO 1 rfl rfl dX6_refresh_14 15 rfl ?_
  refine at_bipush hO (by decide) dX6_refresh_15 17 rfl ?_
  obtain ⟨h1, hf⟩ := chk_some hf
  refine at_icmp_ge hO h1 (by decide) dX6_refresh_17 40 rfl 20 rfl hf (fun hf => ?_) (fun hf => ?_)
  · refine at_iconst hO dX6_refresh_40 41 rfl ?_
    refine at_istore_n hO (lv' := [(1, vi 0), (0, vr G 16)]) rfl (Nat.le_of_ble_eq_true rfl) rfl dX6_refresh_41 42 rfl ?_
    exact at_sub (fun ls h => lv_sub h [1, 0] rfl) (wL_X6_refresh_42 hO FU s 0 hf)
  · refine at_aload_n hO 0 rfl rfl dX6_refresh_20 21 rfl ?_
    refine at_getR hO fl_X6_26 rfl rfl dX6_refresh_21 24 rfl ?_
    refine at_iload_n hO 1 rfl rfl dX6_refresh_24 25 rfl ?_
    refine at_aload_n hO 0 rfl rfl dX6_refresh_25 26 rfl ?_
    refine at_getR hO fl_X6_40 rfl rfl dX6_refresh_26 29 rfl ?_
    refine at_iload_n hO 1 rfl rfl dX6_refresh_29 30 rfl ?_
    refine at_callV1 (As := [vi v1]) (st := [vi v1, vr G 27]) hO (c_X1_keptYards _ G hO.g s v1) mb_X1_keptYards mi_X1_keptYards lk_X6_47 rfl ⟨_, rfl, rfl⟩ rfl ⟨(Nat.le_of_ble_eq_true rfl), (Nat.le_of_ble_eq_true rfl)⟩ (Nat.le_of_ble_eq_true rfl) rfl dX6_refresh_30 33 rfl hf (fun r2 s3 hf => ?_)
    obtain ⟨h4, hf⟩ := chk_some hf
    refine at_iastore hO rfl (Nat.le_of_ble_eq_true rfl) h4 (v1.toNat) rfl dX6_refresh_33 34 rfl ?_
    refine at_iinc hO (lv' := [(1, vi (v1 + 1)), (0, vr G 16)]) 1 rfl (Nat.le_of_ble_eq_true rfl) rfl dX6_refresh_34 37 rfl ?_
    refine at_goto hO dX6_refresh_37 14 rfl ?_
    exact at_sub (fun ls h => lv_sub h [1, 0] rfl) (hrec14 (su s3 27 v1.toNat r2) (v1 + 1) hf)
theorem wL_X6_refresh_14 {X : CX} {G : Ge} {Z : Rt} (hO : rr_OK X G cX6_refresh 2 RX6 none 3 66) : ∀ (n : Nat) (s : St) (v1 : Int), L_X6_refresh_14 n s v1 = some Z → rr_AT X G 2 0 Z 14 [(0, vr G 16), (1, vi v1)] [] s := by
  intro n
  induction n with
  | zero =>
    intro s v1 hf
    cases hf
  | succ n ih =>
    intro s v1 hf
    exact wS_X6_refresh_14 hO ih s v1 hf
def f_X6_refresh (s : St) : Option Rt := chk (in32 (s 16 8)) ((if (s 16 8) = 0 then some (0, s) else cll (f_X6_fillLowYards s) (fun _ s3 => L_X6_refresh_14 FU s3 0)))
set_option maxRecDepth 100000 in
set_option maxHeartbeats 4000000 in
theorem c_X6_refresh (l : Launch) (G : Ge) (hG : rr_GD G) (s : St) : rr_Ct l G yX6_refresh cX6_refresh 2 none 3 66 0 [vr G 16] s (f_X6_refresh s ) := by
  refine rr_mk (lv := [(0, vr G 16)]) RX6 (by decide) rfl hG (Nat.le_of_ble_eq_true rfl) rfl ?_
  intro X Z hO hf
  unfold f_X6_refresh at hf
  refine at_aload_n hO 0 rfl rfl dX6_refresh_0 1 rfl ?_
  refine at_getZ hO fl_X6_29 rfl rfl dX6_refresh_1 4 rfl ?_
  obtain ⟨h1, hf⟩ := chk_some hf
  refine at_if_ne hO h1 dX6_refresh_4 8 rfl 7 rfl hf (fun hf => ?_) (fun hf => ?_)
  · refine at_aload_n hO 0 rfl rfl dX6_refresh_8 9 rfl ?_
    refine at_callV0 (As := []) (st := []) hO (c_X6_fillLowYards _ G hO.g s ) mb_X6_fillLowYards mi_X6_fillLowYards lk_X6_44 rfl ⟨_, rfl, rfl⟩ rfl ⟨(Nat.le_of_ble_eq_true rfl), (Nat.le_of_ble_eq_true rfl)⟩ (Nat.le_of_ble_eq_true rfl) rfl dX6_refresh_9 12 rfl hf (fun r2 s3 hf => ?_)
    refine at_iconst hO dX6_refresh_12 13 rfl ?_
    refine at_istore_n hO (lv' := [(1, vi 0), (0, vr G 16)]) rfl (Nat.le_of_ble_eq_true rfl) rfl dX6_refresh_13 14 rfl ?_
    exact at_sub (fun ls h => lv_sub h [1, 0] rfl) (wL_X6_refresh_14 hO FU s3 0 hf)
  · exact at_return hO dX6_refresh_7 hf

def f_X6_levelOn (s : St) (p1 p2 : Int) : Option Rt := cll (f_X8_isSpringDay s p1 p2) (fun r1 s2 => chk (in32 r1) ((if r1 = 0 then some (0, s2) else chk (ix p1 3) (chk (ix p2 30) (some ((s2 (18 + p1.toNat) p2.toNat), s2))))))
set_option maxRecDepth 100000 in
set_option maxHeartbeats 4000000 in
theorem c_X6_levelOn (l : Launch) (G : Ge) (hG : rr_GD G) (s : St) (p1 p2 : Int) : rr_Ct l G yX6_levelOn cX6_levelOn 3 (some .int) 1 21 1 [vr G 16, vi p1, vi p2] s (f_X6_levelOn s p1 p2) := by
  refine rr_mk (lv := [(0, vr G 16), (1, vi p1), (2, vi p2)]) RX6 (by decide) rfl hG (Nat.le_of_ble_eq_true rfl) rfl ?_
  intro X Z hO hf
  unfold f_X6_levelOn at hf
  refine at_iload_n hO 1 rfl rfl dX6_levelOn_0 1 rfl ?_
  refine at_iload_n hO 2 rfl rfl dX6_levelOn_1 2 rfl ?_
  refine at_callSN1 (As := [vi p1, vi p2]) (st := []) hO (c_X8_isSpringDay _ G hO.g s p1 p2) mb_X8_isSpringDay ms_X8_isSpringDay lk_X6_62 rfl ⟨(Nat.le_of_ble_eq_true rfl), (Nat.le_of_ble_eq_true rfl)⟩ (Nat.le_of_ble_eq_true rfl) rfl dX6_levelOn_2 5 rfl hf (fun r1 s2 hf => ?_)
  obtain ⟨h3, hf⟩ := chk_some hf
  refine at_if_eq hO h3 dX6_levelOn_5 19 rfl 8 rfl hf (fun hf => ?_) (fun hf => ?_)
  · refine at_iconst hO dX6_levelOn_19 20 rfl ?_
    exact at_ireturn hO dX6_levelOn_20 hf
  · refine at_aload_n hO 0 rfl rfl dX6_levelOn_8 9 rfl ?_
    refine at_getR hO fl_X6_11 rfl rfl dX6_levelOn_9 12 rfl ?_
    refine at_iload_n hO 1 rfl rfl dX6_levelOn_12 13 rfl ?_
    obtain ⟨h4, hf⟩ := chk_some hf
    refine at_aaload5 hO rfl (Nat.le_of_ble_eq_true rfl) h4 (18 + p1.toNat) rfl dX6_levelOn_13 14 rfl ?_
    refine at_iload_n hO 2 rfl rfl dX6_levelOn_14 15 rfl ?_
    obtain ⟨h5, hf⟩ := chk_some hf
    refine at_iaload hO (tb_lev (ix_nat h4)) (Nat.le_of_ble_eq_true rfl) h5 (p2.toNat) rfl dX6_levelOn_15 16 rfl ?_
    refine at_goto hO dX6_levelOn_16 20 rfl ?_
    exact at_ireturn hO dX6_levelOn_20 hf

def S_X6_parting_21 (rec21 : St → Int → Int → Int → Option Rt) (s : St) (v1 v2 v3 : Int) : Option Rt := chk (in32 v3) ((if 30 ≤ v3 then some (30, s) else chk (ix v1 3) (chk (ix v3 30) (chk (ix v2 3) (chk (in32 (s (18 + v1.toNat) v3.toNat)) (chk (in32 (s (18 + v2.toNat) v3.toNat)) ((if (s (18 + v1.toNat) v3.toNat) = (s (18 + v2.toNat) v3.toNat) then rec21 s v1 v2 (v3 + 1) else some (v3, s)))))))))
def L_X6_parting_21 : Nat → St → Int → Int → Int → Option Rt
  | 0, _, _, _, _ => none
  | n + 1, s, v1, v2, v3 => S_X6_parting_21 (L_X6_parting_21 n) s v1 v2 v3
set_option maxRecDepth 100000 in
set_option maxHeartbeats 4000000 in
theorem wS_X6_parting_21 {X : CX} {G : Ge} {Z : Rt} {rec21 : St → Int → Int → Int → Option Rt} (hO : rr_OK X G cX6_parting 4 RX6 (some .int) 1 21) (hrec21 : ∀ (s : St) (v1 v2 v3 : Int), rec21 s v1 v2 v3 = some Z → rr_AT X G 4 1 Z 21 [(0, vr G 16), (1, vi v1), (2, vi v2), (3, vi v3)] [] s) (s : St) (v1 v2 v3 : Int) (hf : S_X6_parting_21 rec21 s v1 v2 v3 = some Z) : rr_AT X G 4 1 Z 21 [(0, vr G 16), (1, vi v1), (2, vi v2), (3, vi v3)] [] s := by
  unfold S_X6_parting_21 at hf
  refine at_iload_n hO 3 rfl rfl dX6_parting_21 22 rfl ?_
  refine at_bipush hO (by decide) dX6_parting_22 24 rfl ?_
  obtain ⟨h1, hf⟩ := chk_some hf
  refine at_icmp_ge hO h1 (by decide) dX6_parting_24 54 rfl 27 rfl hf (fun hf => ?_) (fun hf => ?_)
  · refine at_bipush hO (by decide) dX6_parting_54 56 rfl ?_
    exact at_ireturn hO dX6_parting_56 hf
  · refine at_aload_n hO 0 rfl rfl dX6_parting_27 28 rfl ?_
    refine at_getR hO fl_X6_11 rfl rfl dX6_parting_28 31 rfl ?_
    refine at_iload_n hO 1 rfl rfl dX6_parting_31 32 rfl ?_
    obtain ⟨h2, hf⟩ := chk_some hf
    refine at_aaload5 hO rfl (Nat.le_of_ble_eq_true rfl) h2 (18 + v1.toNat) rfl dX6_parting_32 33 rfl ?_
    refine at_iload_n hO 3 rfl rfl dX6_parting_33 34 rfl ?_
    obtain ⟨h3, hf⟩ := chk_some hf
    refine at_iaload hO (tb_lev (ix_nat h2)) (Nat.le_of_ble_eq_true rfl) h3 (v3.toNat) rfl dX6_parting_34 35 rfl ?_
    refine at_aload_n hO 0 rfl rfl dX6_parting_35 36 rfl ?_
    refine at_getR hO fl_X6_11 rfl rfl dX6_parting_36 39 rfl ?_
    refine at_iload_n hO 2 rfl rfl dX6_parting_39 40 rfl ?_
    obtain ⟨h4, hf⟩ := chk_some hf
    refine at_aaload5 hO rfl (Nat.le_of_ble_eq_true rfl) h4 (18 + v2.toNat) rfl dX6_parting_40 41 rfl ?_
    refine at_iload_n hO 3 rfl rfl dX6_parting_41 42 rfl ?_
    refine at_iaload hO (tb_lev (ix_nat h4)) (Nat.le_of_ble_eq_true rfl) h3 (v3.toNat) rfl dX6_parting_42 43 rfl ?_
    obtain ⟨h5, hf⟩ := chk_some hf
    obtain ⟨h6, hf⟩ := chk_some hf
    refine at_icmp_eq hO h5 h6 dX6_parting_43 48 rfl 46 rfl hf (fun hf => ?_) (fun hf => ?_)
    · refine at_iinc hO (lv' := [(3, vi (v3 + 1)), (0, vr G 16), (1, vi v1), (2, vi v2)]) 3 rfl (Nat.le_of_ble_eq_true rfl) rfl dX6_parting_48 51 rfl ?_
      refine at_goto hO dX6_parting_51 21 rfl ?_
      exact at_sub (fun ls h => lv_sub h [1, 2, 3, 0] rfl) (hrec21 s v1 v2 (v3 + 1) hf)
    · refine at_iload_n hO 3 rfl rfl dX6_parting_46 47 rfl ?_
      exact at_ireturn hO dX6_parting_47 hf
theorem wL_X6_parting_21 {X : CX} {G : Ge} {Z : Rt} (hO : rr_OK X G cX6_parting 4 RX6 (some .int) 1 21) : ∀ (n : Nat) (s : St) (v1 v2 v3 : Int), L_X6_parting_21 n s v1 v2 v3 = some Z → rr_AT X G 4 1 Z 21 [(0, vr G 16), (1, vi v1), (2, vi v2), (3, vi v3)] [] s := by
  intro n
  induction n with
  | zero =>
    intro s v1 v2 v3 hf
    cases hf
  | succ n ih =>
    intro s v1 v2 v3 hf
    exact wS_X6_parting_21 hO ih s v1 v2 v3 hf
def f_X6_parting (s : St) (p1 p2 : Int) : Option Rt := cll (f_X8_inside s p1 3) (fun r1 s2 => chk (in32 r1) ((if r1 = 0 then some (30, s2) else cll (f_X8_inside s2 p2 3) (fun r4 s5 => chk (in32 r4) ((if r4 = 0 then some (30, s5) else L_X6_parting_21 FU s5 p1 p2 0))))))
set_option maxRecDepth 100000 in
set_option maxHeartbeats 4000000 in
theorem c_X6_parting (l : Launch) (G : Ge) (hG : rr_GD G) (s : St) (p1 p2 : Int) : rr_Ct l G yX6_parting cX6_parting 4 (some .int) 1 21 1 [vr G 16, vi p1, vi p2] s (f_X6_parting s p1 p2) := by
  refine rr_mk (lv := [(0, vr G 16), (1, vi p1), (2, vi p2)]) RX6 (by decide) rfl hG (Nat.le_of_ble_eq_true rfl) rfl ?_
  intro X Z hO hf
  unfold f_X6_parting at hf
  refine at_iload_n hO 1 rfl rfl dX6_parting_0 1 rfl ?_
  refine at_iconst hO dX6_parting_1 2 rfl ?_
  refine at_callSN1 (As := [vi p1, vi 3]) (st := []) hO (c_X8_inside _ G hO.g s p1 3) mb_X8_inside ms_X8_inside lk_X6_66 rfl ⟨(Nat.le_of_ble_eq_true rfl), (Nat.le_of_ble_eq_true rfl)⟩ (Nat.le_of_ble_eq_true rfl) rfl dX6_parting_2 5 rfl hf (fun r1 s2 hf => ?_)
  obtain ⟨h3, hf⟩ := chk_some hf
  refine at_if_eq hO h3 dX6_parting_5 16 rfl 8 rfl hf (fun hf => ?_) (fun hf => ?_)
  · refine at_bipush hO (by decide) dX6_parting_16 18 rfl ?_
    exact at_ireturn hO dX6_parting_18 hf
  · refine at_iload_n hO 2 rfl rfl dX6_parting_8 9 rfl ?_
    refine at_iconst hO dX6_parting_9 10 rfl ?_
    refine at_callSN1 (As := [vi p2, vi 3]) (st := []) hO (c_X8_inside _ G hO.g s2 p2 3) mb_X8_inside ms_X8_inside lk_X6_66 rfl ⟨(Nat.le_of_ble_eq_true rfl), (Nat.le_of_ble_eq_true rfl)⟩ (Nat.le_of_ble_eq_true rfl) rfl dX6_parting_10 13 rfl hf (fun r4 s5 hf => ?_)
    obtain ⟨h6, hf⟩ := chk_some hf
    refine at_if_ne hO h6 dX6_parting_13 19 rfl 16 rfl hf (fun hf => ?_) (fun hf => ?_)
    · refine at_iconst hO dX6_parting_19 20 rfl ?_
      refine at_istore_n hO (lv' := [(3, vi 0), (0, vr G 16), (1, vi p1), (2, vi p2)]) rfl (Nat.le_of_ble_eq_true rfl) rfl dX6_parting_20 21 rfl ?_
      exact at_sub (fun ls h => lv_sub h [1, 2, 3, 0] rfl) (wL_X6_parting_21 hO FU s5 p1 p2 0 hf)
    · refine at_bipush hO (by decide) dX6_parting_16 18 rfl ?_
      exact at_ireturn hO dX6_parting_18 hf

def S_X6_closedDays_5 (rec5 : St → Int → Int → Int → Int → Option Rt) (s : St) (v1 v2 v3 v4 : Int) : Option Rt := chk (in32 v4) ((if 30 ≤ v4 then some (v3, s) else cll (f_X6_wetYards s v1 v4) (fun r2 s3 => rec5 s3 v1 v2 (v3 + (andZ (shrZ r2 v2) 1)) (v4 + 1))))
def L_X6_closedDays_5 : Nat → St → Int → Int → Int → Int → Option Rt
  | 0, _, _, _, _, _ => none
  | n + 1, s, v1, v2, v3, v4 => S_X6_closedDays_5 (L_X6_closedDays_5 n) s v1 v2 v3 v4
set_option maxRecDepth 100000 in
set_option maxHeartbeats 4000000 in
theorem wS_X6_closedDays_5 {X : CX} {G : Ge} {Z : Rt} {rec5 : St → Int → Int → Int → Int → Option Rt} (hO : rr_OK X G cX6_closedDays 5 RX6 (some .int) 2 43) (hrec5 : ∀ (s : St) (v1 v2 v3 v4 : Int), rec5 s v1 v2 v3 v4 = some Z → rr_AT X G 5 1 Z 5 [(0, vr G 16), (1, vi v1), (2, vi v2), (3, vi v3), (4, vi v4)] [] s) (s : St) (v1 v2 v3 v4 : Int) (hf : S_X6_closedDays_5 rec5 s v1 v2 v3 v4 = some Z) : rr_AT X G 5 1 Z 5 [(0, vr G 16), (1, vi v1), (2, vi v2), (3, vi v3), (4, vi v4)] [] s := by
  unfold S_X6_closedDays_5 at hf
  refine at_iload hO 4 rfl dX6_closedDays_5 7 rfl ?_
  refine at_bipush hO (by decide) dX6_closedDays_7 9 rfl ?_
  obtain ⟨h1, hf⟩ := chk_some hf
  refine at_icmp_ge hO h1 (by decide) dX6_closedDays_9 32 rfl 12 rfl hf (fun hf => ?_) (fun hf => ?_)
  · refine at_iload_n hO 3 rfl rfl dX6_closedDays_32 33 rfl ?_
    exact at_ireturn hO dX6_closedDays_33 hf
  · refine at_iload_n hO 3 rfl rfl dX6_closedDays_12 13 rfl ?_
    refine at_aload_n hO 0 rfl rfl dX6_closedDays_13 14 rfl ?_
    refine at_iload_n hO 1 rfl rfl dX6_closedDays_14 15 rfl ?_
    refine at_iload hO 4 rfl dX6_closedDays_15 17 rfl ?_
    refine at_callV1 (As := [vi v1, vi v4]) (st := [vi v3]) hO (c_X6_wetYards _ G hO.g s v1 v4) mb_X6_wetYards mi_X6_wetYards lk_X6_69 rfl ⟨_, rfl, rfl⟩ rfl ⟨(Nat.le_of_ble_eq_true rfl), (Nat.le_of_ble_eq_true rfl)⟩ (Nat.le_of_ble_eq_true rfl) rfl dX6_closedDays_17 20 rfl hf (fun r2 s3 hf => ?_)
    refine at_iload_n hO 2 rfl rfl dX6_closedDays_20 21 rfl ?_
    refine at_ishr hO dX6_closedDays_21 22 rfl ?_
    refine at_iconst hO dX6_closedDays_22 23 rfl ?_
    refine at_iand hO dX6_closedDays_23 24 rfl ?_
    refine at_iadd hO dX6_closedDays_24 25 rfl ?_
    refine at_istore_n hO (lv' := [(3, vi (v3 + (andZ (shrZ r2 v2) 1))), (0, vr G 16), (1, vi v1), (2, vi v2), (4, vi v4)]) rfl (Nat.le_of_ble_eq_true rfl) rfl dX6_closedDays_25 26 rfl ?_
    refine at_iinc hO (lv' := [(4, vi (v4 + 1)), (3, vi (v3 + (andZ (shrZ r2 v2) 1))), (0, vr G 16), (1, vi v1), (2, vi v2)]) 4 rfl (Nat.le_of_ble_eq_true rfl) rfl dX6_closedDays_26 29 rfl ?_
    refine at_goto hO dX6_closedDays_29 5 rfl ?_
    exact at_sub (fun ls h => lv_sub h [2, 3, 4, 1, 0] rfl) (hrec5 s3 v1 v2 (v3 + (andZ (shrZ r2 v2) 1)) (v4 + 1) hf)
theorem wL_X6_closedDays_5 {X : CX} {G : Ge} {Z : Rt} (hO : rr_OK X G cX6_closedDays 5 RX6 (some .int) 2 43) : ∀ (n : Nat) (s : St) (v1 v2 v3 v4 : Int), L_X6_closedDays_5 n s v1 v2 v3 v4 = some Z → rr_AT X G 5 1 Z 5 [(0, vr G 16), (1, vi v1), (2, vi v2), (3, vi v3), (4, vi v4)] [] s := by
  intro n
  induction n with
  | zero =>
    intro s v1 v2 v3 v4 hf
    cases hf
  | succ n ih =>
    intro s v1 v2 v3 v4 hf
    exact wS_X6_closedDays_5 hO ih s v1 v2 v3 v4 hf
def f_X6_closedDays (s : St) (p1 p2 : Int) : Option Rt := L_X6_closedDays_5 FU s p1 p2 0 0
set_option maxRecDepth 100000 in
set_option maxHeartbeats 4000000 in
theorem c_X6_closedDays (l : Launch) (G : Ge) (hG : rr_GD G) (s : St) (p1 p2 : Int) : rr_Ct l G yX6_closedDays cX6_closedDays 5 (some .int) 2 43 1 [vr G 16, vi p1, vi p2] s (f_X6_closedDays s p1 p2) := by
  refine rr_mk (lv := [(0, vr G 16), (1, vi p1), (2, vi p2)]) RX6 (by decide) rfl hG (Nat.le_of_ble_eq_true rfl) rfl ?_
  intro X Z hO hf
  unfold f_X6_closedDays at hf
  refine at_iconst hO dX6_closedDays_0 1 rfl ?_
  refine at_istore_n hO (lv' := [(3, vi 0), (0, vr G 16), (1, vi p1), (2, vi p2)]) rfl (Nat.le_of_ble_eq_true rfl) rfl dX6_closedDays_1 2 rfl ?_
  refine at_iconst hO dX6_closedDays_2 3 rfl ?_
  refine at_istore hO (lv' := [(4, vi 0), (3, vi 0), (0, vr G 16), (1, vi p1), (2, vi p2)]) (Nat.le_of_ble_eq_true rfl) rfl dX6_closedDays_3 5 rfl ?_
  exact at_sub (fun ls h => lv_sub h [2, 3, 4, 1, 0] rfl) (wL_X6_closedDays_5 hO FU s p1 p2 0 0 hf)

def S_X7_fillPartings_19 (rec2 : St → Int → Option Rt) (rec19 : St → Int → Int → Option Rt) (s : St) (v1 v2 : Int) : Option Rt := chk (in32 v2) (chk (in32 v1) ((if v1 ≤ v2 then rec2 s (v1 + 1) else cll (f_X6_parting s v1 v2) (fun r3 s4 => chk (ix v1 3) (chk (ix v2 3) (rec19 (su (su s4 (30 + v1.toNat) v2.toNat r3) (30 + v2.toNat) v1.toNat r3) v1 (v2 + 1)))))))
def L_X7_fillPartings_19 (rec2 : St → Int → Option Rt) : Nat → St → Int → Int → Option Rt
  | 0, _, _, _ => none
  | n + 1, s, v1, v2 => S_X7_fillPartings_19 rec2 (L_X7_fillPartings_19 rec2 n) s v1 v2
set_option maxRecDepth 100000 in
set_option maxHeartbeats 4000000 in
theorem wS_X7_fillPartings_19 {X : CX} {G : Ge} {Z : Rt} {rec2 : St → Int → Option Rt} {rec19 : St → Int → Int → Option Rt} (hO : rr_OK X G cX7_fillPartings 4 RX7 none 2 44) (hrec2 : ∀ (s : St) (v1 : Int), rec2 s v1 = some Z → rr_AT X G 4 0 Z 2 [(0, vr G 28), (1, vi v1)] [] s) (hrec19 : ∀ (s : St) (v1 v2 : Int), rec19 s v1 v2 = some Z → rr_AT X G 4 0 Z 19 [(0, vr G 28), (1, vi v1), (2, vi v2)] [] s) (s : St) (v1 v2 : Int) (hf : S_X7_fillPartings_19 rec2 rec19 s v1 v2 = some Z) : rr_AT X G 4 0 Z 19 [(0, vr G 28), (1, vi v1), (2, vi v2)] [] s := by
  unfold S_X7_fillPartings_19 at hf
  refine at_iload_n hO 2 rfl rfl dX7_fillPartings_19 20 rfl ?_
  refine at_iload_n hO 1 rfl rfl dX7_fillPartings_20 21 rfl ?_
  obtain ⟨h1, hf⟩ := chk_some hf
  obtain ⟨h2, hf⟩ := chk_some hf
  refine at_icmp_ge hO h1 h2 dX7_fillPartings_21 58 rfl 24 rfl hf (fun hf => ?_) (fun hf => ?_)
  · refine at_iinc hO (lv' := [(1, vi (v1 + 1)), (0, vr G 28), (2, vi v2)]) 1 rfl (Nat.le_of_ble_eq_true rfl) rfl dX7_fillPartings_58 61 rfl ?_
    refine at_goto hO dX7_fillPartings_61 2 rfl ?_
    exact at_sub (fun ls h => lv_sub h [1, 0] rfl) (hrec2 s (v1 + 1) hf)
  · refine at_aload_n hO 0 rfl rfl dX7_fillPartings_24 25 rfl ?_
    refine at_getR hO fl_X7_27 rfl rfl dX7_fillPartings_25 28 rfl ?_
    refine at_iload_n hO 1 rfl rfl dX7_fillPartings_28 29 rfl ?_
    refine at_iload_n hO 2 rfl rfl dX7_fillPartings_29 30 rfl ?_
    refine at_callV1 (As := [vi v1, vi v2]) (st := []) hO (c_X6_parting _ G hO.g s v1 v2) mb_X6_parting mi_X6_parting lk_X7_75 rfl ⟨_, rfl, rfl⟩ rfl ⟨(Nat.le_of_ble_eq_true rfl), (Nat.le_of_ble_eq_true rfl)⟩ (Nat.le_of_ble_eq_true rfl) rfl dX7_fillPartings_30 33 rfl hf (fun r3 s4 hf => ?_)
    refine at_istore_n hO (lv' := [(3, vi r3), (0, vr G 28), (1, vi v1), (2, vi v2)]) rfl (Nat.le_of_ble_eq_true rfl) rfl dX7_fillPartings_33 34 rfl ?_
    refine at_aload_n hO 1 rfl rfl dX7_fillPartings_34 35 rfl ?_
    refine at_getR hO fl_X7_11 rfl rfl dX7_fillPartings_35 38 rfl ?_
    refine at_iload_n hO 2 rfl rfl dX7_fillPartings_38 39 rfl ?_
    obtain ⟨h5, hf⟩ := chk_some hf
    refine at_aaload5 hO rfl (Nat.le_of_ble_eq_true rfl) h5 (30 + v1.toNat) rfl dX7_fillPartings_39 40 rfl ?_
    refine at_iload_n hO 3 rfl rfl dX7_fillPartings_40 41 rfl ?_
    refine at_iload_n hO 0 rfl rfl dX7_fillPartings_41 42 rfl ?_
    obtain ⟨h6, hf⟩ := chk_some hf
    refine at_iastore hO (tb_part (ix_nat h5)) (Nat.le_of_ble_eq_true rfl) h6 (v2.toNat) rfl dX7_fillPartings_42 43 rfl ?_
    refine at_aload_n hO 1 rfl rfl dX7_fillPartings_43 44 rfl ?_
    refine at_getR hO fl_X7_11 rfl rfl dX7_fillPartings_44 47 rfl ?_
    refine at_iload_n hO 3 rfl rfl dX7_fillPartings_47 48 rfl ?_
    refine at_aaload5 hO rfl (Nat.le_of_ble_eq_true rfl) h6 (30 + v2.toNat) rfl dX7_fillPartings_48 49 rfl ?_
    refine at_iload_n hO 2 rfl rfl dX7_fillPartings_49 50 rfl ?_
    refine at_iload_n hO 0 rfl rfl dX7_fillPartings_50 51 rfl ?_
    refine at_iastore hO (tb_part (ix_nat h6)) (Nat.le_of_ble_eq_true rfl) h5 (v1.toNat) rfl dX7_fillPartings_51 52 rfl ?_
    refine at_iinc hO (lv' := [(2, vi (v2 + 1)), (3, vi r3), (0, vr G 28), (1, vi v1)]) 3 rfl (Nat.le_of_ble_eq_true rfl) rfl dX7_fillPartings_52 55 rfl ?_
    refine at_goto hO dX7_fillPartings_55 19 rfl ?_
    exact at_sub (fun ls h => lv_sub h [2, 3, 0] rfl) (hrec19 (su (su s4 (30 + v1.toNat) v2.toNat r3) (30 + v2.toNat) v1.toNat r3) v1 (v2 + 1) hf)
theorem wL_X7_fillPartings_19 {X : CX} {G : Ge} {Z : Rt} {rec2 : St → Int → Option Rt} (hO : rr_OK X G cX7_fillPartings 4 RX7 none 2 44) (hrec2 : ∀ (s : St) (v1 : Int), rec2 s v1 = some Z → rr_AT X G 4 0 Z 2 [(0, vr G 28), (1, vi v1)] [] s) : ∀ (n : Nat) (s : St) (v1 v2 : Int), L_X7_fillPartings_19 rec2 n s v1 v2 = some Z → rr_AT X G 4 0 Z 19 [(0, vr G 28), (1, vi v1), (2, vi v2)] [] s := by
  intro n
  induction n with
  | zero =>
    intro s v1 v2 hf
    cases hf
  | succ n ih =>
    intro s v1 v2 hf
    exact wS_X7_fillPartings_19 hO hrec2 ih s v1 v2 hf
def S_X7_fillPartings_2 (rec2 : St → Int → Option Rt) (s : St) (v1 : Int) : Option Rt := chk (in32 v1) ((if 3 ≤ v1 then some (0, s) else chk (ix v1 3) (L_X7_fillPartings_19 rec2 FU (su s (30 + v1.toNat) v1.toNat 30) v1 0)))
def L_X7_fillPartings_2 : Nat → St → Int → Option Rt
  | 0, _, _ => none
  | n + 1, s, v1 => S_X7_fillPartings_2 (L_X7_fillPartings_2 n) s v1
set_option maxRecDepth 100000 in
set_option maxHeartbeats 4000000 in
theorem wS_X7_fillPartings_2 {X : CX} {G : Ge} {Z : Rt} {rec2 : St → Int → Option Rt} (hO : rr_OK X G cX7_fillPartings 4 RX7 none 2 44) (hrec2 : ∀ (s : St) (v1 : Int), rec2 s v1 = some Z → rr_AT X G 4 0 Z 2 [(0, vr G 28), (1, vi v1)] [] s) (s : St) (v1 : Int) (hf : S_X7_fillPartings_2 rec2 s v1 = some Z) : rr_AT X G 4 0 Z 2 [(0, vr G 28), (1, vi v1)] [] s := by
  unfold S_X7_fillPartings_2 at hf
  refine at_iload_n hO 1 rfl rfl dX7_fillPartings_2 3 rfl ?_
  refine at_iconst hO dX7_fillPartings_3 4 rfl ?_
  obtain ⟨h1, hf⟩ := chk_some hf
  refine at_icmp_ge hO h1 (by decide) dX7_fillPartings_4 64 rfl 7 rfl hf (fun hf => ?_) (fun hf => ?_)
  · exact at_return hO dX7_fillPartings_64 hf
  · refine at_aload_n hO 0 rfl rfl dX7_fillPartings_7 8 rfl ?_
    refine at_getR hO fl_X7_11 rfl rfl dX7_fillPartings_8 11 rfl ?_
    refine at_iload_n hO 1 rfl rfl dX7_fillPartings_11 12 rfl ?_
    obtain ⟨h2, hf⟩ := chk_some hf
    refine at_aaload5 hO rfl (Nat.le_of_ble_eq_true rfl) h2 (30 + v1.toNat) rfl dX7_fillPartings_12 13 rfl ?_
    refine at_iload_n hO 1 rfl rfl dX7_fillPartings_13 14 rfl ?_
    refine at_bipush hO (by decide) dX7_fillPartings_14 16 rfl ?_
    refine at_iastore hO (tb_part (ix_nat h2)) (Nat.le_of_ble_eq_true rfl) h2 (v1.toNat) rfl dX7_fillPartings_16 17 rfl ?_
    refine at_iconst hO dX7_fillPartings_17 18 rfl ?_
    refine at_istore_n hO (lv' := [(2, vi 0), (0, vr G 28), (1, vi v1)]) rfl (Nat.le_of_ble_eq_true rfl) rfl dX7_fillPartings_18 19 rfl ?_
    exact at_sub (fun ls h => lv_sub h [1, 2, 0] rfl) (wL_X7_fillPartings_19 hO hrec2 FU (su s (30 + v1.toNat) v1.toNat 30) v1 0 hf)
theorem wL_X7_fillPartings_2 {X : CX} {G : Ge} {Z : Rt} (hO : rr_OK X G cX7_fillPartings 4 RX7 none 2 44) : ∀ (n : Nat) (s : St) (v1 : Int), L_X7_fillPartings_2 n s v1 = some Z → rr_AT X G 4 0 Z 2 [(0, vr G 28), (1, vi v1)] [] s := by
  intro n
  induction n with
  | zero =>
    intro s v1 hf
    cases hf
  | succ n ih =>
    intro s v1 hf
    exact wS_X7_fillPartings_2 hO ih s v1 hf
def f_X7_fillPartings (s : St) : Option Rt := L_X7_fillPartings_2 FU s 0
set_option maxRecDepth 100000 in
set_option maxHeartbeats 4000000 in
theorem c_X7_fillPartings (l : Launch) (G : Ge) (hG : rr_GD G) (s : St) : rr_Ct l G yX7_fillPartings cX7_fillPartings 4 none 2 44 0 [vr G 28] s (f_X7_fillPartings s ) := by
  refine rr_mk (lv := [(0, vr G 28)]) RX7 (by decide) rfl hG (Nat.le_of_ble_eq_true rfl) rfl ?_
  intro X Z hO hf
  unfold f_X7_fillPartings at hf
  refine at_iconst hO dX7_fillPartings_0 1 rfl ?_
  refine at_istore_n hO (lv' := [(1, vi 0), (0, vr G 28)]) rfl (Nat.le_of_ble_eq_true rfl) rfl dX7_fillPartings_1 2 rfl ?_
  exact at_sub (fun ls h => lv_sub h [1, 0] rfl) (wL_X7_fillPartings_2 hO FU s 0 hf)

def S_X7_fillNextCases_12 (rec2 : St → Int → Int → Option Rt) (rec12 : St → Int → Int → Int → Int → Option Rt) (s : St) (v1 v2 v3 v4 : Int) : Option Rt := chk (in32 v4) (chk (in32 v2) ((if v2 ≤ v4 then chk (in32 v3) ((if v3 = 0 then chk (ix v2 3) (rec2 (su s 34 v2.toNat 0) v1 (v2 + 1)) else chk (ix v2 3) (rec2 (su s 34 v2.toNat (s 33 v2.toNat)) v1 (v2 + 1)))) else chk (in32 v3) ((if v3 = 0 then rec12 s v1 v2 0 (v4 + 1) else chk (ix v2 3) (chk (ix v4 3) (chk (in32 v1) (chk (in32 (s (30 + v2.toNat) v4.toNat)) ((if v1 < (s (30 + v2.toNat) v4.toNat) then rec12 s v1 v2 0 (v4 + 1) else rec12 s v1 v2 1 (v4 + 1)))))))))))
def L_X7_fillNextCases_12 (rec2 : St → Int → Int → Option Rt) : Nat → St → Int → Int → Int → Int → Option Rt
  | 0, _, _, _, _, _ => none
  | n + 1, s, v1, v2, v3, v4 => S_X7_fillNextCases_12 rec2 (L_X7_fillNextCases_12 rec2 n) s v1 v2 v3 v4
set_option maxRecDepth 100000 in
set_option maxHeartbeats 4000000 in
theorem wS_X7_fillNextCases_12 {X : CX} {G : Ge} {Z : Rt} {rec2 : St → Int → Int → Option Rt} {rec12 : St → Int → Int → Int → Int → Option Rt} (hO : rr_OK X G cX7_fillNextCases 5 RX7 none 0 0) (hrec2 : ∀ (s : St) (v1 v2 : Int), rec2 s v1 v2 = some Z → rr_AT X G 5 0 Z 2 [(0, vr G 28), (1, vi v1), (2, vi v2)] [] s) (hrec12 : ∀ (s : St) (v1 v2 v3 v4 : Int), rec12 s v1 v2 v3 v4 = some Z → rr_AT X G 5 0 Z 12 [(0, vr G 28), (1, vi v1), (2, vi v2), (3, vi v3), (4, vi v4)] [] s) (s : St) (v1 v2 v3 v4 : Int) (hf : S_X7_fillNextCases_12 rec2 rec12 s v1 v2 v3 v4 = some Z) : rr_AT X G 5 0 Z 12 [(0, vr G 28), (1, vi v1), (2, vi v2), (3, vi v3), (4, vi v4)] [] s := by
  unfold S_X7_fillNextCases_12 at hf
  refine at_iload hO 4 rfl dX7_fillNextCases_12 14 rfl ?_
  refine at_iload_n hO 2 rfl rfl dX7_fillNextCases_14 15 rfl ?_
  obtain ⟨h1, hf⟩ := chk_some hf
  obtain ⟨h2, hf⟩ := chk_some hf
  refine at_icmp_ge hO h1 h2 dX7_fillNextCases_15 47 rfl 18 rfl hf (fun hf => ?_) (fun hf => ?_)
  · refine at_aload_n hO 0 rfl rfl dX7_fillNextCases_47 48 rfl ?_
    refine at_getR hO fl_X7_20 rfl rfl dX7_fillNextCases_48 51 rfl ?_
    refine at_iload_n hO 2 rfl rfl dX7_fillNextCases_51 52 rfl ?_
    refine at_iload_n hO 3 rfl rfl dX7_fillNextCases_52 53 rfl ?_
    obtain ⟨h3, hf⟩ := chk_some hf
    refine at_if_eq hO h3 dX7_fillNextCases_53 65 rfl 56 rfl hf (fun hf => ?_) (fun hf => ?_)
    · refine at_iconst hO dX7_fillNextCases_65 66 rfl ?_
      obtain ⟨h4, hf⟩ := chk_some hf
      refine at_iastore hO rfl (Nat.le_of_ble_eq_true rfl) h4 (v2.toNat) rfl dX7_fillNextCases_66 67 rfl ?_
      refine at_iinc hO (lv' := [(2, vi (v2 + 1)), (0, vr G 28), (1, vi v1), (3, vi v3), (4, vi v4)]) 2 rfl (Nat.le_of_ble_eq_true rfl) rfl dX7_fillNextCases_67 70 rfl ?_
      refine at_goto hO dX7_fillNextCases_70 2 rfl ?_
      exact at_sub (fun ls h => lv_sub h [1, 2, 0] rfl) (hrec2 (su s 34 v2.toNat 0) v1 (v2 + 1) hf)
    · refine at_aload_n hO 0 rfl rfl dX7_fillNextCases_56 57 rfl ?_
      refine at_getR hO fl_X7_16 rfl rfl dX7_fillNextCases_57 60 rfl ?_
      refine at_iload_n hO 2 rfl rfl dX7_fillNextCases_60 61 rfl ?_
      obtain ⟨h5, hf⟩ := chk_some hf
      refine at_iaload hO rfl (Nat.le_of_ble_eq_true rfl) h5 (v2.toNat) rfl dX7_fillNextCases_61 62 rfl ?_
      refine at_goto hO dX7_fillNextCases_62 66 rfl ?_
      refine at_iastore hO rfl (Nat.le_of_ble_eq_true rfl) h5 (v2.toNat) rfl dX7_fillNextCases_66 67 rfl ?_
      refine at_iinc hO (lv' := [(2, vi (v2 + 1)), (0, vr G 28), (1, vi v1), (3, vi v3), (4, vi v4)]) 2 rfl (Nat.le_of_ble_eq_true rfl) rfl dX7_fillNextCases_67 70 rfl ?_
      refine at_goto hO dX7_fillNextCases_70 2 rfl ?_
      exact at_sub (fun ls h => lv_sub h [1, 2, 0] rfl) (hrec2 (su s 34 v2.toNat (s 33 v2.toNat)) v1 (v2 + 1) hf)
  · refine at_iload_n hO 3 rfl rfl dX7_fillNextCases_18 19 rfl ?_
    obtain ⟨h6, hf⟩ := chk_some hf
    refine at_if_eq hO h6 dX7_fillNextCases_19 39 rfl 22 rfl hf (fun hf => ?_) (fun hf => ?_)
    · refine at_iconst hO dX7_fillNextCases_39 40 rfl ?_
      refine at_istore_n hO (lv' := [(3, vi 0), (0, vr G 28), (1, vi v1), (2, vi v2), (4, vi v4)]) rfl (Nat.le_of_ble_eq_true rfl) rfl dX7_fillNextCases_40 41 rfl ?_
      refine at_iinc hO (lv' := [(4, vi (v4 + 1)), (3, vi 0), (0, vr G 28), (1, vi v1), (2, vi v2)]) 4 rfl (Nat.le_of_ble_eq_true rfl) rfl dX7_fillNextCases_41 44 rfl ?_
      refine at_goto hO dX7_fillNextCases_44 12 rfl ?_
      exact at_sub (fun ls h => lv_sub h [2, 3, 4, 1, 0] rfl) (hrec12 s v1 v2 0 (v4 + 1) hf)
    · refine at_iload_n hO 1 rfl rfl dX7_fillNextCases_22 23 rfl ?_
      refine at_aload_n hO 0 rfl rfl dX7_fillNextCases_23 24 rfl ?_
      refine at_getR hO fl_X7_11 rfl rfl dX7_fillNextCases_24 27 rfl ?_
      refine at_iload_n hO 2 rfl rfl dX7_fillNextCases_27 28 rfl ?_
      obtain ⟨h7, hf⟩ := chk_some hf
      refine at_aaload5 hO rfl (Nat.le_of_ble_eq_true rfl) h7 (30 + v2.toNat) rfl dX7_fillNextCases_28 29 rfl ?_
      refine at_iload hO 4 rfl dX7_fillNextCases_29 31 rfl ?_
      obtain ⟨h8, hf⟩ := chk_some hf
      refine at_iaload hO (tb_part (ix_nat h7)) (Nat.le_of_ble_eq_true rfl) h8 (v4.toNat) rfl dX7_fillNextCases_31 32 rfl ?_
      obtain ⟨h9, hf⟩ := chk_some hf
      obtain ⟨h10, hf⟩ := chk_some hf
      refine at_icmp_lt hO h9 h10 dX7_fillNextCases_32 39 rfl 35 rfl hf (fun hf => ?_) (fun hf => ?_)
      · refine at_iconst hO dX7_fillNextCases_39 40 rfl ?_
        refine at_istore_n hO (lv' := [(3, vi 0), (0, vr G 28), (1, vi v1), (2, vi v2), (4, vi v4)]) rfl (Nat.le_of_ble_eq_true rfl) rfl dX7_fillNextCases_40 41 rfl ?_
        refine at_iinc hO (lv' := [(4, vi (v4 + 1)), (3, vi 0), (0, vr G 28), (1, vi v1), (2, vi v2)]) 4 rfl (Nat.le_of_ble_eq_true rfl) rfl dX7_fillNextCases_41 44 rfl ?_
        refine at_goto hO dX7_fillNextCases_44 12 rfl ?_
        exact at_sub (fun ls h => lv_sub h [2, 3, 4, 1, 0] rfl) (hrec12 s v1 v2 0 (v4 + 1) hf)
      · refine at_iconst hO dX7_fillNextCases_35 36 rfl ?_
        refine at_goto hO dX7_fillNextCases_36 40 rfl ?_
        refine at_istore_n hO (lv' := [(3, vi 1), (0, vr G 28), (1, vi v1), (2, vi v2), (4, vi v4)]) rfl (Nat.le_of_ble_eq_true rfl) rfl dX7_fillNextCases_40 41 rfl ?_
        refine at_iinc hO (lv' := [(4, vi (v4 + 1)), (3, vi 1), (0, vr G 28), (1, vi v1), (2, vi v2)]) 4 rfl (Nat.le_of_ble_eq_true rfl) rfl dX7_fillNextCases_41 44 rfl ?_
        refine at_goto hO dX7_fillNextCases_44 12 rfl ?_
        exact at_sub (fun ls h => lv_sub h [2, 3, 4, 1, 0] rfl) (hrec12 s v1 v2 1 (v4 + 1) hf)
theorem wL_X7_fillNextCases_12 {X : CX} {G : Ge} {Z : Rt} {rec2 : St → Int → Int → Option Rt} (hO : rr_OK X G cX7_fillNextCases 5 RX7 none 0 0) (hrec2 : ∀ (s : St) (v1 v2 : Int), rec2 s v1 v2 = some Z → rr_AT X G 5 0 Z 2 [(0, vr G 28), (1, vi v1), (2, vi v2)] [] s) : ∀ (n : Nat) (s : St) (v1 v2 v3 v4 : Int), L_X7_fillNextCases_12 rec2 n s v1 v2 v3 v4 = some Z → rr_AT X G 5 0 Z 12 [(0, vr G 28), (1, vi v1), (2, vi v2), (3, vi v3), (4, vi v4)] [] s := by
  intro n
  induction n with
  | zero =>
    intro s v1 v2 v3 v4 hf
    cases hf
  | succ n ih =>
    intro s v1 v2 v3 v4 hf
    exact wS_X7_fillNextCases_12 hO hrec2 ih s v1 v2 v3 v4 hf
def S_X7_fillNextCases_2 (rec2 : St → Int → Int → Option Rt) (s : St) (v1 v2 : Int) : Option Rt := chk (in32 v2) ((if 3 ≤ v2 then some (0, s) else L_X7_fillNextCases_12 rec2 FU s v1 v2 1 0))
def L_X7_fillNextCases_2 : Nat → St → Int → Int → Option Rt
  | 0, _, _, _ => none
  | n + 1, s, v1, v2 => S_X7_fillNextCases_2 (L_X7_fillNextCases_2 n) s v1 v2
set_option maxRecDepth 100000 in
set_option maxHeartbeats 4000000 in
theorem wS_X7_fillNextCases_2 {X : CX} {G : Ge} {Z : Rt} {rec2 : St → Int → Int → Option Rt} (hO : rr_OK X G cX7_fillNextCases 5 RX7 none 0 0) (hrec2 : ∀ (s : St) (v1 v2 : Int), rec2 s v1 v2 = some Z → rr_AT X G 5 0 Z 2 [(0, vr G 28), (1, vi v1), (2, vi v2)] [] s) (s : St) (v1 v2 : Int) (hf : S_X7_fillNextCases_2 rec2 s v1 v2 = some Z) : rr_AT X G 5 0 Z 2 [(0, vr G 28), (1, vi v1), (2, vi v2)] [] s := by
  unfold S_X7_fillNextCases_2 at hf
  refine at_iload_n hO 2 rfl rfl dX7_fillNextCases_2 3 rfl ?_
  refine at_iconst hO dX7_fillNextCases_3 4 rfl ?_
  obtain ⟨h1, hf⟩ := chk_some hf
  refine at_icmp_ge hO h1 (by decide) dX7_fillNextCases_4 73 rfl 7 rfl hf (fun hf => ?_) (fun hf => ?_)
  · exact at_return hO dX7_fillNextCases_73 hf
  · refine at_iconst hO dX7_fillNextCases_7 8 rfl ?_
    refine at_istore_n hO (lv' := [(3, vi 1), (0, vr G 28), (1, vi v1), (2, vi v2)]) rfl (Nat.le_of_ble_eq_true rfl) rfl dX7_fillNextCases_8 9 rfl ?_
    refine at_iconst hO dX7_fillNextCases_9 10 rfl ?_
    refine at_istore hO (lv' := [(4, vi 0), (3, vi 1), (0, vr G 28), (1, vi v1), (2, vi v2)]) (Nat.le_of_ble_eq_true rfl) rfl dX7_fillNextCases_10 12 rfl ?_
    exact at_sub (fun ls h => lv_sub h [2, 3, 4, 1, 0] rfl) (wL_X7_fillNextCases_12 hO hrec2 FU s v1 v2 1 0 hf)
theorem wL_X7_fillNextCases_2 {X : CX} {G : Ge} {Z : Rt} (hO : rr_OK X G cX7_fillNextCases 5 RX7 none 0 0) : ∀ (n : Nat) (s : St) (v1 v2 : Int), L_X7_fillNextCases_2 n s v1 v2 = some Z → rr_AT X G 5 0 Z 2 [(0, vr G 28), (1, vi v1), (2, vi v2)] [] s := by
  intro n
  induction n with
  | zero =>
    intro s v1 v2 hf
    cases hf
  | succ n ih =>
    intro s v1 v2 hf
    exact wS_X7_fillNextCases_2 hO ih s v1 v2 hf
def f_X7_fillNextCases (s : St) (p1 : Int) : Option Rt := L_X7_fillNextCases_2 FU s p1 0
set_option maxRecDepth 100000 in
set_option maxHeartbeats 4000000 in
theorem c_X7_fillNextCases (l : Launch) (G : Ge) (hG : rr_GD G) (s : St) (p1 : Int) : rr_Ct l G yX7_fillNextCases cX7_fillNextCases 5 none 0 0 0 [vr G 28, vi p1] s (f_X7_fillNextCases s p1) := by
  refine rr_mk (lv := [(0, vr G 28), (1, vi p1)]) RX7 (by decide) rfl hG (Nat.le_of_ble_eq_true rfl) rfl ?_
  intro X Z hO hf
  unfold f_X7_fillNextCases at hf
  refine at_iconst hO dX7_fillNextCases_0 1 rfl ?_
  refine at_istore_n hO (lv' := [(2, vi 0), (0, vr G 28), (1, vi p1)]) rfl (Nat.le_of_ble_eq_true rfl) rfl dX7_fillNextCases_1 2 rfl ?_
  exact at_sub (fun ls h => lv_sub h [1, 2, 0] rfl) (wL_X7_fillNextCases_2 hO FU s p1 0 hf)

def S_X7_sumOfAlike_6 (q1 : Nat) (rec6 : St → Int → Int → Int → Int → Option Rt) (s : St) (v2 v3 v4 v5 : Int) : Option Rt := chk (in32 v5) ((if 3 ≤ v5 then some (v4, s) else chk (ix v2 3) (chk (ix v5 3) (chk (in32 v3) (chk (in32 (s (30 + v2.toNat) v5.toNat)) ((if (s (30 + v2.toNat) v5.toNat) ≤ v3 then rec6 s v2 v3 (v4 + 0) (v5 + 1) else rec6 s v2 v3 (v4 + (s q1 v5.toNat)) (v5 + 1))))))))
def L_X7_sumOfAlike_6 (q1 : Nat) : Nat → St → Int → Int → Int → Int → Option Rt
  | 0, _, _, _, _, _ => none
  | n + 1, s, v2, v3, v4, v5 => S_X7_sumOfAlike_6 q1 (L_X7_sumOfAlike_6 q1 n) s v2 v3 v4 v5
set_option maxRecDepth 100000 in
set_option maxHeartbeats 4000000 in
theorem wS_X7_sumOfAlike_6 {X : CX} {G : Ge} {Z : Rt} {q1 : Nat} {rec6 : St → Int → Int → Int → Int → Option Rt} (hO : rr_OK X G cX7_sumOfAlike 6 RX7 (some .int) 0 0) (hq1 : rr_TB[q1]? = some (.inl (0, 3))) (hrec6 : ∀ (s : St) (v2 v3 v4 v5 : Int), rec6 s v2 v3 v4 v5 = some Z → rr_AT X G 6 1 Z 6 [(0, vr G 28), (1, vr G q1), (2, vi v2), (3, vi v3), (4, vi v4), (5, vi v5)] [] s) (s : St) (v2 v3 v4 v5 : Int) (hf : S_X7_sumOfAlike_6 q1 rec6 s v2 v3 v4 v5 = some Z) : rr_AT X G 6 1 Z 6 [(0, vr G 28), (1, vr G q1), (2, vi v2), (3, vi v3), (4, vi v4), (5, vi v5)] [] s := by
  unfold S_X7_sumOfAlike_6 at hf
  refine at_iload hO 5 rfl dX7_sumOfAlike_6 8 rfl ?_
  refine at_iconst hO dX7_sumOfAlike_8 9 rfl ?_
  obtain ⟨h1, hf⟩ := chk_some hf
  refine at_icmp_ge hO h1 (by decide) dX7_sumOfAlike_9 44 rfl 12 rfl hf (fun hf => ?_) (fun hf => ?_)
  · refine at_iload hO 4 rfl dX7_sumOfAlike_44 46 rfl ?_
    exact at_ireturn hO dX7_sumOfAlike_46 hf
  · refine at_iload hO 4 rfl dX7_sumOfAlike_12 14 rfl ?_
    refine at_iload_n hO 3 rfl rfl dX7_sumOfAlike_14 15 rfl ?_
    refine at_aload_n hO 0 rfl rfl dX7_sumOfAlike_15 16 rfl ?_
    refine at_getR hO fl_X7_11 rfl rfl dX7_sumOfAlike_16 19 rfl ?_
    refine at_iload_n hO 2 rfl rfl dX7_sumOfAlike_19 20 rfl ?_
    obtain ⟨h2, hf⟩ := chk_some hf
    refine at_aaload5 hO rfl (Nat.le_of_ble_eq_true rfl) h2 (30 + v2.toNat) rfl dX7_sumOfAlike_20 21 rfl ?_
    refine at_iload hO 5 rfl dX7_sumOfAlike_21 23 rfl ?_
    obtain ⟨h3, hf⟩ := chk_some hf
    refine at_iaload hO (tb_part (ix_nat h2)) (Nat.le_of_ble_eq_true rfl) h3 (v5.toNat) rfl dX7_sumOfAlike_23 24 rfl ?_
    obtain ⟨h4, hf⟩ := chk_some hf
    obtain ⟨h5, hf⟩ := chk_some hf
    refine at_icmp_ge hO h4 h5 dX7_sumOfAlike_24 34 rfl 27 rfl hf (fun hf => ?_) (fun hf => ?_)
    · refine at_iconst hO dX7_sumOfAlike_34 35 rfl ?_
      refine at_iadd hO dX7_sumOfAlike_35 36 rfl ?_
      refine at_istore hO (lv' := [(4, vi (v4 + 0)), (0, vr G 28), (1, vr G q1), (2, vi v2), (3, vi v3), (5, vi v5)]) (Nat.le_of_ble_eq_true rfl) rfl dX7_sumOfAlike_36 38 rfl ?_
      refine at_iinc hO (lv' := [(5, vi (v5 + 1)), (4, vi (v4 + 0)), (0, vr G 28), (1, vr G q1), (2, vi v2), (3, vi v3)]) 5 rfl (Nat.le_of_ble_eq_true rfl) rfl dX7_sumOfAlike_38 41 rfl ?_
      refine at_goto hO dX7_sumOfAlike_41 6 rfl ?_
      exact at_sub (fun ls h => lv_sub h [2, 3, 4, 5, 1, 0] rfl) (hrec6 s v2 v3 (v4 + 0) (v5 + 1) hf)
    · refine at_aload_n hO 1 rfl rfl dX7_sumOfAlike_27 28 rfl ?_
      refine at_iload hO 5 rfl dX7_sumOfAlike_28 30 rfl ?_
      refine at_iaload hO hq1 (Nat.le_of_ble_eq_true rfl) h3 (v5.toNat) rfl dX7_sumOfAlike_30 31 rfl ?_
      refine at_goto hO dX7_sumOfAlike_31 35 rfl ?_
      refine at_iadd hO dX7_sumOfAlike_35 36 rfl ?_
      refine at_istore hO (lv' := [(4, vi (v4 + (s q1 v5.toNat))), (0, vr G 28), (1, vr G q1), (2, vi v2), (3, vi v3), (5, vi v5)]) (Nat.le_of_ble_eq_true rfl) rfl dX7_sumOfAlike_36 38 rfl ?_
      refine at_iinc hO (lv' := [(5, vi (v5 + 1)), (4, vi (v4 + (s q1 v5.toNat))), (0, vr G 28), (1, vr G q1), (2, vi v2), (3, vi v3)]) 5 rfl (Nat.le_of_ble_eq_true rfl) rfl dX7_sumOfAlike_38 41 rfl ?_
      refine at_goto hO dX7_sumOfAlike_41 6 rfl ?_
      exact at_sub (fun ls h => lv_sub h [2, 3, 4, 5, 1, 0] rfl) (hrec6 s v2 v3 (v4 + (s q1 v5.toNat)) (v5 + 1) hf)
theorem wL_X7_sumOfAlike_6 {X : CX} {G : Ge} {Z : Rt} {q1 : Nat} (hO : rr_OK X G cX7_sumOfAlike 6 RX7 (some .int) 0 0) (hq1 : rr_TB[q1]? = some (.inl (0, 3))) : ∀ (n : Nat) (s : St) (v2 v3 v4 v5 : Int), L_X7_sumOfAlike_6 q1 n s v2 v3 v4 v5 = some Z → rr_AT X G 6 1 Z 6 [(0, vr G 28), (1, vr G q1), (2, vi v2), (3, vi v3), (4, vi v4), (5, vi v5)] [] s := by
  intro n
  induction n with
  | zero =>
    intro s v2 v3 v4 v5 hf
    cases hf
  | succ n ih =>
    intro s v2 v3 v4 v5 hf
    exact wS_X7_sumOfAlike_6 hO hq1 ih s v2 v3 v4 v5 hf
def f_X7_sumOfAlike (q1 : Nat) (s : St) (p2 p3 : Int) : Option Rt := L_X7_sumOfAlike_6 q1 FU s p2 p3 0 0
set_option maxRecDepth 100000 in
set_option maxHeartbeats 4000000 in
theorem c_X7_sumOfAlike (l : Launch) (G : Ge) (hG : rr_GD G) (q1 : Nat) (hq1 : rr_TB[q1]? = some (.inl (0, 3))) (s : St) (p2 p3 : Int) : rr_Ct l G yX7_sumOfAlike cX7_sumOfAlike 6 (some .int) 0 0 1 [vr G 28, vr G q1, vi p2, vi p3] s (f_X7_sumOfAlike q1 s p2 p3) := by
  refine rr_mk (lv := [(0, vr G 28), (1, vr G q1), (2, vi p2), (3, vi p3)]) RX7 (by decide) rfl hG (Nat.le_of_ble_eq_true rfl) rfl ?_
  intro X Z hO hf
  unfold f_X7_sumOfAlike at hf
  refine at_iconst hO dX7_sumOfAlike_0 1 rfl ?_
  refine at_istore hO (lv' := [(4, vi 0), (0, vr G 28), (1, vr G q1), (2, vi p2), (3, vi p3)]) (Nat.le_of_ble_eq_true rfl) rfl dX7_sumOfAlike_1 3 rfl ?_
  refine at_iconst hO dX7_sumOfAlike_3 4 rfl ?_
  refine at_istore hO (lv' := [(5, vi 0), (4, vi 0), (0, vr G 28), (1, vr G q1), (2, vi p2), (3, vi p3)]) (Nat.le_of_ble_eq_true rfl) rfl dX7_sumOfAlike_4 6 rfl ?_
  exact at_sub (fun ls h => lv_sub h [2, 3, 4, 5, 1, 0] rfl) (wL_X7_sumOfAlike_6 hO hq1 FU s p2 p3 0 0 hf)

def B_X8_roadCost_30 (rec9 : St → Int → Int → Int → Int → Int → Int → Option Rt) (s : St) (v0 v2 v3 v4 v5 v6 t0 : Int) : Option Rt := chk (in32 t0) ((if t0 = 0 then rec9 s v0 v2 v3 (v4 + 1) t0 (v6 + 1) else chk (in32 v5) ((if v5 = 0 then rec9 s v0 v2 v3 (v4 + v3) t0 (v6 + 1) else rec9 s v0 v2 v3 v4 t0 (v6 + 1)))))
set_option maxRecDepth 100000 in
set_option maxHeartbeats 4000000 in
theorem wB_X8_roadCost_30 {X : CX} {G : Ge} {Z : Rt} {rec9 : St → Int → Int → Int → Int → Int → Int → Option Rt} (hO : rr_OK X G cX8_roadCost 8 RX8 (some .int) 0 0) (hrec9 : ∀ (s : St) (v0 v2 v3 v4 v5 v6 : Int), rec9 s v0 v2 v3 v4 v5 v6 = some Z → rr_AT X G 8 1 Z 9 [(0, vi v0), (2, vi v2), (3, vi v3), (4, vi v4), (5, vi v5), (6, vi v6)] [] s) (s : St) (v0 v2 v3 v4 v5 v6 t0 : Int) (hf : B_X8_roadCost_30 rec9 s v0 v2 v3 v4 v5 v6 t0 = some Z) : rr_AT X G 8 1 Z 30 [(0, vi v0), (2, vi v2), (3, vi v3), (4, vi v4), (5, vi v5), (6, vi v6)] [vi t0] s := by
  unfold B_X8_roadCost_30 at hf
  refine at_istore hO (lv' := [(7, vi t0), (0, vi v0), (2, vi v2), (3, vi v3), (4, vi v4), (5, vi v5), (6, vi v6)]) (Nat.le_of_ble_eq_true rfl) rfl dX8_roadCost_30 32 rfl ?_
  refine at_iload hO 0 rfl dX8_roadCost_32 34 rfl ?_
  obtain ⟨h1, hf⟩ := chk_some hf
  refine at_if_ne hO h1 dX8_roadCost_34 43 rfl 37 rfl hf (fun hf => ?_) (fun hf => ?_)
  · refine at_iload hO 5 rfl dX8_roadCost_43 45 rfl ?_
    obtain ⟨h2, hf⟩ := chk_some hf
    refine at_if_ne hO h2 dX8_roadCost_45 54 rfl 48 rfl hf (fun hf => ?_) (fun hf => ?_)
    · refine at_iload hO 0 rfl dX8_roadCost_54 56 rfl ?_
      refine at_istore hO (lv' := [(5, vi t0), (7, vi t0), (0, vi v0), (2, vi v2), (3, vi v3), (4, vi v4), (6, vi v6)]) (Nat.le_of_ble_eq_true rfl) rfl dX8_roadCost_56 58 rfl ?_
      refine at_iinc hO (lv' := [(6, vi (v6 + 1)), (5, vi t0), (7, vi t0), (0, vi v0), (2, vi v2), (3, vi v3), (4, vi v4)]) 6 rfl (Nat.le_of_ble_eq_true rfl) rfl dX8_roadCost_58 61 rfl ?_
      refine at_goto hO dX8_roadCost_61 9 rfl ?_
      exact at_sub (fun ls h => lv_sub h [3, 4, 5, 6, 1, 0] rfl) (hrec9 s v0 v2 v3 v4 t0 (v6 + 1) hf)
    · refine at_iload hO 4 rfl dX8_roadCost_48 50 rfl ?_
      refine at_iload_n hO 3 rfl rfl dX8_roadCost_50 51 rfl ?_
      refine at_iadd hO dX8_roadCost_51 52 rfl ?_
      refine at_istore hO (lv' := [(4, vi (v4 + v3)), (7, vi t0), (0, vi v0), (2, vi v2), (3, vi v3), (5, vi v5), (6, vi v6)]) (Nat.le_of_ble_eq_true rfl) rfl dX8_roadCost_52 54 rfl ?_
      refine at_iload hO 1 rfl dX8_roadCost_54 56 rfl ?_
      refine at_istore hO (lv' := [(5, vi t0), (4, vi (v4 + v3)), (7, vi t0), (0, vi v0), (2, vi v2), (3, vi v3), (6, vi v6)]) (Nat.le_of_ble_eq_true rfl) rfl dX8_roadCost_56 58 rfl ?_
      refine at_iinc hO (lv' := [(6, vi (v6 + 1)), (5, vi t0), (4, vi (v4 + v3)), (7, vi t0), (0, vi v0), (2, vi v2), (3, vi v3)]) 6 rfl (Nat.le_of_ble_eq_true rfl) rfl dX8_roadCost_58 61 rfl ?_
      refine at_goto hO dX8_roadCost_61 9 rfl ?_
      exact at_sub (fun ls h => lv_sub h [4, 5, 6, 2, 1, 0] rfl) (hrec9 s v0 v2 v3 (v4 + v3) t0 (v6 + 1) hf)
  · refine at_iinc hO (lv' := [(4, vi (v4 + 1)), (7, vi t0), (0, vi v0), (2, vi v2), (3, vi v3), (5, vi v5), (6, vi v6)]) 4 rfl (Nat.le_of_ble_eq_true rfl) rfl dX8_roadCost_37 40 rfl ?_
    refine at_goto hO dX8_roadCost_40 54 rfl ?_
    refine at_iload hO 1 rfl dX8_roadCost_54 56 rfl ?_
    refine at_istore hO (lv' := [(5, vi t0), (4, vi (v4 + 1)), (7, vi t0), (0, vi v0), (2, vi v2), (3, vi v3), (6, vi v6)]) (Nat.le_of_ble_eq_true rfl) rfl dX8_roadCost_56 58 rfl ?_
    refine at_iinc hO (lv' := [(6, vi (v6 + 1)), (5, vi t0), (4, vi (v4 + 1)), (7, vi t0), (0, vi v0), (2, vi v2), (3, vi v3)]) 6 rfl (Nat.le_of_ble_eq_true rfl) rfl dX8_roadCost_58 61 rfl ?_
    refine at_goto hO dX8_roadCost_61 9 rfl ?_
    exact at_sub (fun ls h => lv_sub h [4, 5, 6, 2, 1, 0] rfl) (hrec9 s v0 v2 v3 (v4 + 1) t0 (v6 + 1) hf)
def S_X8_roadCost_9 (rec9 : St → Int → Int → Int → Int → Int → Int → Option Rt) (s : St) (v0 v2 v3 v4 v5 v6 : Int) : Option Rt := chk (in32 v6) (chk (in32 v2) ((if v2 < v6 then some (v4, s) else chk (in32 (andZ (shrZ v0 v6) 1)) ((if (andZ (shrZ v0 v6) 1) = 1 then B_X8_roadCost_30 rec9 s v0 v2 v3 v4 v5 v6 1 else B_X8_roadCost_30 rec9 s v0 v2 v3 v4 v5 v6 0)))))
def L_X8_roadCost_9 : Nat → St → Int → Int → Int → Int → Int → Int → Option Rt
  | 0, _, _, _, _, _, _, _ => none
  | n + 1, s, v0, v2, v3, v4, v5, v6 => S_X8_roadCost_9 (L_X8_roadCost_9 n) s v0 v2 v3 v4 v5 v6
set_option maxRecDepth 100000 in
set_option maxHeartbeats 4000000 in
theorem wS_X8_roadCost_9 {X : CX} {G : Ge} {Z : Rt} {rec9 : St → Int → Int → Int → Int → Int → Int → Option Rt} (hO : rr_OK X G cX8_roadCost 8 RX8 (some .int) 0 0) (hrec9 : ∀ (s : St) (v0 v2 v3 v4 v5 v6 : Int), rec9 s v0 v2 v3 v4 v5 v6 = some Z → rr_AT X G 8 1 Z 9 [(0, vi v0), (2, vi v2), (3, vi v3), (4, vi v4), (5, vi v5), (6, vi v6)] [] s) (s : St) (v0 v2 v3 v4 v5 v6 : Int) (hf : S_X8_roadCost_9 rec9 s v0 v2 v3 v4 v5 v6 = some Z) : rr_AT X G 8 1 Z 9 [(0, vi v0), (2, vi v2), (3, vi v3), (4, vi v4), (5, vi v5), (6, vi v6)] [] s := by
  unfold S_X8_roadCost_9 at hf
  refine at_iload hO 5 rfl dX8_roadCost_9 11 rfl ?_
  refine at_iload_n hO 1 rfl rfl dX8_roadCost_11 12 rfl ?_
  obtain ⟨h1, hf⟩ := chk_some hf
  obtain ⟨h2, hf⟩ := chk_some hf
  refine at_icmp_gt hO h1 h2 dX8_roadCost_12 64 rfl 15 rfl hf (fun hf => ?_) (fun hf => ?_)
  · refine at_iload hO 3 rfl dX8_roadCost_64 66 rfl ?_
    exact at_ireturn hO dX8_roadCost_66 hf
  · refine at_iload_n hO 0 rfl rfl dX8_roadCost_15 16 rfl ?_
    refine at_iload hO 5 rfl dX8_roadCost_16 18 rfl ?_
    refine at_ishr hO dX8_roadCost_18 19 rfl ?_
    refine at_iconst hO dX8_roadCost_19 20 rfl ?_
    refine at_iand hO dX8_roadCost_20 21 rfl ?_
    refine at_iconst hO dX8_roadCost_21 22 rfl ?_
    obtain ⟨h3, hf⟩ := chk_some hf
    refine at_icmp_ne hO h3 (by decide) dX8_roadCost_22 29 rfl 25 rfl hf (fun hf => ?_) (fun hf => ?_)
    · refine at_iconst hO dX8_roadCost_29 30 rfl ?_
      exact at_sub (fun ls h => lv_sub h [0, 1, 2, 3, 4, 5] rfl) (wB_X8_roadCost_30 hO hrec9 s v0 v2 v3 v4 v5 v6 0 hf)
    · refine at_iconst hO dX8_roadCost_25 26 rfl ?_
      refine at_goto hO dX8_roadCost_26 30 rfl ?_
      exact at_sub (fun ls h => lv_sub h [0, 1, 2, 3, 4, 5] rfl) (wB_X8_roadCost_30 hO hrec9 s v0 v2 v3 v4 v5 v6 1 hf)
theorem wL_X8_roadCost_9 {X : CX} {G : Ge} {Z : Rt} (hO : rr_OK X G cX8_roadCost 8 RX8 (some .int) 0 0) : ∀ (n : Nat) (s : St) (v0 v2 v3 v4 v5 v6 : Int), L_X8_roadCost_9 n s v0 v2 v3 v4 v5 v6 = some Z → rr_AT X G 8 1 Z 9 [(0, vi v0), (2, vi v2), (3, vi v3), (4, vi v4), (5, vi v5), (6, vi v6)] [] s := by
  intro n
  induction n with
  | zero =>
    intro s v0 v2 v3 v4 v5 v6 hf
    cases hf
  | succ n ih =>
    intro s v0 v2 v3 v4 v5 v6 hf
    exact wS_X8_roadCost_9 hO ih s v0 v2 v3 v4 v5 v6 hf
def f_X8_roadCost (s : St) (p1 p2 p3 p4 : Int) : Option Rt := L_X8_roadCost_9 FU s p1 p3 p4 0 0 p2
set_option maxRecDepth 100000 in
set_option maxHeartbeats 4000000 in
theorem c_X8_roadCost (l : Launch) (G : Ge) (hG : rr_GD G) (s : St) (p1 p2 p3 p4 : Int) : rr_Ct l G yX8_roadCost cX8_roadCost 8 (some .int) 0 0 1 [vi p1, vi p2, vi p3, vi p4] s (f_X8_roadCost s p1 p2 p3 p4) := by
  refine rr_mk (lv := [(0, vi p1), (1, vi p2), (2, vi p3), (3, vi p4)]) RX8 (by decide) rfl hG (Nat.le_of_ble_eq_true rfl) rfl ?_
  intro X Z hO hf
  unfold f_X8_roadCost at hf
  refine at_iconst hO dX8_roadCost_0 1 rfl ?_
  refine at_istore hO (lv' := [(4, vi 0), (0, vi p1), (1, vi p2), (2, vi p3), (3, vi p4)]) (Nat.le_of_ble_eq_true rfl) rfl dX8_roadCost_1 3 rfl ?_
  refine at_iconst hO dX8_roadCost_3 4 rfl ?_
  refine at_istore hO (lv' := [(5, vi 0), (4, vi 0), (0, vi p1), (1, vi p2), (2, vi p3), (3, vi p4)]) (Nat.le_of_ble_eq_true rfl) rfl dX8_roadCost_4 6 rfl ?_
  refine at_iload_n hO 3 rfl rfl dX8_roadCost_6 7 rfl ?_
  refine at_istore hO (lv' := [(6, vi p2), (5, vi 0), (4, vi 0), (0, vi p1), (1, vi p2), (2, vi p3), (3, vi p4)]) (Nat.le_of_ble_eq_true rfl) rfl dX8_roadCost_7 9 rfl ?_
  exact at_sub (fun ls h => lv_sub h [3, 5, 6, 2, 1, 0] rfl) (wL_X8_roadCost_9 hO FU s p1 p3 p4 0 0 p2 hf)
