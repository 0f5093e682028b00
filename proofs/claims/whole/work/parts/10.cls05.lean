def B_X8_contract_56 (s : St) (v1 v2 v3 v4 t0 : Int) : Option Rt := cll (f_X0_sign s v1 v2 v3 v4) (fun _ s2 => some (t0, s2))
set_option maxRecDepth 100000 in
set_option maxHeartbeats 4000000 in
theorem wB_X8_contract_56 {X : CX} {G : Ge} {Z : Rt} (hO : rr_OK X G cX8_contract 6 RX8 (some .int) 2 45) (s : St) (v1 v2 v3 v4 t0 : Int) (hf : B_X8_contract_56 s v1 v2 v3 v4 t0 = some Z) : rr_AT X G 6 1 Z 56 [(0, vr G 0), (1, vi v1), (2, vi v2), (3, vi v3), (4, vi v4)] [vi t0] s := by
  unfold B_X8_contract_56 at hf
  refine at_istore hO (lv' := [(5, vi t0), (0, vr G 0), (1, vi v1), (2, vi v2), (3, vi v3), (4, vi v4)]) (Nat.le_of_ble_eq_true rfl) rfl dX8_contract_56 58 rfl ?_
  refine at_aload_n hO 1 rfl rfl dX8_contract_58 59 rfl ?_
  refine at_getR hO fl_X8_61 rfl rfl dX8_contract_59 62 rfl ?_
  refine at_iload_n hO 2 rfl rfl dX8_contract_62 63 rfl ?_
  refine at_iload_n hO 3 rfl rfl dX8_contract_63 64 rfl ?_
  refine at_iload_n hO 4 rfl rfl dX8_contract_64 65 rfl ?_
  refine at_iload hO 5 rfl dX8_contract_65 67 rfl ?_
  refine at_callV0 (As := [vi v1, vi v2, vi v3, vi v4]) (st := []) hO (c_X0_sign _ G hO.g s v1 v2 v3 v4) mb_X0_sign mi_X0_sign lk_X8_232 rfl ⟨_, rfl, rfl⟩ rfl ⟨(Nat.le_of_ble_eq_true rfl), (Nat.le_of_ble_eq_true rfl)⟩ (Nat.le_of_ble_eq_true rfl) rfl dX8_contract_67 70 rfl hf (fun r1 s2 hf => ?_)
  refine at_iload hO 0 rfl dX8_contract_70 72 rfl ?_
  exact at_ireturn hO dX8_contract_72 hf
def f_X8_contract (s : St) (p1 p2 p3 p4 : Int) : Option Rt := cll (f_X8_inside s p1 8) (fun r1 s2 => chk (in32 r1) ((if r1 = 0 then some ((-2), s2) else cll (f_X8_inside s2 p2 30) (fun r4 s5 => chk (in32 r4) ((if r4 = 0 then some ((-2), s5) else cll (f_X8_inside s5 p3 100) (fun r7 s8 => chk (in32 r7) ((if r7 = 0 then some ((-2), s8) else cll (f_X8_inside s8 p4 100) (fun r10 s11 => chk (in32 r10) ((if r10 = 0 then some ((-2), s11) else cll (f_X0_isSigned s11 p1) (fun r13 s14 => chk (in32 r13) ((if r13 = 0 then B_X8_contract_56 s14 p1 p2 p3 p4 0 else B_X8_contract_56 s14 p1 p2 p3 p4 1)))))))))))))))
set_option maxRecDepth 100000 in
set_option maxHeartbeats 4000000 in
theorem c_X8_contract (l : Launch) (G : Ge) (hG : rr_GD G) (s : St) (p1 p2 p3 p4 : Int) : rr_Ct l G yX8_contract cX8_contract 6 (some .int) 2 45 1 [vr G 0, vi p1, vi p2, vi p3, vi p4] s (f_X8_contract s p1 p2 p3 p4) := by
  refine rr_mk (lv := [(0, vr G 0), (1, vi p1), (2, vi p2), (3, vi p3), (4, vi p4)]) RX8 (by decide) rfl hG (Nat.le_of_ble_eq_true rfl) rfl ?_
  intro X Z hO hf
  unfold f_X8_contract at hf
  refine at_iload_n hO 1 rfl rfl dX8_contract_0 1 rfl ?_
  refine at_bipush hO (by decide) dX8_contract_1 3 rfl ?_
  refine at_callS1 (As := [vi p1, vi 8]) (st := []) hO (c_X8_inside _ G hO.g s p1 8) mb_X8_inside ms_X8_inside lk_X8_89 rfl ⟨(Nat.le_of_ble_eq_true rfl), (Nat.le_of_ble_eq_true rfl)⟩ (Nat.le_of_ble_eq_true rfl) rfl dX8_contract_3 6 rfl hf (fun r1 s2 hf => ?_)
  obtain ⟨h3, hf⟩ := chk_some hf
  refine at_if_eq hO h3 dX8_contract_6 37 rfl 9 rfl hf (fun hf => ?_) (fun hf => ?_)
  · refine at_bipush hO (by decide) dX8_contract_37 39 rfl ?_
    exact at_ireturn hO dX8_contract_39 hf
  · refine at_iload_n hO 2 rfl rfl dX8_contract_9 10 rfl ?_
    refine at_bipush hO (by decide) dX8_contract_10 12 rfl ?_
    refine at_callS1 (As := [vi p2, vi 30]) (st := []) hO (c_X8_inside _ G hO.g s2 p2 30) mb_X8_inside ms_X8_inside lk_X8_89 rfl ⟨(Nat.le_of_ble_eq_true rfl), (Nat.le_of_ble_eq_true rfl)⟩ (Nat.le_of_ble_eq_true rfl) rfl dX8_contract_12 15 rfl hf (fun r4 s5 hf => ?_)
    obtain ⟨h6, hf⟩ := chk_some hf
    refine at_if_eq hO h6 dX8_contract_15 37 rfl 18 rfl hf (fun hf => ?_) (fun hf => ?_)
    · refine at_bipush hO (by decide) dX8_contract_37 39 rfl ?_
      exact at_ireturn hO dX8_contract_39 hf
    · refine at_iload_n hO 3 rfl rfl dX8_contract_18 19 rfl ?_
      refine at_bipush hO (by decide) dX8_contract_19 21 rfl ?_
      refine at_callS1 (As := [vi p3, vi 100]) (st := []) hO (c_X8_inside _ G hO.g s5 p3 100) mb_X8_inside ms_X8_inside lk_X8_89 rfl ⟨(Nat.le_of_ble_eq_true rfl), (Nat.le_of_ble_eq_true rfl)⟩ (Nat.le_of_ble_eq_true rfl) rfl dX8_contract_21 24 rfl hf (fun r7 s8 hf => ?_)
      obtain ⟨h9, hf⟩ := chk_some hf
      refine at_if_eq hO h9 dX8_contract_24 37 rfl 27 rfl hf (fun hf => ?_) (fun hf => ?_)
      · refine at_bipush hO (by decide) dX8_contract_37 39 rfl ?_
        exact at_ireturn hO dX8_contract_39 hf
      · refine at_iload hO 4 rfl dX8_contract_27 29 rfl ?_
        refine at_bipush hO (by decide) dX8_contract_29 31 rfl ?_
        refine at_callS1 (As := [vi p4, vi 100]) (st := []) hO (c_X8_inside _ G hO.g s8 p4 100) mb_X8_inside ms_X8_inside lk_X8_89 rfl ⟨(Nat.le_of_ble_eq_true rfl), (Nat.le_of_ble_eq_true rfl)⟩ (Nat.le_of_ble_eq_true rfl) rfl dX8_contract_31 34 rfl hf (fun r10 s11 hf => ?_)
        obtain ⟨h12, hf⟩ := chk_some hf
        refine at_if_ne hO h12 dX8_contract_34 40 rfl 37 rfl hf (fun hf => ?_) (fun hf => ?_)
        · refine at_aload_n hO 0 rfl rfl dX8_contract_40 41 rfl ?_
          refine at_getR hO fl_X8_61 rfl rfl dX8_contract_41 44 rfl ?_
          refine at_iload_n hO 1 rfl rfl dX8_contract_44 45 rfl ?_
          refine at_callV1 (As := [vi p1]) (st := []) hO (c_X0_isSigned _ G hO.g s11 p1) mb_X0_isSigned mi_X0_isSigned lk_X8_229 rfl ⟨_, rfl, rfl⟩ rfl ⟨(Nat.le_of_ble_eq_true rfl), (Nat.le_of_ble_eq_true rfl)⟩ (Nat.le_of_ble_eq_true rfl) rfl dX8_contract_45 48 rfl hf (fun r13 s14 hf => ?_)
          obtain ⟨h15, hf⟩ := chk_some hf
          refine at_if_eq hO h15 dX8_contract_48 55 rfl 51 rfl hf (fun hf => ?_) (fun hf => ?_)
          · refine at_iconst hO dX8_contract_55 56 rfl ?_
            exact at_sub (fun ls h => lv_sub h [0, 1, 2, 3, 4] rfl) (wB_X8_contract_56 hO s14 p1 p2 p3 p4 0 hf)
          · refine at_iconst hO dX8_contract_51 52 rfl ?_
            refine at_goto hO dX8_contract_52 56 rfl ?_
            exact at_sub (fun ls h => lv_sub h [0, 1, 2, 3, 4] rfl) (wB_X8_contract_56 hO s14 p1 p2 p3 p4 1 hf)
        · refine at_bipush hO (by decide) dX8_contract_37 39 rfl ?_
          exact at_ireturn hO dX8_contract_39 hf

def B_X8_tears_28 (s : St) (v1 t0 : Int) : Option Rt := cll (f_X0_tearUp s v1) (fun _ s2 => some (t0, s2))
set_option maxRecDepth 100000 in
set_option maxHeartbeats 4000000 in
theorem wB_X8_tears_28 {X : CX} {G : Ge} {Z : Rt} (hO : rr_OK X G cX8_tears 3 RX8 (some .int) 1 21) (s : St) (v1 t0 : Int) (hf : B_X8_tears_28 s v1 t0 = some Z) : rr_AT X G 3 1 Z 28 [(0, vr G 0), (1, vi v1)] [vi t0] s := by
  unfold B_X8_tears_28 at hf
  refine at_istore_n hO (lv' := [(2, vi t0), (0, vr G 0), (1, vi v1)]) rfl (Nat.le_of_ble_eq_true rfl) rfl dX8_tears_28 29 rfl ?_
  refine at_aload_n hO 1 rfl rfl dX8_tears_29 30 rfl ?_
  refine at_getR hO fl_X8_61 rfl rfl dX8_tears_30 33 rfl ?_
  refine at_iload_n hO 2 rfl rfl dX8_tears_33 34 rfl ?_
  refine at_callV0 (As := [vi v1]) (st := []) hO (c_X0_tearUp _ G hO.g s v1) mb_X0_tearUp mi_X0_tearUp lk_X8_236 rfl ⟨_, rfl, rfl⟩ rfl ⟨(Nat.le_of_ble_eq_true rfl), (Nat.le_of_ble_eq_true rfl)⟩ (Nat.le_of_ble_eq_true rfl) rfl dX8_tears_34 37 rfl hf (fun r1 s2 hf => ?_)
  refine at_iload_n hO 0 rfl rfl dX8_tears_37 38 rfl ?_
  exact at_ireturn hO dX8_tears_38 hf
def f_X8_tears (s : St) (p1 : Int) : Option Rt := cll (f_X8_inside s p1 8) (fun r1 s2 => chk (in32 r1) ((if r1 = 0 then some ((-2), s2) else cll (f_X0_isSigned s2 p1) (fun r4 s5 => chk (in32 r4) ((if r4 = 0 then B_X8_tears_28 s5 p1 0 else B_X8_tears_28 s5 p1 1))))))
set_option maxRecDepth 100000 in
set_option maxHeartbeats 4000000 in
theorem c_X8_tears (l : Launch) (G : Ge) (hG : rr_GD G) (s : St) (p1 : Int) : rr_Ct l G yX8_tears cX8_tears 3 (some .int) 1 21 1 [vr G 0, vi p1] s (f_X8_tears s p1) := by
  refine rr_mk (lv := [(0, vr G 0), (1, vi p1)]) RX8 (by decide) rfl hG (Nat.le_of_ble_eq_true rfl) rfl ?_
  intro X Z hO hf
  unfold f_X8_tears at hf
  refine at_iload_n hO 1 rfl rfl dX8_tears_0 1 rfl ?_
  refine at_bipush hO (by decide) dX8_tears_1 3 rfl ?_
  refine at_callS1 (As := [vi p1, vi 8]) (st := []) hO (c_X8_inside _ G hO.g s p1 8) mb_X8_inside ms_X8_inside lk_X8_89 rfl ⟨(Nat.le_of_ble_eq_true rfl), (Nat.le_of_ble_eq_true rfl)⟩ (Nat.le_of_ble_eq_true rfl) rfl dX8_tears_3 6 rfl hf (fun r1 s2 hf => ?_)
  obtain ⟨h3, hf⟩ := chk_some hf
  refine at_if_ne hO h3 dX8_tears_6 12 rfl 9 rfl hf (fun hf => ?_) (fun hf => ?_)
  · refine at_aload_n hO 0 rfl rfl dX8_tears_12 13 rfl ?_
    refine at_getR hO fl_X8_61 rfl rfl dX8_tears_13 16 rfl ?_
    refine at_iload_n hO 1 rfl rfl dX8_tears_16 17 rfl ?_
    refine at_callV1 (As := [vi p1]) (st := []) hO (c_X0_isSigned _ G hO.g s2 p1) mb_X0_isSigned mi_X0_isSigned lk_X8_229 rfl ⟨_, rfl, rfl⟩ rfl ⟨(Nat.le_of_ble_eq_true rfl), (Nat.le_of_ble_eq_true rfl)⟩ (Nat.le_of_ble_eq_true rfl) rfl dX8_tears_17 20 rfl hf (fun r4 s5 hf => ?_)
    obtain ⟨h6, hf⟩ := chk_some hf
    refine at_if_eq hO h6 dX8_tears_20 27 rfl 23 rfl hf (fun hf => ?_) (fun hf => ?_)
    · refine at_iconst hO dX8_tears_27 28 rfl ?_
      exact at_sub (fun ls h => lv_sub h [0, 1] rfl) (wB_X8_tears_28 hO s5 p1 0 hf)
    · refine at_iconst hO dX8_tears_23 24 rfl ?_
      refine at_goto hO dX8_tears_24 28 rfl ?_
      exact at_sub (fun ls h => lv_sub h [0, 1] rfl) (wB_X8_tears_28 hO s5 p1 1 hf)
  · refine at_bipush hO (by decide) dX8_tears_9 11 rfl ?_
    exact at_ireturn hO dX8_tears_11 hf

def f_X8_never (s : St) (p1 : Int) : Option Rt := cll (f_X8_inside s p1 2) (fun r1 s2 => chk (in32 r1) ((if r1 = 0 then some ((-2), s2) else cll (f_X6_refresh s2) (fun _ s5 => cll (f_X0_reckon s5) (fun _ s7 => chk (in32 p1) ((if p1 = 0 then some ((s7 37 7), s7) else some ((s7 37 8), s7))))))))
set_option maxRecDepth 100000 in
set_option maxHeartbeats 4000000 in
theorem c_X8_never (l : Launch) (G : Ge) (hG : rr_GD G) (s : St) (p1 : Int) : rr_Ct l G yX8_never cX8_never 2 (some .int) 5 113 1 [vr G 0, vi p1] s (f_X8_never s p1) := by
  refine rr_mk (lv := [(0, vr G 0), (1, vi p1)]) RX8 (by decide) rfl hG (Nat.le_of_ble_eq_true rfl) rfl ?_
  intro X Z hO hf
  unfold f_X8_never at hf
  refine at_iload_n hO 1 rfl rfl dX8_never_0 1 rfl ?_
  refine at_iconst hO dX8_never_1 2 rfl ?_
  refine at_callS1 (As := [vi p1, vi 2]) (st := []) hO (c_X8_inside _ G hO.g s p1 2) mb_X8_inside ms_X8_inside lk_X8_89 rfl ⟨(Nat.le_of_ble_eq_true rfl), (Nat.le_of_ble_eq_true rfl)⟩ (Nat.le_of_ble_eq_true rfl) rfl dX8_never_2 5 rfl hf (fun r1 s2 hf => ?_)
  obtain ⟨h3, hf⟩ := chk_some hf
  refine at_if_ne hO h3 dX8_never_5 11 rfl 8 rfl hf (fun hf => ?_) (fun hf => ?_)
  · refine at_aload_n hO 0 rfl rfl dX8_never_11 12 rfl ?_
    refine at_getR hO fl_X8_34 rfl rfl dX8_never_12 15 rfl ?_
    refine at_callV0 (As := []) (st := []) hO (c_X6_refresh _ G hO.g s2 ) mb_X6_refresh mi_X6_refresh lk_X8_127 rfl ⟨_, rfl, rfl⟩ rfl ⟨(Nat.le_of_ble_eq_true rfl), (Nat.le_of_ble_eq_true rfl)⟩ (Nat.le_of_ble_eq_true rfl) rfl dX8_never_15 18 rfl hf (fun r4 s5 hf => ?_)
    refine at_aload_n hO 0 rfl rfl dX8_never_18 19 rfl ?_
    refine at_getR hO fl_X8_61 rfl rfl dX8_never_19 22 rfl ?_
    refine at_callV0 (As := []) (st := []) hO (c_X0_reckon _ G hO.g s5 ) mb_X0_reckon mi_X0_reckon lk_X8_239 rfl ⟨_, rfl, rfl⟩ rfl ⟨(Nat.le_of_ble_eq_true rfl), (Nat.le_of_ble_eq_true rfl)⟩ (Nat.le_of_ble_eq_true rfl) rfl dX8_never_22 25 rfl hf (fun r6 s7 hf => ?_)
    refine at_iload_n hO 1 rfl rfl dX8_never_25 26 rfl ?_
    obtain ⟨h8, hf⟩ := chk_some hf
    refine at_if_ne hO h8 dX8_never_26 39 rfl 29 rfl hf (fun hf => ?_) (fun hf => ?_)
    · refine at_aload_n hO 0 rfl rfl dX8_never_39 40 rfl ?_
      refine at_getR hO fl_X8_61 rfl rfl dX8_never_40 43 rfl ?_
      refine at_getIN hO fl_X8_244 rfl rfl dX8_never_43 46 rfl ?_
      exact at_ireturn hO dX8_never_46 hf
    · refine at_aload_n hO 0 rfl rfl dX8_never_29 30 rfl ?_
      refine at_getR hO fl_X8_61 rfl rfl dX8_never_30 33 rfl ?_
      refine at_getIN hO fl_X8_241 rfl rfl dX8_never_33 36 rfl ?_
      refine at_goto hO dX8_never_36 46 rfl ?_
      exact at_ireturn hO dX8_never_46 hf
  · refine at_bipush hO (by decide) dX8_never_8 10 rfl ?_
    exact at_ireturn hO dX8_never_10 hf

def S_X8_allChances_4 (rec4 : St → Int → Int → Option Rt) (s : St) (v1 v2 : Int) : Option Rt := chk (in32 v2) ((if 3 ≤ v2 then some (v1, s) else chk (ix v2 3) (rec4 s (v1 + (s 11 v2.toNat)) (v2 + 1))))
def L_X8_allChances_4 : Nat → St → Int → Int → Option Rt
  | 0, _, _, _ => none
  | n + 1, s, v1, v2 => S_X8_allChances_4 (L_X8_allChances_4 n) s v1 v2
set_option maxRecDepth 100000 in
set_option maxHeartbeats 4000000 in
theorem wS_X8_allChances_4 {X : CX} {G : Ge} {Z : Rt} {rec4 : St → Int → Int → Option Rt} (hO : rr_OK X G cX8_allChances 3 RX8 (some .int) 0 0) (hrec4 : ∀ (s : St) (v1 v2 : Int), rec4 s v1 v2 = some Z → rr_AT X G 3 1 Z 4 [(0, vr G 0), (1, vi v1), (2, vi v2)] [] s) (s : St) (v1 v2 : Int) (hf : S_X8_allChances_4 rec4 s v1 v2 = some Z) : rr_AT X G 3 1 Z 4 [(0, vr G 0), (1, vi v1), (2, vi v2)] [] s := by
  unfold S_X8_allChances_4 at hf
  refine at_iload_n hO 2 rfl rfl dX8_allChances_4 5 rfl ?_
  refine at_iconst hO dX8_allChances_5 6 rfl ?_
  obtain ⟨h1, hf⟩ := chk_some hf
  refine at_icmp_ge hO h1 (by decide) dX8_allChances_6 24 rfl 9 rfl hf (fun hf => ?_) (fun hf => ?_)
  · refine at_iload_n hO 1 rfl rfl dX8_allChances_24 25 rfl ?_
    exact at_ireturn hO dX8_allChances_25 hf
  · refine at_iload_n hO 1 rfl rfl dX8_allChances_9 10 rfl ?_
    refine at_aload_n hO 0 rfl rfl dX8_allChances_10 11 rfl ?_
    refine at_getR hO fl_X8_19 rfl rfl dX8_allChances_11 14 rfl ?_
    refine at_iload_n hO 2 rfl rfl dX8_allChances_14 15 rfl ?_
    obtain ⟨h2, hf⟩ := chk_some hf
    refine at_iaload hO rfl (Nat.le_of_ble_eq_true rfl) h2 (v2.toNat) rfl dX8_allChances_15 16 rfl ?_
    refine at_iadd hO dX8_allChances_16 17 rfl ?_
    refine at_istore_n hO (lv' := [(1, vi (v1 + (s 11 v2.toNat))), (0, vr G 0), (2, vi v2)]) rfl (Nat.le_of_ble_eq_true rfl) rfl dX8_allChances_17 18 rfl ?_
    refine at_iinc hO (lv' := [(2, vi (v2 + 1)), (1, vi (v1 + (s 11 v2.toNat))), (0, vr G 0)]) 2 rfl (Nat.le_of_ble_eq_true rfl) rfl dX8_allChances_18 21 rfl ?_
    refine at_goto hO dX8_allChances_21 4 rfl ?_
    exact at_sub (fun ls h => lv_sub h [2, 1, 0] rfl) (hrec4 s (v1 + (s 11 v2.toNat)) (v2 + 1) hf)
theorem wL_X8_allChances_4 {X : CX} {G : Ge} {Z : Rt} (hO : rr_OK X G cX8_allChances 3 RX8 (some .int) 0 0) : ∀ (n : Nat) (s : St) (v1 v2 : Int), L_X8_allChances_4 n s v1 v2 = some Z → rr_AT X G 3 1 Z 4 [(0, vr G 0), (1, vi v1), (2, vi v2)] [] s := by
  intro n
  induction n with
  | zero =>
    intro s v1 v2 hf
    cases hf
  | succ n ih =>
    intro s v1 v2 hf
    exact wS_X8_allChances_4 hO ih s v1 v2 hf
def f_X8_allChances (s : St) : Option Rt := L_X8_allChances_4 FU s 0 0
set_option maxRecDepth 100000 in
set_option maxHeartbeats 4000000 in
theorem c_X8_allChances (l : Launch) (G : Ge) (hG : rr_GD G) (s : St) : rr_Ct l G yX8_allChances cX8_allChances 3 (some .int) 0 0 1 [vr G 0] s (f_X8_allChances s ) := by
  refine rr_mk (lv := [(0, vr G 0)]) RX8 (by decide) rfl hG (Nat.le_of_ble_eq_true rfl) rfl ?_
  intro X Z hO hf
  unfold f_X8_allChances at hf
  refine at_iconst hO dX8_allChances_0 1 rfl ?_
  refine at_istore_n hO (lv' := [(1, vi 0), (0, vr G 0)]) rfl (Nat.le_of_ble_eq_true rfl) rfl dX8_allChances_1 2 rfl ?_
  refine at_iconst hO dX8_allChances_2 3 rfl ?_
  refine at_istore_n hO (lv' := [(2, vi 0), (1, vi 0), (0, vr G 0)]) rfl (Nat.le_of_ble_eq_true rfl) rfl dX8_allChances_3 4 rfl ?_
  exact at_sub (fun ls h => lv_sub h [2, 1, 0] rfl) (wL_X8_allChances_4 hO FU s 0 0 hf)

def f_X8_gain (s : St) (p1 : Int) : Option Rt := cll (f_X8_inside s p1 2) (fun r1 s2 => chk (in32 r1) ((if r1 = 0 then some ((-9223372036854775806), s2) else cll (f_X6_refresh s2) (fun _ s5 => cll (f_X0_reckon s5) (fun _ s7 => cll (f_X8_allChances s7) (fun r8 s9 => cll (f_X8_fractionPart s9 (s7 37 9) r8 p1) (fun r10 s11 => some (r10, s11))))))))
set_option maxRecDepth 100000 in
set_option maxHeartbeats 4000000 in
theorem c_X8_gain (l : Launch) (G : Ge) (hG : rr_GD G) (s : St) (p1 : Int) : rr_Ct l G yX8_gain cX8_gain 2 (some .long) 5 113 2 [vr G 0, vi p1] s (f_X8_gain s p1) := by
  refine rr_mk (lv := [(0, vr G 0), (1, vi p1)]) RX8 (by decide) rfl hG (Nat.le_of_ble_eq_true rfl) rfl ?_
  intro X Z hO hf
  unfold f_X8_gain at hf
  refine at_iload_n hO 1 rfl rfl dX8_gain_0 1 rfl ?_
  refine at_iconst hO dX8_gain_1 2 rfl ?_
  refine at_callS1 (As := [vi p1, vi 2]) (st := []) hO (c_X8_inside _ G hO.g s p1 2) mb_X8_inside ms_X8_inside lk_X8_89 rfl ⟨(Nat.le_of_ble_eq_true rfl), (Nat.le_of_ble_eq_true rfl)⟩ (Nat.le_of_ble_eq_true rfl) rfl dX8_gain_2 5 rfl hf (fun r1 s2 hf => ?_)
  obtain ⟨h3, hf⟩ := chk_some hf
  refine at_if_ne hO h3 dX8_gain_5 12 rfl 8 rfl hf (fun hf => ?_) (fun hf => ?_)
  · refine at_aload_n hO 0 rfl rfl dX8_gain_12 13 rfl ?_
    refine at_getR hO fl_X8_34 rfl rfl dX8_gain_13 16 rfl ?_
    refine at_callV0 (As := []) (st := []) hO (c_X6_refresh _ G hO.g s2 ) mb_X6_refresh mi_X6_refresh lk_X8_127 rfl ⟨_, rfl, rfl⟩ rfl ⟨(Nat.le_of_ble_eq_true rfl), (Nat.le_of_ble_eq_true rfl)⟩ (Nat.le_of_ble_eq_true rfl) rfl dX8_gain_16 19 rfl hf (fun r4 s5 hf => ?_)
    refine at_aload_n hO 0 rfl rfl dX8_gain_19 20 rfl ?_
    refine at_getR hO fl_X8_61 rfl rfl dX8_gain_20 23 rfl ?_
    refine at_callV0 (As := []) (st := []) hO (c_X0_reckon _ G hO.g s5 ) mb_X0_reckon mi_X0_reckon lk_X8_239 rfl ⟨_, rfl, rfl⟩ rfl ⟨(Nat.le_of_ble_eq_true rfl), (Nat.le_of_ble_eq_true rfl)⟩ (Nat.le_of_ble_eq_true rfl) rfl dX8_gain_23 26 rfl hf (fun r6 s7 hf => ?_)
    refine at_aload_n hO 0 rfl rfl dX8_gain_26 27 rfl ?_
    refine at_getR hO fl_X8_61 rfl rfl dX8_gain_27 30 rfl ?_
    refine at_getIN hO fl_X8_247 rfl rfl dX8_gain_30 33 rfl ?_
    refine at_aload_n hO 0 rfl rfl dX8_gain_33 34 rfl ?_
    refine at_callV1 (As := []) (st := [vi (s7 37 9)]) hO (c_X8_allChances _ G hO.g s7 ) mb_X8_allChances mi_X8_allChances lk_X8_250 rfl ⟨_, rfl, rfl⟩ rfl ⟨(Nat.le_of_ble_eq_true rfl), (Nat.le_of_ble_eq_true rfl)⟩ (Nat.le_of_ble_eq_true rfl) rfl dX8_gain_34 37 rfl hf (fun r8 s9 hf => ?_)
    refine at_iload_n hO 1 rfl rfl dX8_gain_37 38 rfl ?_
    refine at_callS2 (As := [vi (s7 37 9), vi r8, vi p1]) (st := []) hO (c_X8_fractionPart _ G hO.g s9 (s7 37 9) r8 p1) mb_X8_fractionPart ms_X8_fractionPart lk_X8_210 rfl ⟨(Nat.le_of_ble_eq_true rfl), (Nat.le_of_ble_eq_true rfl)⟩ (Nat.le_of_ble_eq_true rfl) rfl dX8_gain_38 41 rfl hf (fun r10 s11 hf => ?_)
    exact at_lreturn hO dX8_gain_41 hf
  · refine at_ldc2_w (n := (-9223372036854775806)) hO lc_X8_197 (by decide) dX8_gain_8 11 rfl ?_
    exact at_lreturn hO dX8_gain_11 hf

def S_X8_levelKinds_4 (rec4 : St → Int → Int → Int → Option Rt) (s : St) (v1 v2 v3 : Int) : Option Rt := chk (in32 v3) ((if 3 ≤ v3 then cll (f_J6_bitCount_0f7a4 s v2) (fun r2 s3 => some (r2, s3)) else chk (ix v3 3) (chk (in32 (s 11 v3.toNat)) ((if (s 11 v3.toNat) ≤ 0 then rec4 s v1 v2 (v3 + 1) else cll (f_X6_levelOn s v3 v1) (fun r6 s7 => rec4 s7 v1 (orZ v2 (shlZ 1 r6)) (v3 + 1)))))))
def L_X8_levelKinds_4 : Nat → St → Int → Int → Int → Option Rt
  | 0, _, _, _, _ => none
  | n + 1, s, v1, v2, v3 => S_X8_levelKinds_4 (L_X8_levelKinds_4 n) s v1 v2 v3
set_option maxRecDepth 100000 in
set_option maxHeartbeats 4000000 in
theorem wS_X8_levelKinds_4 {X : CX} {G : Ge} {Z : Rt} {rec4 : St → Int → Int → Int → Option Rt} (hO : rr_OK X G cX8_levelKinds 4 RX8 (some .int) 2 43) (hrec4 : ∀ (s : St) (v1 v2 v3 : Int), rec4 s v1 v2 v3 = some Z → rr_AT X G 4 1 Z 4 [(0, vr G 0), (1, vi v1), (2, vi v2), (3, vi v3)] [] s) (s : St) (v1 v2 v3 : Int) (hf : S_X8_levelKinds_4 rec4 s v1 v2 v3 = some Z) : rr_AT X G 4 1 Z 4 [(0, vr G 0), (1, vi v1), (2, vi v2), (3, vi v3)] [] s := by
  unfold S_X8_levelKinds_4 at hf
  refine at_iload_n hO 3 rfl rfl dX8_levelKinds_4 5 rfl ?_
  refine at_iconst hO dX8_levelKinds_5 6 rfl ?_
  obtain ⟨h1, hf⟩ := chk_some hf
  refine at_icmp_ge hO h1 (by decide) dX8_levelKinds_6 38 rfl 9 rfl hf (fun hf => ?_) (fun hf => ?_)
  · refine at_iload_n hO 2 rfl rfl dX8_levelKinds_38 39 rfl ?_
    refine at_callS1 (As := [vi v2]) (st := []) hO (c_J6_bitCount_0f7a4 _ G hO.g s v2) mb_J6_bitCount_0f7a4 ms_J6_bitCount_0f7a4 lk_X8_192 rfl ⟨(Nat.le_of_ble_eq_true rfl), (Nat.le_of_ble_eq_true rfl)⟩ (Nat.le_of_ble_eq_true rfl) rfl dX8_levelKinds_39 42 rfl hf (fun r2 s3 hf => ?_)
    exact at_ireturn hO dX8_levelKinds_42 hf
  · refine at_aload_n hO 0 rfl rfl dX8_levelKinds_9 10 rfl ?_
    refine at_getR hO fl_X8_19 rfl rfl dX8_levelKinds_10 13 rfl ?_
    refine at_iload_n hO 3 rfl rfl dX8_levelKinds_13 14 rfl ?_
    obtain ⟨h4, hf⟩ := chk_some hf
    refine at_iaload hO rfl (Nat.le_of_ble_eq_true rfl) h4 (v3.toNat) rfl dX8_levelKinds_14 15 rfl ?_
    obtain ⟨h5, hf⟩ := chk_some hf
    refine at_if_le hO h5 dX8_levelKinds_15 32 rfl 18 rfl hf (fun hf => ?_) (fun hf => ?_)
    · refine at_iinc hO (lv' := [(3, vi (v3 + 1)), (0, vr G 0), (1, vi v1), (2, vi v2)]) 3 rfl (Nat.le_of_ble_eq_true rfl) rfl dX8_levelKinds_32 35 rfl ?_
      refine at_goto hO dX8_levelKinds_35 4 rfl ?_
      exact at_sub (fun ls h => lv_sub h [1, 2, 3, 0] rfl) (hrec4 s v1 v2 (v3 + 1) hf)
    · refine at_iload_n hO 2 rfl rfl dX8_levelKinds_18 19 rfl ?_
      refine at_iconst hO dX8_levelKinds_19 20 rfl ?_
      refine at_aload_n hO 0 rfl rfl dX8_levelKinds_20 21 rfl ?_
      refine at_getR hO fl_X8_34 rfl rfl dX8_levelKinds_21 24 rfl ?_
      refine at_iload_n hO 3 rfl rfl dX8_levelKinds_24 25 rfl ?_
      refine at_iload_n hO 1 rfl rfl dX8_levelKinds_25 26 rfl ?_
      refine at_callV1 (As := [vi v3, vi v1]) (st := [vi 1, vi v2]) hO (c_X6_levelOn _ G hO.g s v3 v1) mb_X6_levelOn mi_X6_levelOn lk_X8_130 rfl ⟨_, rfl, rfl⟩ rfl ⟨(Nat.le_of_ble_eq_true rfl), (Nat.le_of_ble_eq_true rfl)⟩ (Nat.le_of_ble_eq_true rfl) rfl dX8_levelKinds_26 29 rfl hf (fun r6 s7 hf => ?_)
      refine at_ishl hO dX8_levelKinds_29 30 rfl ?_
      refine at_ior hO dX8_levelKinds_30 31 rfl ?_
      refine at_istore_n hO (lv' := [(2, vi (orZ v2 (shlZ 1 r6))), (0, vr G 0), (1, vi v1), (3, vi v3)]) rfl (Nat.le_of_ble_eq_true rfl) rfl dX8_levelKinds_31 32 rfl ?_
      refine at_iinc hO (lv' := [(3, vi (v3 + 1)), (2, vi (orZ v2 (shlZ 1 r6))), (0, vr G 0), (1, vi v1)]) 3 rfl (Nat.le_of_ble_eq_true rfl) rfl dX8_levelKinds_32 35 rfl ?_
      refine at_goto hO dX8_levelKinds_35 4 rfl ?_
      exact at_sub (fun ls h => lv_sub h [2, 3, 1, 0] rfl) (hrec4 s7 v1 (orZ v2 (shlZ 1 r6)) (v3 + 1) hf)
theorem wL_X8_levelKinds_4 {X : CX} {G : Ge} {Z : Rt} (hO : rr_OK X G cX8_levelKinds 4 RX8 (some .int) 2 43) : ∀ (n : Nat) (s : St) (v1 v2 v3 : Int), L_X8_levelKinds_4 n s v1 v2 v3 = some Z → rr_AT X G 4 1 Z 4 [(0, vr G 0), (1, vi v1), (2, vi v2), (3, vi v3)] [] s := by
  intro n
  induction n with
  | zero =>
    intro s v1 v2 v3 hf
    cases hf
  | succ n ih =>
    intro s v1 v2 v3 hf
    exact wS_X8_levelKinds_4 hO ih s v1 v2 v3 hf
def f_X8_levelKinds (s : St) (p1 : Int) : Option Rt := L_X8_levelKinds_4 FU s p1 0 0
set_option maxRecDepth 100000 in
set_option maxHeartbeats 4000000 in
theorem c_X8_levelKinds (l : Launch) (G : Ge) (hG : rr_GD G) (s : St) (p1 : Int) : rr_Ct l G yX8_levelKinds cX8_levelKinds 4 (some .int) 2 43 1 [vr G 0, vi p1] s (f_X8_levelKinds s p1) := by
  refine rr_mk (lv := [(0, vr G 0), (1, vi p1)]) RX8 (by decide) rfl hG (Nat.le_of_ble_eq_true rfl) rfl ?_
  intro X Z hO hf
  unfold f_X8_levelKinds at hf
  refine at_iconst hO dX8_levelKinds_0 1 rfl ?_
  refine at_istore_n hO (lv' := [(2, vi 0), (0, vr G 0), (1, vi p1)]) rfl (Nat.le_of_ble_eq_true rfl) rfl dX8_levelKinds_1 2 rfl ?_
  refine at_iconst hO dX8_levelKinds_2 3 rfl ?_
  refine at_istore_n hO (lv' := [(3, vi 0), (2, vi 0), (0, vr G 0), (1, vi p1)]) rfl (Nat.le_of_ble_eq_true rfl) rfl dX8_levelKinds_3 4 rfl ?_
  exact at_sub (fun ls h => lv_sub h [2, 3, 1, 0] rfl) (wL_X8_levelKinds_4 hO FU s p1 0 0 hf)

def S_X8_watch_13 (rec13 : St → Int → Int → Int → Option Rt) (s : St) (v1 v2 v3 : Int) : Option Rt := chk (in32 v3) ((if 30 ≤ v3 then some (v1, s) else cll (f_X8_levelKinds s v3) (fun r2 s3 => chk (in32 r2) (chk (in32 v2) ((if r2 ≤ v2 then rec13 s3 v1 v2 (v3 + 1) else rec13 s3 v3 r2 (v3 + 1)))))))
def L_X8_watch_13 : Nat → St → Int → Int → Int → Option Rt
  | 0, _, _, _, _ => none
  | n + 1, s, v1, v2, v3 => S_X8_watch_13 (L_X8_watch_13 n) s v1 v2 v3
set_option maxRecDepth 100000 in
set_option maxHeartbeats 4000000 in
theorem wS_X8_watch_13 {X : CX} {G : Ge} {Z : Rt} {rec13 : St → Int → Int → Int → Option Rt} (hO : rr_OK X G cX8_watch 5 RX8 (some .int) 4 87) (hrec13 : ∀ (s : St) (v1 v2 v3 : Int), rec13 s v1 v2 v3 = some Z → rr_AT X G 5 1 Z 13 [(0, vr G 0), (1, vi v1), (2, vi v2), (3, vi v3)] [] s) (s : St) (v1 v2 v3 : Int) (hf : S_X8_watch_13 rec13 s v1 v2 v3 = some Z) : rr_AT X G 5 1 Z 13 [(0, vr G 0), (1, vi v1), (2, vi v2), (3, vi v3)] [] s := by
  unfold S_X8_watch_13 at hf
  refine at_iload_n hO 3 rfl rfl dX8_watch_13 14 rfl ?_
  refine at_bipush hO (by decide) dX8_watch_14 16 rfl ?_
  obtain ⟨h1, hf⟩ := chk_some hf
  refine at_icmp_ge hO h1 (by decide) dX8_watch_16 43 rfl 19 rfl hf (fun hf => ?_) (fun hf => ?_)
  · refine at_iload_n hO 1 rfl rfl dX8_watch_43 44 rfl ?_
    exact at_ireturn hO dX8_watch_44 hf
  · refine at_aload_n hO 0 rfl rfl dX8_watch_19 20 rfl ?_
    refine at_iload_n hO 3 rfl rfl dX8_watch_20 21 rfl ?_
    refine at_callV1 (As := [vi v3]) (st := []) hO (c_X8_levelKinds _ G hO.g s v3) mb_X8_levelKinds mi_X8_levelKinds lk_X8_253 rfl ⟨_, rfl, rfl⟩ rfl ⟨(Nat.le_of_ble_eq_true rfl), (Nat.le_of_ble_eq_true rfl)⟩ (Nat.le_of_ble_eq_true rfl) rfl dX8_watch_21 24 rfl hf (fun r2 s3 hf => ?_)
    refine at_istore hO (lv' := [(4, vi r2), (0, vr G 0), (1, vi v1), (2, vi v2), (3, vi v3)]) (Nat.le_of_ble_eq_true rfl) rfl dX8_watch_24 26 rfl ?_
    refine at_iload hO 0 rfl dX8_watch_26 28 rfl ?_
    refine at_iload_n hO 3 rfl rfl dX8_watch_28 29 rfl ?_
    obtain ⟨h4, hf⟩ := chk_some hf
    obtain ⟨h5, hf⟩ := chk_some hf
    refine at_icmp_le hO h4 h5 dX8_watch_29 37 rfl 32 rfl hf (fun hf => ?_) (fun hf => ?_)
    · refine at_iinc hO (lv' := [(3, vi (v3 + 1)), (4, vi r2), (0, vr G 0), (1, vi v1), (2, vi v2)]) 4 rfl (Nat.le_of_ble_eq_true rfl) rfl dX8_watch_37 40 rfl ?_
      refine at_goto hO dX8_watch_40 13 rfl ?_
      exact at_sub (fun ls h => lv_sub h [2, 3, 4, 0] rfl) (hrec13 s3 v1 v2 (v3 + 1) hf)
    · refine at_iload hO 0 rfl dX8_watch_32 34 rfl ?_
      refine at_istore_n hO (lv' := [(2, vi r2), (4, vi r2), (0, vr G 0), (1, vi v1), (3, vi v3)]) rfl (Nat.le_of_ble_eq_true rfl) rfl dX8_watch_34 35 rfl ?_
      refine at_iload_n hO 4 rfl rfl dX8_watch_35 36 rfl ?_
      refine at_istore_n hO (lv' := [(1, vi v3), (2, vi r2), (4, vi r2), (0, vr G 0), (3, vi v3)]) rfl (Nat.le_of_ble_eq_true rfl) rfl dX8_watch_36 37 rfl ?_
      refine at_iinc hO (lv' := [(3, vi (v3 + 1)), (1, vi v3), (2, vi r2), (4, vi r2), (0, vr G 0)]) 4 rfl (Nat.le_of_ble_eq_true rfl) rfl dX8_watch_37 40 rfl ?_
      refine at_goto hO dX8_watch_40 13 rfl ?_
      exact at_sub (fun ls h => lv_sub h [4, 1, 2, 0] rfl) (hrec13 s3 v3 r2 (v3 + 1) hf)
theorem wL_X8_watch_13 {X : CX} {G : Ge} {Z : Rt} (hO : rr_OK X G cX8_watch 5 RX8 (some .int) 4 87) : ∀ (n : Nat) (s : St) (v1 v2 v3 : Int), L_X8_watch_13 n s v1 v2 v3 = some Z → rr_AT X G 5 1 Z 13 [(0, vr G 0), (1, vi v1), (2, vi v2), (3, vi v3)] [] s := by
  intro n
  induction n with
  | zero =>
    intro s v1 v2 v3 hf
    cases hf
  | succ n ih =>
    intro s v1 v2 v3 hf
    exact wS_X8_watch_13 hO ih s v1 v2 v3 hf
def f_X8_watch (s : St) : Option Rt := cll (f_X6_refresh s) (fun _ s2 => L_X8_watch_13 FU s2 0 0 0)
set_option maxRecDepth 100000 in
set_option maxHeartbeats 4000000 in
theorem c_X8_watch (l : Launch) (G : Ge) (hG : rr_GD G) (s : St) : rr_Ct l G yX8_watch cX8_watch 5 (some .int) 4 87 1 [vr G 0] s (f_X8_watch s ) := by
  refine rr_mk (lv := [(0, vr G 0)]) RX8 (by decide) rfl hG (Nat.le_of_ble_eq_true rfl) rfl ?_
  intro X Z hO hf
  unfold f_X8_watch at hf
  refine at_aload_n hO 0 rfl rfl dX8_watch_0 1 rfl ?_
  refine at_getR hO fl_X8_34 rfl rfl dX8_watch_1 4 rfl ?_
  refine at_callV0 (As := []) (st := []) hO (c_X6_refresh _ G hO.g s ) mb_X6_refresh mi_X6_refresh lk_X8_127 rfl ⟨_, rfl, rfl⟩ rfl ⟨(Nat.le_of_ble_eq_true rfl), (Nat.le_of_ble_eq_true rfl)⟩ (Nat.le_of_ble_eq_true rfl) rfl dX8_watch_4 7 rfl hf (fun r1 s2 hf => ?_)
  refine at_iconst hO dX8_watch_7 8 rfl ?_
  refine at_istore_n hO (lv' := [(1, vi 0), (0, vr G 0)]) rfl (Nat.le_of_ble_eq_true rfl) rfl dX8_watch_8 9 rfl ?_
  refine at_iconst hO dX8_watch_9 10 rfl ?_
  refine at_istore_n hO (lv' := [(2, vi 0), (1, vi 0), (0, vr G 0)]) rfl (Nat.le_of_ble_eq_true rfl) rfl dX8_watch_10 11 rfl ?_
  refine at_iconst hO dX8_watch_11 12 rfl ?_
  refine at_istore_n hO (lv' := [(3, vi 0), (2, vi 0), (1, vi 0), (0, vr G 0)]) rfl (Nat.le_of_ble_eq_true rfl) rfl dX8_watch_12 13 rfl ?_
  exact at_sub (fun ls h => lv_sub h [3, 2, 1, 0] rfl) (wL_X8_watch_13 hO FU s2 0 0 0 hf)

def f_X8_fact (s : St) (p1 p2 p3 : Int) : Option Rt := cll (f_X8_inside s p1 30) (fun r1 s2 => chk (in32 r1) ((if r1 = 0 then some ((-2), s2) else cll (f_X8_inside s2 p2 12) (fun r4 s5 => chk (in32 r4) ((if r4 = 0 then some ((-2), s5) else cll (f_X8_inside s5 p3 2) (fun r7 s8 => chk (in32 r7) ((if r7 = 0 then some ((-2), s8) else cll (f_X2_isFull s8) (fun r10 s11 => chk (in32 r10) ((if r10 = 0 then cll (f_X2_learn s11 p1 p2 p3) (fun _ s14 => some ((s14 45 3), s14)) else some ((-4), s11)))))))))))))
set_option maxRecDepth 100000 in
set_option maxHeartbeats 4000000 in
theorem c_X8_fact (l : Launch) (G : Ge) (hG : rr_GD G) (s : St) (p1 p2 p3 : Int) : rr_Ct l G yX8_fact cX8_fact 4 (some .int) 2 44 1 [vr G 0, vi p1, vi p2, vi p3] s (f_X8_fact s p1 p2 p3) := by
  refine rr_mk (lv := [(0, vr G 0), (1, vi p1), (2, vi p2), (3, vi p3)]) RX8 (by decide) rfl hG (Nat.le_of_ble_eq_true rfl) rfl ?_
  intro X Z hO hf
  unfold f_X8_fact at hf
  refine at_iload_n hO 1 rfl rfl dX8_fact_0 1 rfl ?_
  refine at_bipush hO (by decide) dX8_fact_1 3 rfl ?_
  refine at_callS1 (As := [vi p1, vi 30]) (st := []) hO (c_X8_inside _ G hO.g s p1 30) mb_X8_inside ms_X8_inside lk_X8_89 rfl ⟨(Nat.le_of_ble_eq_true rfl), (Nat.le_of_ble_eq_true rfl)⟩ (Nat.le_of_ble_eq_true rfl) rfl dX8_fact_3 6 rfl hf (fun r1 s2 hf => ?_)
  obtain ⟨h3, hf⟩ := chk_some hf
  refine at_if_eq hO h3 dX8_fact_6 26 rfl 9 rfl hf (fun hf => ?_) (fun hf => ?_)
  · refine at_bipush hO (by decide) dX8_fact_26 28 rfl ?_
    exact at_ireturn hO dX8_fact_28 hf
  · refine at_iload_n hO 2 rfl rfl dX8_fact_9 10 rfl ?_
    refine at_bipush hO (by decide) dX8_fact_10 12 rfl ?_
    refine at_callS1 (As := [vi p2, vi 12]) (st := []) hO (c_X8_inside _ G hO.g s2 p2 12) mb_X8_inside ms_X8_inside lk_X8_89 rfl ⟨(Nat.le_of_ble_eq_true rfl), (Nat.le_of_ble_eq_true rfl)⟩ (Nat.le_of_ble_eq_true rfl) rfl dX8_fact_12 15 rfl hf (fun r4 s5 hf => ?_)
    obtain ⟨h6, hf⟩ := chk_some hf
    refine at_if_eq hO h6 dX8_fact_15 26 rfl 18 rfl hf (fun hf => ?_) (fun hf => ?_)
    · refine at_bipush hO (by decide) dX8_fact_26 28 rfl ?_
      exact at_ireturn hO dX8_fact_28 hf
    · refine at_iload_n hO 3 rfl rfl dX8_fact_18 19 rfl ?_
      refine at_iconst hO dX8_fact_19 20 rfl ?_
      refine at_callS1 (As := [vi p3, vi 2]) (st := []) hO (c_X8_inside _ G hO.g s5 p3 2) mb_X8_inside ms_X8_inside lk_X8_89 rfl ⟨(Nat.le_of_ble_eq_true rfl), (Nat.le_of_ble_eq_true rfl)⟩ (Nat.le_of_ble_eq_true rfl) rfl dX8_fact_20 23 rfl hf (fun r7 s8 hf => ?_)
      obtain ⟨h9, hf⟩ := chk_some hf
      refine at_if_ne hO h9 dX8_fact_23 29 rfl 26 rfl hf (fun hf => ?_) (fun hf => ?_)
      · refine at_aload_n hO 0 rfl rfl dX8_fact_29 30 rfl ?_
        refine at_getR hO fl_X8_68 rfl rfl dX8_fact_30 33 rfl ?_
        refine at_callV1 (As := []) (st := []) hO (c_X2_isFull _ G hO.g s8 ) mb_X2_isFull mi_X2_isFull lk_X8_256 rfl ⟨_, rfl, rfl⟩ rfl ⟨(Nat.le_of_ble_eq_true rfl), (Nat.le_of_ble_eq_true rfl)⟩ (Nat.le_of_ble_eq_true rfl) rfl dX8_fact_33 36 rfl hf (fun r10 s11 hf => ?_)
        obtain ⟨h12, hf⟩ := chk_some hf
        refine at_if_eq hO h12 dX8_fact_36 42 rfl 39 rfl hf (fun hf => ?_) (fun hf => ?_)
        · refine at_aload_n hO 0 rfl rfl dX8_fact_42 43 rfl ?_
          refine at_getR hO fl_X8_68 rfl rfl dX8_fact_43 46 rfl ?_
          refine at_iload_n hO 1 rfl rfl dX8_fact_46 47 rfl ?_
          refine at_iload_n hO 2 rfl rfl dX8_fact_47 48 rfl ?_
          refine at_iload_n hO 3 rfl rfl dX8_fact_48 49 rfl ?_
          refine at_callV0 (As := [vi p1, vi p2, vi p3]) (st := []) hO (c_X2_learn _ G hO.g s11 p1 p2 p3) mb_X2_learn mi_X2_learn lk_X8_257 rfl ⟨_, rfl, rfl⟩ rfl ⟨(Nat.le_of_ble_eq_true rfl), (Nat.le_of_ble_eq_true rfl)⟩ (Nat.le_of_ble_eq_true rfl) rfl dX8_fact_49 52 rfl hf (fun r13 s14 hf => ?_)
          refine at_aload_n hO 0 rfl rfl dX8_fact_52 53 rfl ?_
          refine at_getR hO fl_X8_68 rfl rfl dX8_fact_53 56 rfl ?_
          refine at_getIN hO fl_X8_260 rfl rfl dX8_fact_56 59 rfl ?_
          exact at_ireturn hO dX8_fact_59 hf
        · refine at_bipush hO (by decide) dX8_fact_39 41 rfl ?_
          exact at_ireturn hO dX8_fact_41 hf
      · refine at_bipush hO (by decide) dX8_fact_26 28 rfl ?_
        exact at_ireturn hO dX8_fact_28 hf

def f_X8_forget (s : St) : Option Rt := cll (f_X2_clear s) (fun _ s2 => some ((s 45 3), s2))
set_option maxRecDepth 100000 in
set_option maxHeartbeats 4000000 in
theorem c_X8_forget (l : Launch) (G : Ge) (hG : rr_GD G) (s : St) : rr_Ct l G yX8_forget cX8_forget 2 (some .int) 1 20 1 [vr G 0] s (f_X8_forget s ) := by
  refine rr_mk (lv := [(0, vr G 0)]) RX8 (by decide) rfl hG (Nat.le_of_ble_eq_true rfl) rfl ?_
  intro X Z hO hf
  unfold f_X8_forget at hf
  refine at_aload_n hO 0 rfl rfl dX8_forget_0 1 rfl ?_
  refine at_getR hO fl_X8_68 rfl rfl dX8_forget_1 4 rfl ?_
  refine at_getIN hO fl_X8_260 rfl rfl dX8_forget_4 7 rfl ?_
  refine at_istore_n hO (lv' := [(1, vi (s 45 3)), (0, vr G 0)]) rfl (Nat.le_of_ble_eq_true rfl) rfl dX8_forget_7 8 rfl ?_
  refine at_aload_n hO 1 rfl rfl dX8_forget_8 9 rfl ?_
  refine at_getR hO fl_X8_68 rfl rfl dX8_forget_9 12 rfl ?_
  refine at_callV0 (As := []) (st := []) hO (c_X2_clear _ G hO.g s ) mb_X2_clear mi_X2_clear lk_X8_261 rfl ⟨_, rfl, rfl⟩ rfl ⟨(Nat.le_of_ble_eq_true rfl), (Nat.le_of_ble_eq_true rfl)⟩ (Nat.le_of_ble_eq_true rfl) rfl dX8_forget_12 15 rfl hf (fun r1 s2 hf => ?_)
  refine at_iload_n hO 0 rfl rfl dX8_forget_15 16 rfl ?_
  exact at_ireturn hO dX8_forget_16 hf

def S_X8_fit_21 (rec21 : St → Int → Int → Int → Option Rt) (s : St) (v1 v2 v3 : Int) : Option Rt := chk (in32 v3) ((if 3 ≤ v3 then some (v2, s) else cll (f_X2_comeOutBy s v3 v1) (fun r2 s3 => chk (in32 r2) ((if r2 = 0 then rec21 s3 v1 v2 (v3 + 1) else rec21 s3 v1 (orZ v2 (shlZ 1 v3)) (v3 + 1))))))
def L_X8_fit_21 : Nat → St → Int → Int → Int → Option Rt
  | 0, _, _, _, _ => none
  | n + 1, s, v1, v2, v3 => S_X8_fit_21 (L_X8_fit_21 n) s v1 v2 v3
set_option maxRecDepth 100000 in
set_option maxHeartbeats 4000000 in
theorem wS_X8_fit_21 {X : CX} {G : Ge} {Z : Rt} {rec21 : St → Int → Int → Int → Option Rt} (hO : rr_OK X G cX8_fit 4 RX8 (some .int) 4 87) (hrec21 : ∀ (s : St) (v1 v2 v3 : Int), rec21 s v1 v2 v3 = some Z → rr_AT X G 4 1 Z 21 [(0, vr G 0), (1, vi v1), (2, vi v2), (3, vi v3)] [] s) (s : St) (v1 v2 v3 : Int) (hf : S_X8_fit_21 rec21 s v1 v2 v3 = some Z) : rr_AT X G 4 1 Z 21 [(0, vr G 0), (1, vi v1), (2, vi v2), (3, vi v3)] [] s := by
  unfold S_X8_fit_21 at hf
  refine at_iload_n hO 3 rfl rfl dX8_fit_21 22 rfl ?_
  refine at_iconst hO dX8_fit_22 23 rfl ?_
  obtain ⟨h1, hf⟩ := chk_some hf
  refine at_icmp_ge hO h1 (by decide) dX8_fit_23 54 rfl 26 rfl hf (fun hf => ?_) (fun hf => ?_)
  · refine at_iload_n hO 2 rfl rfl dX8_fit_54 55 rfl ?_
    exact at_ireturn hO dX8_fit_55 hf
  · refine at_aload_n hO 0 rfl rfl dX8_fit_26 27 rfl ?_
    refine at_getR hO fl_X8_68 rfl rfl dX8_fit_27 30 rfl ?_
    refine at_aload_n hO 0 rfl rfl dX8_fit_30 31 rfl ?_
    refine at_getR hO fl_X8_34 rfl rfl dX8_fit_31 34 rfl ?_
    refine at_iload_n hO 3 rfl rfl dX8_fit_34 35 rfl ?_
    refine at_iload_n hO 1 rfl rfl dX8_fit_35 36 rfl ?_
    refine at_callV1 (As := [vr G 16, vi v3, vi v1]) (st := []) hO (c_X2_comeOutBy _ G hO.g s v3 v1) mb_X2_comeOutBy mi_X2_comeOutBy lk_X8_265 rfl ⟨_, rfl, rfl⟩ rfl ⟨(Nat.le_of_ble_eq_true rfl), (Nat.le_of_ble_eq_true rfl)⟩ (Nat.le_of_ble_eq_true rfl) rfl dX8_fit_36 39 rfl hf (fun r2 s3 hf => ?_)
    obtain ⟨h4, hf⟩ := chk_some hf
    refine at_if_eq hO h4 dX8_fit_39 48 rfl 42 rfl hf (fun hf => ?_) (fun hf => ?_)
    · refine at_iinc hO (lv' := [(3, vi (v3 + 1)), (0, vr G 0), (1, vi v1), (2, vi v2)]) 3 rfl (Nat.le_of_ble_eq_true rfl) rfl dX8_fit_48 51 rfl ?_
      refine at_goto hO dX8_fit_51 21 rfl ?_
      exact at_sub (fun ls h => lv_sub h [1, 2, 3, 0] rfl) (hrec21 s3 v1 v2 (v3 + 1) hf)
    · refine at_iload_n hO 2 rfl rfl dX8_fit_42 43 rfl ?_
      refine at_iconst hO dX8_fit_43 44 rfl ?_
      refine at_iload_n hO 3 rfl rfl dX8_fit_44 45 rfl ?_
      refine at_ishl hO dX8_fit_45 46 rfl ?_
      refine at_ior hO dX8_fit_46 47 rfl ?_
      refine at_istore_n hO (lv' := [(2, vi (orZ v2 (shlZ 1 v3))), (0, vr G 0), (1, vi v1), (3, vi v3)]) rfl (Nat.le_of_ble_eq_true rfl) rfl dX8_fit_47 48 rfl ?_
      refine at_iinc hO (lv' := [(3, vi (v3 + 1)), (2, vi (orZ v2 (shlZ 1 v3))), (0, vr G 0), (1, vi v1)]) 3 rfl (Nat.le_of_ble_eq_true rfl) rfl dX8_fit_48 51 rfl ?_
      refine at_goto hO dX8_fit_51 21 rfl ?_
      exact at_sub (fun ls h => lv_sub h [2, 3, 1, 0] rfl) (hrec21 s3 v1 (orZ v2 (shlZ 1 v3)) (v3 + 1) hf)
theorem wL_X8_fit_21 {X : CX} {G : Ge} {Z : Rt} (hO : rr_OK X G cX8_fit 4 RX8 (some .int) 4 87) : ∀ (n : Nat) (s : St) (v1 v2 v3 : Int), L_X8_fit_21 n s v1 v2 v3 = some Z → rr_AT X G 4 1 Z 21 [(0, vr G 0), (1, vi v1), (2, vi v2), (3, vi v3)] [] s := by
  intro n
  induction n with
  | zero =>
    intro s v1 v2 v3 hf
    cases hf
  | succ n ih =>
    intro s v1 v2 v3 hf
    exact wS_X8_fit_21 hO ih s v1 v2 v3 hf
def f_X8_fit (s : St) : Option Rt := cll (f_X6_refresh s) (fun _ s2 => cll (f_X5_told 3 s2) (fun r3 s4 => L_X8_fit_21 FU s4 r3 0 0))
set_option maxRecDepth 100000 in
set_option maxHeartbeats 4000000 in
theorem c_X8_fit (l : Launch) (G : Ge) (hG : rr_GD G) (s : St) : rr_Ct l G yX8_fit cX8_fit 4 (some .int) 4 87 1 [vr G 0] s (f_X8_fit s ) := by
  refine rr_mk (lv := [(0, vr G 0)]) RX8 (by decide) rfl hG (Nat.le_of_ble_eq_true rfl) rfl ?_
  intro X Z hO hf
  unfold f_X8_fit at hf
  refine at_aload_n hO 0 rfl rfl dX8_fit_0 1 rfl ?_
  refine at_getR hO fl_X8_34 rfl rfl dX8_fit_1 4 rfl ?_
  refine at_callV0 (As := []) (st := []) hO (c_X6_refresh _ G hO.g s ) mb_X6_refresh mi_X6_refresh lk_X8_127 rfl ⟨_, rfl, rfl⟩ rfl ⟨(Nat.le_of_ble_eq_true rfl), (Nat.le_of_ble_eq_true rfl)⟩ (Nat.le_of_ble_eq_true rfl) rfl dX8_fit_4 7 rfl hf (fun r1 s2 hf => ?_)
  refine at_aload_n hO 0 rfl rfl dX8_fit_7 8 rfl ?_
  refine at_getR hO fl_X8_11 rfl rfl dX8_fit_8 11 rfl ?_
  refine at_iconst hO dX8_fit_11 12 rfl ?_
  refine at_aaload3 hO rfl (Nat.le_of_ble_eq_true rfl) (by decide) 5 rfl dX8_fit_12 13 rfl ?_
  refine at_callV1 (As := []) (st := []) hO (c_X5_told _ G hO.g 3 (by decide) s2 ) mb_X5_told mi_X5_told lk_X8_262 rfl ⟨_, rfl, rfl⟩ rfl ⟨(Nat.le_of_ble_eq_true rfl), (Nat.le_of_ble_eq_true rfl)⟩ (Nat.le_of_ble_eq_true rfl) rfl dX8_fit_13 16 rfl hf (fun r3 s4 hf => ?_)
  refine at_istore_n hO (lv' := [(1, vi r3), (0, vr G 0)]) rfl (Nat.le_of_ble_eq_true rfl) rfl dX8_fit_16 17 rfl ?_
  refine at_iconst hO dX8_fit_17 18 rfl ?_
  refine at_istore_n hO (lv' := [(2, vi 0), (1, vi r3), (0, vr G 0)]) rfl (Nat.le_of_ble_eq_true rfl) rfl dX8_fit_18 19 rfl ?_
  refine at_iconst hO dX8_fit_19 20 rfl ?_
  refine at_istore_n hO (lv' := [(3, vi 0), (2, vi 0), (1, vi r3), (0, vr G 0)]) rfl (Nat.le_of_ble_eq_true rfl) rfl dX8_fit_20 21 rfl ?_
  exact at_sub (fun ls h => lv_sub h [3, 2, 1, 0] rfl) (wL_X8_fit_21 hO FU s4 r3 0 0 hf)

def f_X8_sheet (s : St) (p1 p2 p3 : Int) : Option Rt := cll (f_X8_inside s p1 4) (fun r1 s2 => chk (in32 r1) ((if r1 = 0 then some ((-2), s2) else cll (f_X8_inside s2 p2 3) (fun r4 s5 => chk (in32 r4) ((if r4 = 0 then some ((-2), s5) else chk (in32 p3) ((if p3 ≤ 60 then (if 0 ≤ p3 then chk (ix p1 4) (cll (f_X4_renew p1.toNat s5 p2 p3) (fun _ s10 => some (p3, s10))) else cll (f_X8_find s5 5) (fun r11 s12 => some (r11, s12))) else some ((-2), s5)))))))))
set_option maxRecDepth 100000 in
set_option maxHeartbeats 4000000 in
theorem c_X8_sheet (l : Launch) (G : Ge) (hG : rr_GD G) (s : St) (p1 p2 p3 : Int) : rr_Ct l G yX8_sheet cX8_sheet 4 (some .int) 2 44 1 [vr G 0, vi p1, vi p2, vi p3] s (f_X8_sheet s p1 p2 p3) := by
  refine rr_mk (lv := [(0, vr G 0), (1, vi p1), (2, vi p2), (3, vi p3)]) RX8 (by decide) rfl hG (Nat.le_of_ble_eq_true rfl) rfl ?_
  intro X Z hO hf
  unfold f_X8_sheet at hf
  refine at_iload_n hO 1 rfl rfl dX8_sheet_0 1 rfl ?_
  refine at_iconst hO dX8_sheet_1 2 rfl ?_
  refine at_callS1 (As := [vi p1, vi 4]) (st := []) hO (c_X8_inside _ G hO.g s p1 4) mb_X8_inside ms_X8_inside lk_X8_89 rfl ⟨(Nat.le_of_ble_eq_true rfl), (Nat.le_of_ble_eq_true rfl)⟩ (Nat.le_of_ble_eq_true rfl) rfl dX8_sheet_2 5 rfl hf (fun r1 s2 hf => ?_)
  obtain ⟨h3, hf⟩ := chk_some hf
  refine at_if_eq hO h3 dX8_sheet_5 22 rfl 8 rfl hf (fun hf => ?_) (fun hf => ?_)
  · refine at_bipush hO (by decide) dX8_sheet_22 24 rfl ?_
    exact at_ireturn hO dX8_sheet_24 hf
  · refine at_iload_n hO 2 rfl rfl dX8_sheet_8 9 rfl ?_
    refine at_iconst hO dX8_sheet_9 10 rfl ?_
    refine at_callS1 (As := [vi p2, vi 3]) (st := []) hO (c_X8_inside _ G hO.g s2 p2 3) mb_X8_inside ms_X8_inside lk_X8_89 rfl ⟨(Nat.le_of_ble_eq_true rfl), (Nat.le_of_ble_eq_true rfl)⟩ (Nat.le_of_ble_eq_true rfl) rfl dX8_sheet_10 13 rfl hf (fun r4 s5 hf => ?_)
    obtain ⟨h6, hf⟩ := chk_some hf
    refine at_if_eq hO h6 dX8_sheet_13 22 rfl 16 rfl hf (fun hf => ?_) (fun hf => ?_)
    · refine at_bipush hO (by decide) dX8_sheet_22 24 rfl ?_
      exact at_ireturn hO dX8_sheet_24 hf
    · refine at_iload_n hO 3 rfl rfl dX8_sheet_16 17 rfl ?_
      refine at_bipush hO (by decide) dX8_sheet_17 19 rfl ?_
      obtain ⟨h7, hf⟩ := chk_some hf
      refine at_icmp_le hO h7 (by decide) dX8_sheet_19 25 rfl 22 rfl hf (fun hf => ?_) (fun hf => ?_)
      · refine at_iload_n hO 3 rfl rfl dX8_sheet_25 26 rfl ?_
        refine at_if_ge hO h7 dX8_sheet_26 35 rfl 29 rfl hf (fun hf => ?_) (fun hf => ?_)
        · refine at_aload_n hO 0 rfl rfl dX8_sheet_35 36 rfl ?_
          refine at_getR hO fl_X8_74 rfl rfl dX8_sheet_36 39 rfl ?_
          refine at_iload_n hO 1 rfl rfl dX8_sheet_39 40 rfl ?_
          obtain ⟨h8, hf⟩ := chk_some hf
          refine at_aaload4 hO rfl (Nat.le_of_ble_eq_true rfl) h8 (50 + p1.toNat) rfl dX8_sheet_40 41 rfl ?_
          refine at_iload_n hO 2 rfl rfl dX8_sheet_41 42 rfl ?_
          refine at_iload_n hO 3 rfl rfl dX8_sheet_42 43 rfl ?_
          refine at_callV0 (As := [vi p2, vi p3]) (st := []) hO (c_X4_renew _ G hO.g p1.toNat (ix_nat h8) s5 p2 p3) mb_X4_renew mi_X4_renew lk_X8_269 (tb_sheet (ix_nat h8)) ⟨_, rfl, rfl⟩ rfl ⟨(Nat.le_of_ble_eq_true rfl), (Nat.le_of_ble_eq_true rfl)⟩ (Nat.le_of_ble_eq_true rfl) rfl dX8_sheet_43 46 rfl hf (fun r9 s10 hf => ?_)
          refine at_iload_n hO 3 rfl rfl dX8_sheet_46 47 rfl ?_
          exact at_ireturn hO dX8_sheet_47 hf
        · refine at_aload_n hO 0 rfl rfl dX8_sheet_29 30 rfl ?_
          refine at_iconst hO dX8_sheet_30 31 rfl ?_
          refine at_callV1 (As := [vi 5]) (st := []) hO (c_X8_find _ G hO.g s5 5) mb_X8_find mi_X8_find lk_X8_155 rfl ⟨_, rfl, rfl⟩ rfl ⟨(Nat.le_of_ble_eq_true rfl), (Nat.le_of_ble_eq_true rfl)⟩ (Nat.le_of_ble_eq_true rfl) rfl dX8_sheet_31 34 rfl hf (fun r11 s12 hf => ?_)
          exact at_ireturn hO dX8_sheet_34 hf
      · refine at_bipush hO (by decide) dX8_sheet_22 24 rfl ?_
        exact at_ireturn hO dX8_sheet_24 hf

def f_X8_lose (s : St) (p1 : Int) : Option Rt := cll (f_X8_inside s p1 4) (fun r1 s2 => chk (in32 r1) ((if r1 = 0 then some ((-2), s2) else chk (ix p1 4) (cll (f_X4_isLost p1.toNat s2) (fun r5 s6 => chk (in32 r5) ((if r5 = 0 then cll (f_X4_drop p1.toNat s6) (fun _ s9 => some ((s6 (50 + p1.toNat) 2), s9)) else cll (f_X8_find s6 1) (fun r10 s11 => some (r10, s11)))))))))
set_option maxRecDepth 100000 in
set_option maxHeartbeats 4000000 in
theorem c_X8_lose (l : Launch) (G : Ge) (hG : rr_GD G) (s : St) (p1 : Int) : rr_Ct l G yX8_lose cX8_lose 3 (some .int) 1 21 1 [vr G 0, vi p1] s (f_X8_lose s p1) := by
  refine rr_mk (lv := [(0, vr G 0), (1, vi p1)]) RX8 (by decide) rfl hG (Nat.le_of_ble_eq_true rfl) rfl ?_
  intro X Z hO hf
  unfold f_X8_lose at hf
  refine at_iload_n hO 1 rfl rfl dX8_lose_0 1 rfl ?_
  refine at_iconst hO dX8_lose_1 2 rfl ?_
  refine at_callS1 (As := [vi p1, vi 4]) (st := []) hO (c_X8_inside _ G hO.g s p1 4) mb_X8_inside ms_X8_inside lk_X8_89 rfl ⟨(Nat.le_of_ble_eq_true rfl), (Nat.le_of_ble_eq_true rfl)⟩ (Nat.le_of_ble_eq_true rfl) rfl dX8_lose_2 5 rfl hf (fun r1 s2 hf => ?_)
  obtain ⟨h3, hf⟩ := chk_some hf
  refine at_if_ne hO h3 dX8_lose_5 11 rfl 8 rfl hf (fun hf => ?_) (fun hf => ?_)
  · refine at_aload_n hO 0 rfl rfl dX8_lose_11 12 rfl ?_
    refine at_getR hO fl_X8_74 rfl rfl dX8_lose_12 15 rfl ?_
    refine at_iload_n hO 1 rfl rfl dX8_lose_15 16 rfl ?_
    obtain ⟨h4, hf⟩ := chk_some hf
    refine at_aaload4 hO rfl (Nat.le_of_ble_eq_true rfl) h4 (50 + p1.toNat) rfl dX8_lose_16 17 rfl ?_
    refine at_callV1 (As := []) (st := []) hO (c_X4_isLost _ G hO.g p1.toNat (ix_nat h4) s2 ) mb_X4_isLost mi_X4_isLost lk_X8_152 (tb_sheet (ix_nat h4)) ⟨_, rfl, rfl⟩ rfl ⟨(Nat.le_of_ble_eq_true rfl), (Nat.le_of_ble_eq_true rfl)⟩ (Nat.le_of_ble_eq_true rfl) rfl dX8_lose_17 20 rfl hf (fun r5 s6 hf => ?_)
    obtain ⟨h7, hf⟩ := chk_some hf
    refine at_if_eq hO h7 dX8_lose_20 29 rfl 23 rfl hf (fun hf => ?_) (fun hf => ?_)
    · refine at_aload_n hO 0 rfl rfl dX8_lose_29 30 rfl ?_
      refine at_getR hO fl_X8_74 rfl rfl dX8_lose_30 33 rfl ?_
      refine at_iload_n hO 1 rfl rfl dX8_lose_33 34 rfl ?_
      refine at_aaload4 hO rfl (Nat.le_of_ble_eq_true rfl) h4 (50 + p1.toNat) rfl dX8_lose_34 35 rfl ?_
      refine at_getIN hO fl_X8_273 (tb_sheet (ix_nat h4)) rfl dX8_lose_35 38 rfl ?_
      refine at_istore_n hO (lv' := [(2, vi (s6 (50 + p1.toNat) 2)), (0, vr G 0), (1, vi p1)]) rfl (Nat.le_of_ble_eq_true rfl) rfl dX8_lose_38 39 rfl ?_
      refine at_aload_n hO 1 rfl rfl dX8_lose_39 40 rfl ?_
      refine at_getR hO fl_X8_74 rfl rfl dX8_lose_40 43 rfl ?_
      refine at_iload_n hO 2 rfl rfl dX8_lose_43 44 rfl ?_
      refine at_aaload4 hO rfl (Nat.le_of_ble_eq_true rfl) h4 (50 + p1.toNat) rfl dX8_lose_44 45 rfl ?_
      refine at_callV0 (As := []) (st := []) hO (c_X4_drop _ G hO.g p1.toNat (ix_nat h4) s6 ) mb_X4_drop mi_X4_drop lk_X8_274 (tb_sheet (ix_nat h4)) ⟨_, rfl, rfl⟩ rfl ⟨(Nat.le_of_ble_eq_true rfl), (Nat.le_of_ble_eq_true rfl)⟩ (Nat.le_of_ble_eq_true rfl) rfl dX8_lose_45 48 rfl hf (fun r8 s9 hf => ?_)
      refine at_iload_n hO 0 rfl rfl dX8_lose_48 49 rfl ?_
      exact at_ireturn hO dX8_lose_49 hf
    · refine at_aload_n hO 0 rfl rfl dX8_lose_23 24 rfl ?_
      refine at_iconst hO dX8_lose_24 25 rfl ?_
      refine at_callV1 (As := [vi 1]) (st := []) hO (c_X8_find _ G hO.g s6 1) mb_X8_find mi_X8_find lk_X8_155 rfl ⟨_, rfl, rfl⟩ rfl ⟨(Nat.le_of_ble_eq_true rfl), (Nat.le_of_ble_eq_true rfl)⟩ (Nat.le_of_ble_eq_true rfl) rfl dX8_lose_25 28 rfl hf (fun r10 s11 hf => ?_)
      exact at_ireturn hO dX8_lose_28 hf
  · refine at_bipush hO (by decide) dX8_lose_8 10 rfl ?_
    exact at_ireturn hO dX8_lose_10 hf

def f_X8_lay (s : St) (p1 p2 p3 p4 : Int) : Option Rt := cll (f_X8_inside s p1 4) (fun r1 s2 => chk (in32 r1) ((if r1 = 0 then some ((-2), s2) else cll (f_X8_inside s2 p2 3) (fun r4 s5 => chk (in32 r4) ((if r4 = 0 then some ((-2), s5) else chk (ix p1 4) (cll (f_X4_trouble p1.toNat s5 p2 p3) (fun r8 s9 => chk (in32 r8) ((if r8 = 0 then cll (f_X4_put p1.toNat s9 p3 p4) (fun _ s12 => some (1, s12)) else cll (f_X8_find s9 r8) (fun r13 s14 => some (r13, s14))))))))))))
set_option maxRecDepth 100000 in
set_option maxHeartbeats 4000000 in
theorem c_X8_lay (l : Launch) (G : Ge) (hG : rr_GD G) (s : St) (p1 p2 p3 p4 : Int) : rr_Ct l G yX8_lay cX8_lay 6 (some .int) 2 43 1 [vr G 0, vi p1, vi p2, vi p3, vi p4] s (f_X8_lay s p1 p2 p3 p4) := by
  refine rr_mk (lv := [(0, vr G 0), (1, vi p1), (2, vi p2), (3, vi p3), (4, vi p4)]) RX8 (by decide) rfl hG (Nat.le_of_ble_eq_true rfl) rfl ?_
  intro X Z hO hf
  unfold f_X8_lay at hf
  refine at_iload_n hO 1 rfl rfl dX8_lay_0 1 rfl ?_
  refine at_iconst hO dX8_lay_1 2 rfl ?_
  refine at_callS1 (As := [vi p1, vi 4]) (st := []) hO (c_X8_inside _ G hO.g s p1 4) mb_X8_inside ms_X8_inside lk_X8_89 rfl ⟨(Nat.le_of_ble_eq_true rfl), (Nat.le_of_ble_eq_true rfl)⟩ (Nat.le_of_ble_eq_true rfl) rfl dX8_lay_2 5 rfl hf (fun r1 s2 hf => ?_)
  obtain ⟨h3, hf⟩ := chk_some hf
  refine at_if_eq hO h3 dX8_lay_5 16 rfl 8 rfl hf (fun hf => ?_) (fun hf => ?_)
  · refine at_bipush hO (by decide) dX8_lay_16 18 rfl ?_
    exact at_ireturn hO dX8_lay_18 hf
  · refine at_iload_n hO 2 rfl rfl dX8_lay_8 9 rfl ?_
    refine at_iconst hO dX8_lay_9 10 rfl ?_
    refine at_callS1 (As := [vi p2, vi 3]) (st := []) hO (c_X8_inside _ G hO.g s2 p2 3) mb_X8_inside ms_X8_inside lk_X8_89 rfl ⟨(Nat.le_of_ble_eq_true rfl), (Nat.le_of_ble_eq_true rfl)⟩ (Nat.le_of_ble_eq_true rfl) rfl dX8_lay_10 13 rfl hf (fun r4 s5 hf => ?_)
    obtain ⟨h6, hf⟩ := chk_some hf
    refine at_if_ne hO h6 dX8_lay_13 19 rfl 16 rfl hf (fun hf => ?_) (fun hf => ?_)
    · refine at_aload_n hO 0 rfl rfl dX8_lay_19 20 rfl ?_
      refine at_getR hO fl_X8_74 rfl rfl dX8_lay_20 23 rfl ?_
      refine at_iload_n hO 1 rfl rfl dX8_lay_23 24 rfl ?_
      obtain ⟨h7, hf⟩ := chk_some hf
      refine at_aaload4 hO rfl (Nat.le_of_ble_eq_true rfl) h7 (50 + p1.toNat) rfl dX8_lay_24 25 rfl ?_
      refine at_iload_n hO 2 rfl rfl dX8_lay_25 26 rfl ?_
      refine at_iload_n hO 3 rfl rfl dX8_lay_26 27 rfl ?_
      refine at_callV1 (As := [vi p2, vi p3]) (st := []) hO (c_X4_trouble _ G hO.g p1.toNat (ix_nat h7) s5 p2 p3) mb_X4_trouble mi_X4_trouble lk_X8_277 (tb_sheet (ix_nat h7)) ⟨_, rfl, rfl⟩ rfl ⟨(Nat.le_of_ble_eq_true rfl), (Nat.le_of_ble_eq_true rfl)⟩ (Nat.le_of_ble_eq_true rfl) rfl dX8_lay_27 30 rfl hf (fun r8 s9 hf => ?_)
      refine at_istore hO (lv' := [(5, vi r8), (0, vr G 0), (1, vi p1), (2, vi p2), (3, vi p3), (4, vi p4)]) (Nat.le_of_ble_eq_true rfl) rfl dX8_lay_30 32 rfl ?_
      refine at_iload hO 0 rfl dX8_lay_32 34 rfl ?_
      obtain ⟨h10, hf⟩ := chk_some hf
      refine at_if_eq hO h10 dX8_lay_34 44 rfl 37 rfl hf (fun hf => ?_) (fun hf => ?_)
      · refine at_aload_n hO 1 rfl rfl dX8_lay_44 45 rfl ?_
        refine at_getR hO fl_X8_74 rfl rfl dX8_lay_45 48 rfl ?_
        refine at_iload_n hO 2 rfl rfl dX8_lay_48 49 rfl ?_
        refine at_aaload4 hO rfl (Nat.le_of_ble_eq_true rfl) h7 (50 + p1.toNat) rfl dX8_lay_49 50 rfl ?_
        refine at_iload_n hO 4 rfl rfl dX8_lay_50 51 rfl ?_
        refine at_iload hO 5 rfl dX8_lay_51 53 rfl ?_
        refine at_callV0 (As := [vi p3, vi p4]) (st := []) hO (c_X4_put _ G hO.g p1.toNat (ix_nat h7) s9 p3 p4) mb_X4_put mi_X4_put lk_X8_280 (tb_sheet (ix_nat h7)) ⟨_, rfl, rfl⟩ rfl ⟨(Nat.le_of_ble_eq_true rfl), (Nat.le_of_ble_eq_true rfl)⟩ (Nat.le_of_ble_eq_true rfl) rfl dX8_lay_53 56 rfl hf (fun r11 s12 hf => ?_)
        refine at_iconst hO dX8_lay_56 57 rfl ?_
        exact at_ireturn hO dX8_lay_57 hf
      · refine at_aload_n hO 1 rfl rfl dX8_lay_37 38 rfl ?_
        refine at_iload hO 0 rfl dX8_lay_38 40 rfl ?_
        refine at_callV1 (As := [vi r8]) (st := []) hO (c_X8_find _ G hO.g s9 r8) mb_X8_find mi_X8_find lk_X8_155 rfl ⟨_, rfl, rfl⟩ rfl ⟨(Nat.le_of_ble_eq_true rfl), (Nat.le_of_ble_eq_true rfl)⟩ (Nat.le_of_ble_eq_true rfl) rfl dX8_lay_40 43 rfl hf (fun r13 s14 hf => ?_)
        exact at_ireturn hO dX8_lay_43 hf
    · refine at_bipush hO (by decide) dX8_lay_16 18 rfl ?_
      exact at_ireturn hO dX8_lay_18 hf

def f_X8_get (s : St) (p1 p2 p3 : Int) : Option Rt := cll (f_X8_inside s p1 4) (fun r1 s2 => chk (in32 r1) ((if r1 = 0 then some ((-2147483648), s2) else cll (f_X8_inside s2 p2 3) (fun r4 s5 => chk (in32 r4) ((if r4 = 0 then some ((-2147483648), s5) else chk (ix p1 4) (cll (f_X4_trouble p1.toNat s5 p2 p3) (fun r8 s9 => chk (in32 r8) ((if r8 = 0 then cll (f_X4_item p1.toNat s9 p3) (fun r11 s12 => some (r11, s12)) else cll (f_X8_find s9 r8) (fun r13 s14 => some ((-2147483648), s14))))))))))))
set_option maxRecDepth 100000 in
set_option maxHeartbeats 4000000 in
theorem c_X8_get (l : Launch) (G : Ge) (hG : rr_GD G) (s : St) (p1 p2 p3 : Int) : rr_Ct l G yX8_get cX8_get 5 (some .int) 2 43 1 [vr G 0, vi p1, vi p2, vi p3] s (f_X8_get s p1 p2 p3) := by
  refine rr_mk (lv := [(0, vr G 0), (1, vi p1), (2, vi p2), (3, vi p3)]) RX8 (by decide) rfl hG (Nat.le_of_ble_eq_true rfl) rfl ?_
  intro X Z hO hf
  unfold f_X8_get at hf
  refine at_iload_n hO 1 rfl rfl dX8_get_0 1 rfl ?_
  refine at_iconst hO dX8_get_1 2 rfl ?_
  refine at_callS1 (As := [vi p1, vi 4]) (st := []) hO (c_X8_inside _ G hO.g s p1 4) mb_X8_inside ms_X8_inside lk_X8_89 rfl ⟨(Nat.le_of_ble_eq_true rfl), (Nat.le_of_ble_eq_true rfl)⟩ (Nat.le_of_ble_eq_true rfl) rfl dX8_get_2 5 rfl hf (fun r1 s2 hf => ?_)
  obtain ⟨h3, hf⟩ := chk_some hf
  refine at_if_eq hO h3 dX8_get_5 16 rfl 8 rfl hf (fun hf => ?_) (fun hf => ?_)
  · refine at_ldc_w (n := (-2147483648)) hO lc_X8_283 (by decide) dX8_get_16 19 rfl ?_
    exact at_ireturn hO dX8_get_19 hf
  · refine at_iload_n hO 2 rfl rfl dX8_get_8 9 rfl ?_
    refine at_iconst hO dX8_get_9 10 rfl ?_
    refine at_callS1 (As := [vi p2, vi 3]) (st := []) hO (c_X8_inside _ G hO.g s2 p2 3) mb_X8_inside ms_X8_inside lk_X8_89 rfl ⟨(Nat.le_of_ble_eq_true rfl), (Nat.le_of_ble_eq_true rfl)⟩ (Nat.le_of_ble_eq_true rfl) rfl dX8_get_10 13 rfl hf (fun r4 s5 hf => ?_)
    obtain ⟨h6, hf⟩ := chk_some hf
    refine at_if_ne hO h6 dX8_get_13 20 rfl 16 rfl hf (fun hf => ?_) (fun hf => ?_)
    · refine at_aload_n hO 0 rfl rfl dX8_get_20 21 rfl ?_
      refine at_getR hO fl_X8_74 rfl rfl dX8_get_21 24 rfl ?_
      refine at_iload_n hO 1 rfl rfl dX8_get_24 25 rfl ?_
      obtain ⟨h7, hf⟩ := chk_some hf
      refine at_aaload4 hO rfl (Nat.le_of_ble_eq_true rfl) h7 (50 + p1.toNat) rfl dX8_get_25 26 rfl ?_
      refine at_iload_n hO 2 rfl rfl dX8_get_26 27 rfl ?_
      refine at_iload_n hO 3 rfl rfl dX8_get_27 28 rfl ?_
      refine at_callV1 (As := [vi p2, vi p3]) (st := []) hO (c_X4_trouble _ G hO.g p1.toNat (ix_nat h7) s5 p2 p3) mb_X4_trouble mi_X4_trouble lk_X8_277 (tb_sheet (ix_nat h7)) ⟨_, rfl, rfl⟩ rfl ⟨(Nat.le_of_ble_eq_true rfl), (Nat.le_of_ble_eq_true rfl)⟩ (Nat.le_of_ble_eq_true rfl) rfl dX8_get_28 31 rfl hf (fun r8 s9 hf => ?_)
      refine at_istore hO (lv' := [(4, vi r8), (0, vr G 0), (1, vi p1), (2, vi p2), (3, vi p3)]) (Nat.le_of_ble_eq_true rfl) rfl dX8_get_31 33 rfl ?_
      refine at_iload hO 0 rfl dX8_get_33 35 rfl ?_
      obtain ⟨h10, hf⟩ := chk_some hf
      refine at_if_eq hO h10 dX8_get_35 49 rfl 38 rfl hf (fun hf => ?_) (fun hf => ?_)
      · refine at_aload_n hO 1 rfl rfl dX8_get_49 50 rfl ?_
        refine at_getR hO fl_X8_74 rfl rfl dX8_get_50 53 rfl ?_
        refine at_iload_n hO 2 rfl rfl dX8_get_53 54 rfl ?_
        refine at_aaload4 hO rfl (Nat.le_of_ble_eq_true rfl) h7 (50 + p1.toNat) rfl dX8_get_54 55 rfl ?_
        refine at_iload_n hO 4 rfl rfl dX8_get_55 56 rfl ?_
        refine at_callV1 (As := [vi p3]) (st := []) hO (c_X4_item _ G hO.g p1.toNat (ix_nat h7) s9 p3) mb_X4_item mi_X4_item lk_X8_284 (tb_sheet (ix_nat h7)) ⟨_, rfl, rfl⟩ rfl ⟨(Nat.le_of_ble_eq_true rfl), (Nat.le_of_ble_eq_true rfl)⟩ (Nat.le_of_ble_eq_true rfl) rfl dX8_get_56 59 rfl hf (fun r11 s12 hf => ?_)
        exact at_ireturn hO dX8_get_59 hf
      · refine at_aload_n hO 1 rfl rfl dX8_get_38 39 rfl ?_
        refine at_iload hO 0 rfl dX8_get_39 41 rfl ?_
        refine at_callV1 (As := [vi r8]) (st := []) hO (c_X8_find _ G hO.g s9 r8) mb_X8_find mi_X8_find lk_X8_155 rfl ⟨_, rfl, rfl⟩ rfl ⟨(Nat.le_of_ble_eq_true rfl), (Nat.le_of_ble_eq_true rfl)⟩ (Nat.le_of_ble_eq_true rfl) rfl dX8_get_41 44 rfl hf (fun r13 s14 hf => ?_)
        refine at_pop hO rfl dX8_get_44 45 rfl ?_
        refine at_ldc_w (n := (-2147483648)) hO lc_X8_283 (by decide) dX8_get_45 48 rfl ?_
        exact at_ireturn hO dX8_get_48 hf
    · refine at_ldc_w (n := (-2147483648)) hO lc_X8_283 (by decide) dX8_get_16 19 rfl ?_
      exact at_ireturn hO dX8_get_19 hf

def B_X8_copy_43 (s : St) : Option Rt := cll (f_X8_find s 1) (fun r1 s2 => some (r1, s2))
set_option maxRecDepth 100000 in
set_option maxHeartbeats 4000000 in
theorem wB_X8_copy_43 {X : CX} {G : Ge} {Z : Rt} (hO : rr_OK X G cX8_copy 6 RX8 (some .int) 1 26) (s : St) (hf : B_X8_copy_43 s = some Z) : rr_AT X G 6 1 Z 43 [(0, vr G 0)] [] s := by
  unfold B_X8_copy_43 at hf
  refine at_aload_n hO 0 rfl rfl dX8_copy_43 44 rfl ?_
  refine at_iconst hO dX8_copy_44 45 rfl ?_
  refine at_callV1 (As := [vi 1]) (st := []) hO (c_X8_find _ G hO.g s 1) mb_X8_find mi_X8_find lk_X8_155 rfl ⟨_, rfl, rfl⟩ rfl ⟨(Nat.le_of_ble_eq_true rfl), (Nat.le_of_ble_eq_true rfl)⟩ (Nat.le_of_ble_eq_true rfl) rfl dX8_copy_45 48 rfl hf (fun r1 s2 hf => ?_)
  exact at_ireturn hO dX8_copy_48 hf
def B_X8_copy_107 (s : St) : Option Rt := cll (f_X8_find s 2) (fun r1 s2 => some (r1, s2))
set_option maxRecDepth 100000 in
set_option maxHeartbeats 4000000 in
theorem wB_X8_copy_107 {X : CX} {G : Ge} {Z : Rt} (hO : rr_OK X G cX8_copy 6 RX8 (some .int) 1 26) (s : St) (hf : B_X8_copy_107 s = some Z) : rr_AT X G 6 1 Z 107 [(0, vr G 0)] [] s := by
  unfold B_X8_copy_107 at hf
  refine at_aload_n hO 0 rfl rfl dX8_copy_107 108 rfl ?_
  refine at_iconst hO dX8_copy_108 109 rfl ?_
  refine at_callV1 (As := [vi 2]) (st := []) hO (c_X8_find _ G hO.g s 2) mb_X8_find mi_X8_find lk_X8_155 rfl ⟨_, rfl, rfl⟩ rfl ⟨(Nat.le_of_ble_eq_true rfl), (Nat.le_of_ble_eq_true rfl)⟩ (Nat.le_of_ble_eq_true rfl) rfl dX8_copy_109 112 rfl hf (fun r1 s2 hf => ?_)
  exact at_ireturn hO dX8_copy_112 hf
def f_X8_copy (s : St) (p1 p2 p3 p4 p5 : Int) : Option Rt := cll (f_X8_inside s p1 4) (fun r1 s2 => chk (in32 r1) ((if r1 = 0 then some ((-2), s2) else cll (f_X8_inside s2 p3 4) (fun r4 s5 => chk (in32 r4) ((if r4 = 0 then some ((-2), s5) else chk (ix p1 4) (cll (f_X4_isLost p1.toNat s5) (fun r8 s9 => chk (in32 r8) ((if r8 = 0 then chk (ix p3 4) (cll (f_X4_isLost p3.toNat s9) (fun r12 s13 => chk (in32 r12) ((if r12 = 0 then chk (in32 (s13 (50 + p1.toNat) 1)) (chk (in32 (s13 (50 + p3.toNat) 1)) ((if (s13 (50 + p1.toNat) 1) = (s13 (50 + p3.toNat) 1) then cll (f_X4_hasRun p1.toNat s13 p2 p5) (fun r17 s18 => chk (in32 r17) ((if r17 = 0 then B_X8_copy_107 s18 else cll (f_X4_hasRun p3.toNat s18 p4 p5) (fun r20 s21 => chk (in32 r20) ((if r20 = 0 then B_X8_copy_107 s21 else chk ((0 ≤ p2 ∧ 0 ≤ p4) ∧ 0 ≤ p5 ∧ p2 + p5 ≤ 60 ∧ p4 + p5 ≤ 60) (some (1, (scp s21 (54 + p1.toNat) p2.toNat (54 + p3.toNat) p4.toNat p5.toNat))))))))) else cll (f_X8_find s13 4) (fun r24 s25 => some (r24, s25))))) else B_X8_copy_43 s13)))) else B_X8_copy_43 s9))))))))))
set_option maxRecDepth 100000 in
set_option maxHeartbeats 4000000 in
theorem c_X8_copy (l : Launch) (G : Ge) (hG : rr_GD G) (s : St) (p1 p2 p3 p4 p5 : Int) : rr_Ct l G yX8_copy cX8_copy 6 (some .int) 1 26 1 [vr G 0, vi p1, vi p2, vi p3, vi p4, vi p5] s (f_X8_copy s p1 p2 p3 p4 p5) := by
  refine rr_mk (lv := [(0, vr G 0), (1, vi p1), (2, vi p2), (3, vi p3), (4, vi p4), (5, vi p5)]) RX8 (by decide) rfl hG (Nat.le_of_ble_eq_true rfl) rfl ?_
  intro X Z hO hf
  unfold f_X8_copy at hf
  refine at_iload_n hO 1 rfl rfl dX8_copy_0 1 rfl ?_
  refine at_iconst hO dX8_copy_1 2 rfl ?_
  refine at_callS1 (As := [vi p1, vi 4]) (st := []) hO (c_X8_inside _ G hO.g s p1 4) mb_X8_inside ms_X8_inside lk_X8_89 rfl ⟨(Nat.le_of_ble_eq_true rfl), (Nat.le_of_ble_eq_true rfl)⟩ (Nat.le_of_ble_eq_true rfl) rfl dX8_copy_2 5 rfl hf (fun r1 s2 hf => ?_)
  obtain ⟨h3, hf⟩ := chk_some hf
  refine at_if_eq hO h3 dX8_copy_5 16 rfl 8 rfl hf (fun hf => ?_) (fun hf => ?_)
  · refine at_bipush hO (by decide) dX8_copy_16 18 rfl ?_
    exact at_ireturn hO dX8_copy_18 hf
  · refine at_iload_n hO 3 rfl rfl dX8_copy_8 9 rfl ?_
    refine at_iconst hO dX8_copy_9 10 rfl ?_
    refine at_callS1 (As := [vi p3, vi 4]) (st := []) hO (c_X8_inside _ G hO.g s2 p3 4) mb_X8_inside ms_X8_inside lk_X8_89 rfl ⟨(Nat.le_of_ble_eq_true rfl), (Nat.le_of_ble_eq_true rfl)⟩ (Nat.le_of_ble_eq_true rfl) rfl dX8_copy_10 13 rfl hf (fun r4 s5 hf => ?_)
    obtain ⟨h6, hf⟩ := chk_some hf
    refine at_if_ne hO h6 dX8_copy_13 19 rfl 16 rfl hf (fun hf => ?_) (fun hf => ?_)
    · refine at_aload_n hO 0 rfl rfl dX8_copy_19 20 rfl ?_
      refine at_getR hO fl_X8_74 rfl rfl dX8_copy_20 23 rfl ?_
      refine at_iload_n hO 1 rfl rfl dX8_copy_23 24 rfl ?_
      obtain ⟨h7, hf⟩ := chk_some hf
      refine at_aaload4 hO rfl (Nat.le_of_ble_eq_true rfl) h7 (50 + p1.toNat) rfl dX8_copy_24 25 rfl ?_
      refine at_callV1 (As := []) (st := []) hO (c_X4_isLost _ G hO.g p1.toNat (ix_nat h7) s5 ) mb_X4_isLost mi_X4_isLost lk_X8_152 (tb_sheet (ix_nat h7)) ⟨_, rfl, rfl⟩ rfl ⟨(Nat.le_of_ble_eq_true rfl), (Nat.le_of_ble_eq_true rfl)⟩ (Nat.le_of_ble_eq_true rfl) rfl dX8_copy_25 28 rfl hf (fun r8 s9 hf => ?_)
      obtain ⟨h10, hf⟩ := chk_some hf
      refine at_if_ne hO h10 dX8_copy_28 43 rfl 31 rfl hf (fun hf => ?_) (fun hf => ?_)
      · exact at_sub (fun ls h => lv_sub h [0] rfl) (wB_X8_copy_43 hO s9 hf)
      · refine at_aload_n hO 0 rfl rfl dX8_copy_31 32 rfl ?_
        refine at_getR hO fl_X8_74 rfl rfl dX8_copy_32 35 rfl ?_
        refine at_iload_n hO 3 rfl rfl dX8_copy_35 36 rfl ?_
        obtain ⟨h11, hf⟩ := chk_some hf
        refine at_aaload4 hO rfl (Nat.le_of_ble_eq_true rfl) h11 (50 + p3.toNat) rfl dX8_copy_36 37 rfl ?_
        refine at_callV1 (As := []) (st := []) hO (c_X4_isLost _ G hO.g p3.toNat (ix_nat h11) s9 ) mb_X4_isLost mi_X4_isLost lk_X8_152 (tb_sheet (ix_nat h11)) ⟨_, rfl, rfl⟩ rfl ⟨(Nat.le_of_ble_eq_true rfl), (Nat.le_of_ble_eq_true rfl)⟩ (Nat.le_of_ble_eq_true rfl) rfl dX8_copy_37 40 rfl hf (fun r12 s13 hf => ?_)
        obtain ⟨h14, hf⟩ := chk_some hf
        refine at_if_eq hO h14 dX8_copy_40 49 rfl 43 rfl hf (fun hf => ?_) (fun hf => ?_)
        · refine at_aload_n hO 0 rfl rfl dX8_copy_49 50 rfl ?_
          refine at_getR hO fl_X8_74 rfl rfl dX8_copy_50 53 rfl ?_
          refine at_iload_n hO 1 rfl rfl dX8_copy_53 54 rfl ?_
          refine at_aaload4 hO rfl (Nat.le_of_ble_eq_true rfl) h7 (50 + p1.toNat) rfl dX8_copy_54 55 rfl ?_
          refine at_getIN hO fl_X8_287 (tb_sheet (ix_nat h7)) rfl dX8_copy_55 58 rfl ?_
          refine at_aload_n hO 0 rfl rfl dX8_copy_58 59 rfl ?_
          refine at_getR hO fl_X8_74 rfl rfl dX8_copy_59 62 rfl ?_
          refine at_iload_n hO 3 rfl rfl dX8_copy_62 63 rfl ?_
          refine at_aaload4 hO rfl (Nat.le_of_ble_eq_true rfl) h11 (50 + p3.toNat) rfl dX8_copy_63 64 rfl ?_
          refine at_getIN hO fl_X8_287 (tb_sheet (ix_nat h11)) rfl dX8_copy_64 67 rfl ?_
          obtain ⟨h15, hf⟩ := chk_some hf
          obtain ⟨h16, hf⟩ := chk_some hf
          refine at_icmp_eq hO h15 h16 dX8_copy_67 76 rfl 70 rfl hf (fun hf => ?_) (fun hf => ?_)
          · refine at_aload_n hO 0 rfl rfl dX8_copy_76 77 rfl ?_
            refine at_getR hO fl_X8_74 rfl rfl dX8_copy_77 80 rfl ?_
            refine at_iload_n hO 1 rfl rfl dX8_copy_80 81 rfl ?_
            refine at_aaload4 hO rfl (Nat.le_of_ble_eq_true rfl) h7 (50 + p1.toNat) rfl dX8_copy_81 82 rfl ?_
            refine at_iload_n hO 2 rfl rfl dX8_copy_82 83 rfl ?_
            refine at_iload hO 5 rfl dX8_copy_83 85 rfl ?_
            refine at_callV1 (As := [vi p2, vi p5]) (st := []) hO (c_X4_hasRun _ G hO.g p1.toNat (ix_nat h7) s13 p2 p5) mb_X4_hasRun mi_X4_hasRun lk_X8_290 (tb_sheet (ix_nat h7)) ⟨_, rfl, rfl⟩ rfl ⟨(Nat.le_of_ble_eq_true rfl), (Nat.le_of_ble_eq_true rfl)⟩ (Nat.le_of_ble_eq_true rfl) rfl dX8_copy_85 88 rfl hf (fun r17 s18 hf => ?_)
            obtain ⟨h19, hf⟩ := chk_some hf
            refine at_if_eq hO h19 dX8_copy_88 107 rfl 91 rfl hf (fun hf => ?_) (fun hf => ?_)
            · exact at_sub (fun ls h => lv_sub h [0] rfl) (wB_X8_copy_107 hO s18 hf)
            · refine at_aload_n hO 0 rfl rfl dX8_copy_91 92 rfl ?_
              refine at_getR hO fl_X8_74 rfl rfl dX8_copy_92 95 rfl ?_
              refine at_iload_n hO 3 rfl rfl dX8_copy_95 96 rfl ?_
              refine at_aaload4 hO rfl (Nat.le_of_ble_eq_true rfl) h11 (50 + p3.toNat) rfl dX8_copy_96 97 rfl ?_
              refine at_iload hO 4 rfl dX8_copy_97 99 rfl ?_
              refine at_iload hO 5 rfl dX8_copy_99 101 rfl ?_
              refine at_callV1 (As := [vi p4, vi p5]) (st := []) hO (c_X4_hasRun _ G hO.g p3.toNat (ix_nat h11) s18 p4 p5) mb_X4_hasRun mi_X4_hasRun lk_X8_290 (tb_sheet (ix_nat h11)) ⟨_, rfl, rfl⟩ rfl ⟨(Nat.le_of_ble_eq_true rfl), (Nat.le_of_ble_eq_true rfl)⟩ (Nat.le_of_ble_eq_true rfl) rfl dX8_copy_101 104 rfl hf (fun r20 s21 hf => ?_)
              obtain ⟨h22, hf⟩ := chk_some hf
              refine at_if_ne hO h22 dX8_copy_104 113 rfl 107 rfl hf (fun hf => ?_) (fun hf => ?_)
              · refine at_aload_n hO 0 rfl rfl dX8_copy_113 114 rfl ?_
                refine at_getR hO fl_X8_74 rfl rfl dX8_copy_114 117 rfl ?_
                refine at_iload_n hO 1 rfl rfl dX8_copy_117 118 rfl ?_
                refine at_aaload4 hO rfl (Nat.le_of_ble_eq_true rfl) h7 (50 + p1.toNat) rfl dX8_copy_118 119 rfl ?_
                refine at_getRN hO fl_X8_293 (tb_sheet (ix_nat h7)) rfl dX8_copy_119 122 rfl ?_
                refine at_iload_n hO 2 rfl rfl dX8_copy_122 123 rfl ?_
                refine at_aload_n hO 0 rfl rfl dX8_copy_123 124 rfl ?_
                refine at_getR hO fl_X8_74 rfl rfl dX8_copy_124 127 rfl ?_
                refine at_iload_n hO 3 rfl rfl dX8_copy_127 128 rfl ?_
                refine at_aaload4 hO rfl (Nat.le_of_ble_eq_true rfl) h11 (50 + p3.toNat) rfl dX8_copy_128 129 rfl ?_
                refine at_getRN hO fl_X8_293 (tb_sheet (ix_nat h11)) rfl dX8_copy_129 132 rfl ?_
                refine at_iload hO 4 rfl dX8_copy_132 134 rfl ?_
                refine at_iload hO 5 rfl dX8_copy_134 136 rfl ?_
                obtain ⟨h23, hf⟩ := chk_some hf
                refine at_copy hO lk_X8_296 ac_nat ac_stat ac_ini (tb_items (ix_nat h7)) (tb_items (ix_nat h11)) (Nat.le_of_ble_eq_true rfl) (Nat.le_of_ble_eq_true rfl) h23.1.1 h23.1.2 h23.2.1 h23.2.2.1 h23.2.2.2 ⟨(Nat.le_of_ble_eq_true rfl), by decide⟩ dX8_copy_136 139 rfl ?_
                refine at_iconst hO dX8_copy_139 140 rfl ?_
                exact at_ireturn hO dX8_copy_140 hf
              · exact at_sub (fun ls h => lv_sub h [0] rfl) (wB_X8_copy_107 hO s21 hf)
          · refine at_aload_n hO 0 rfl rfl dX8_copy_70 71 rfl ?_
            refine at_iconst hO dX8_copy_71 72 rfl ?_
            refine at_callV1 (As := [vi 4]) (st := []) hO (c_X8_find _ G hO.g s13 4) mb_X8_find mi_X8_find lk_X8_155 rfl ⟨_, rfl, rfl⟩ rfl ⟨(Nat.le_of_ble_eq_true rfl), (Nat.le_of_ble_eq_true rfl)⟩ (Nat.le_of_ble_eq_true rfl) rfl dX8_copy_72 75 rfl hf (fun r24 s25 hf => ?_)
            exact at_ireturn hO dX8_copy_75 hf
        · exact at_sub (fun ls h => lv_sub h [0] rfl) (wB_X8_copy_43 hO s13 hf)
    · refine at_bipush hO (by decide) dX8_copy_16 18 rfl ?_
      exact at_ireturn hO dX8_copy_18 hf
