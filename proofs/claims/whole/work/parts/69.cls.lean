/-! CONSTRUCTOR OF THE CLASS: words, what each part makes, a turn of each loop -/
theorem fw_X8_11 : rr_FW RX8 11 8 0 true (.array (.object "RoadRiver$Text")) := ⟨RX8, TX8, 11, tyX8, rfl, inX8, tyX8_ok, nmX8, by decide, rr_in (List.mem_append_right _ (List.mem_of_getElem? (i := 234) (by decide +kernel))) rfl, rfl, by decide +kernel, rfl⟩
theorem fw_X8_15 : rr_FW RX8 15 8 1 true (.array .int) := ⟨RX8, TX8, 11, tyX8, rfl, inX8, tyX8_ok, nmX8, by decide, rr_in (List.mem_append_right _ (List.mem_of_getElem? (i := 235) (by decide +kernel))) rfl, rfl, by decide +kernel, rfl⟩
theorem fw_X8_19 : rr_FW RX8 19 8 2 true (.array .int) := ⟨RX8, TX8, 11, tyX8, rfl, inX8, tyX8_ok, nmX8, by decide, rr_in (List.mem_append_right _ (List.mem_of_getElem? (i := 236) (by decide +kernel))) rfl, rfl, by decide +kernel, rfl⟩
theorem fw_X8_25 : rr_FW RX8 25 8 3 true (.object "RoadRiver$Dikes") := ⟨RX8, TX8, 11, tyX8, rfl, inX8, tyX8_ok, nmX8, by decide, rr_in (List.mem_append_right _ (List.mem_of_getElem? (i := 237) (by decide +kernel))) rfl, rfl, by decide +kernel, rfl⟩
theorem fw_X8_34 : rr_FW RX8 34 8 4 true (.object "RoadRiver$Valley") := ⟨RX8, TX8, 11, tyX8, rfl, inX8, tyX8_ok, nmX8, by decide, rr_in (List.mem_append_right _ (List.mem_of_getElem? (i := 238) (by decide +kernel))) rfl, rfl, by decide +kernel, rfl⟩
theorem fw_X8_43 : rr_FW RX8 43 8 5 true (.object "RoadRiver$Waiting") := ⟨RX8, TX8, 11, tyX8, rfl, inX8, tyX8_ok, nmX8, by decide, rr_in (List.mem_append_right _ (List.mem_of_getElem? (i := 239) (by decide +kernel))) rfl, rfl, by decide +kernel, rfl⟩
theorem fw_X8_52 : rr_FW RX8 52 8 6 true (.object "RoadRiver$Keeping") := ⟨RX8, TX8, 11, tyX8, rfl, inX8, tyX8_ok, nmX8, by decide, rr_in (List.mem_append_right _ (List.mem_of_getElem? (i := 240) (by decide +kernel))) rfl, rfl, by decide +kernel, rfl⟩
theorem fw_X8_61 : rr_FW RX8 61 8 7 true (.object "RoadRiver$Contracts") := ⟨RX8, TX8, 11, tyX8, rfl, inX8, tyX8_ok, nmX8, by decide, rr_in (List.mem_append_right _ (List.mem_of_getElem? (i := 241) (by decide +kernel))) rfl, rfl, by decide +kernel, rfl⟩
theorem fw_X8_68 : rr_FW RX8 68 8 8 true (.object "RoadRiver$Facts") := ⟨RX8, TX8, 11, tyX8, rfl, inX8, tyX8_ok, nmX8, by decide, rr_in (List.mem_append_right _ (List.mem_of_getElem? (i := 242) (by decide +kernel))) rfl, rfl, by decide +kernel, rfl⟩
theorem fw_X8_74 : rr_FW RX8 74 8 9 true (.array (.object "RoadRiver$Sheet")) := ⟨RX8, TX8, 11, tyX8, rfl, inX8, tyX8_ok, nmX8, by decide, rr_in (List.mem_append_right _ (List.mem_of_getElem? (i := 243) (by decide +kernel))) rfl, rfl, by decide +kernel, rfl⟩
theorem fw_X8_78 : rr_FW RX8 78 8 10 false .int := ⟨RX8, TX8, 11, tyX8, rfl, inX8, tyX8_ok, nmX8, by decide, rr_in (List.mem_append_right _ (List.mem_of_getElem? (i := 244) (by decide +kernel))) rfl, rfl, by decide +kernel, rfl⟩
theorem mb_X0_init : rr_MB yX0_init cX0_init 3 none 2 := ⟨rr_in (List.mem_append_right _ (List.mem_of_getElem? (i := 137) (by decide +kernel))) rfl, rr_in (List.mem_append_right _ (List.mem_of_getElem? (i := 6) (by decide +kernel))) rfl, ⟨by decide +kernel, by decide +kernel⟩, by decide +kernel⟩
theorem ii_X0_init : Cond.instanceMethod yX0_init ∈ rr_tbl := rr_in (List.mem_append_right _ (List.mem_of_getElem? (i := 136) (by decide +kernel))) rfl
theorem nf_X0 : ∀ j, j < 10 → defaultValue (tyX0 j) = vp_V [.null, .null, .null, .null, .null, .null, .int 0, .int 0, .int 0, .int 0] j := by
  intro j hj
  match j, hj with
  | 0, _ => rfl
  | 1, _ => rfl
  | 2, _ => rfl
  | 3, _ => rfl
  | 4, _ => rfl
  | 5, _ => rfl
  | 6, _ => rfl
  | 7, _ => rfl
  | 8, _ => rfl
  | 9, _ => rfl
  | n + 10, h => exact absurd h (by omega)
theorem mb_X1_init : rr_MB yX1_init cX1_init 1 none 0 := ⟨rr_in (List.mem_append_right _ (List.mem_of_getElem? (i := 28) (by decide +kernel))) rfl, rr_in (List.mem_append_right _ (List.mem_of_getElem? (i := 2) (by decide +kernel))) rfl, ⟨by decide +kernel, by decide +kernel⟩, by decide +kernel⟩
theorem ii_X1_init : Cond.instanceMethod yX1_init ∈ rr_tbl := rr_in (List.mem_append_right _ (List.mem_of_getElem? (i := 27) (by decide +kernel))) rfl
theorem nf_X1 : ∀ j, j < 4 → defaultValue (tyX1 j) = vp_V [.null, .null, .null, .int 0] j := by
  intro j hj
  match j, hj with
  | 0, _ => rfl
  | 1, _ => rfl
  | 2, _ => rfl
  | 3, _ => rfl
  | n + 4, h => exact absurd h (by omega)
theorem mb_X2_init : rr_MB yX2_init cX2_init 1 none 0 := ⟨rr_in (List.mem_append_right _ (List.mem_of_getElem? (i := 179) (by decide +kernel))) rfl, rr_in (List.mem_append_right _ (List.mem_of_getElem? (i := 7) (by decide +kernel))) rfl, ⟨by decide +kernel, by decide +kernel⟩, by decide +kernel⟩
theorem ii_X2_init : Cond.instanceMethod yX2_init ∈ rr_tbl := rr_in (List.mem_append_right _ (List.mem_of_getElem? (i := 178) (by decide +kernel))) rfl
theorem nf_X2 : ∀ j, j < 4 → defaultValue (tyX2 j) = vp_V [.null, .null, .null, .int 0] j := by
  intro j hj
  match j, hj with
  | 0, _ => rfl
  | 1, _ => rfl
  | 2, _ => rfl
  | 3, _ => rfl
  | n + 4, h => exact absurd h (by omega)
theorem mb_X3_init : rr_MB yX3_init cX3_init 2 none 1 := ⟨rr_in (List.mem_append_right _ (List.mem_of_getElem? (i := 115) (by decide +kernel))) rfl, rr_in (List.mem_append_right _ (List.mem_of_getElem? (i := 5) (by decide +kernel))) rfl, ⟨by decide +kernel, by decide +kernel⟩, by decide +kernel⟩
theorem ii_X3_init : Cond.instanceMethod yX3_init ∈ rr_tbl := rr_in (List.mem_append_right _ (List.mem_of_getElem? (i := 114) (by decide +kernel))) rfl
theorem nf_X3 : ∀ j, j < 4 → defaultValue (tyX3 j) = vp_V [.null, .int 0, .int 0, .int 0] j := by
  intro j hj
  match j, hj with
  | 0, _ => rfl
  | 1, _ => rfl
  | 2, _ => rfl
  | 3, _ => rfl
  | n + 4, h => exact absurd h (by omega)
theorem mb_X4_init : rr_MB yX4_init cX4_init 1 none 0 := ⟨rr_in (List.mem_append_right _ (List.mem_of_getElem? (i := 218) (by decide +kernel))) rfl, rr_in (List.mem_append_right _ (List.mem_of_getElem? (i := 10) (by decide +kernel))) rfl, ⟨by decide +kernel, by decide +kernel⟩, by decide +kernel⟩
theorem ii_X4_init : Cond.instanceMethod yX4_init ∈ rr_tbl := rr_in (List.mem_append_right _ (List.mem_of_getElem? (i := 217) (by decide +kernel))) rfl
theorem nf_X4 : ∀ j, j < 3 → defaultValue (tyX4 j) = vp_V [.null, .int 0, .int 0] j := by
  intro j hj
  match j, hj with
  | 0, _ => rfl
  | 1, _ => rfl
  | 2, _ => rfl
  | n + 3, h => exact absurd h (by omega)
theorem mb_X5_init : rr_MB yX5_init cX5_init 2 none 1 := ⟨rr_in (List.mem_append_right _ (List.mem_of_getElem? (i := 200) (by decide +kernel))) rfl, rr_in (List.mem_append_right _ (List.mem_of_getElem? (i := 8) (by decide +kernel))) rfl, ⟨by decide +kernel, by decide +kernel⟩, by decide +kernel⟩
theorem ii_X5_init : Cond.instanceMethod yX5_init ∈ rr_tbl := rr_in (List.mem_append_right _ (List.mem_of_getElem? (i := 199) (by decide +kernel))) rfl
theorem nf_X5 : ∀ j, j < 2 → defaultValue (tyX5 j) = vp_V [.null, .int 0] j := by
  intro j hj
  match j, hj with
  | 0, _ => rfl
  | 1, _ => rfl
  | n + 2, h => exact absurd h (by omega)
theorem mb_X6_init : rr_MB yX6_init cX6_init 4 none 3 := ⟨rr_in (List.mem_append_right _ (List.mem_of_getElem? (i := 49) (by decide +kernel))) rfl, rr_in (List.mem_append_right _ (List.mem_of_getElem? (i := 3) (by decide +kernel))) rfl, ⟨by decide +kernel, by decide +kernel⟩, by decide +kernel⟩
theorem ii_X6_init : Cond.instanceMethod yX6_init ∈ rr_tbl := rr_in (List.mem_append_right _ (List.mem_of_getElem? (i := 48) (by decide +kernel))) rfl
theorem nf_X6 : ∀ j, j < 9 → defaultValue (tyX6 j) = vp_V [.null, .null, .null, .null, .null, .null, .null, .null, .int 0] j := by
  intro j hj
  match j, hj with
  | 0, _ => rfl
  | 1, _ => rfl
  | 2, _ => rfl
  | 3, _ => rfl
  | 4, _ => rfl
  | 5, _ => rfl
  | 6, _ => rfl
  | 7, _ => rfl
  | 8, _ => rfl
  | n + 9, h => exact absurd h (by omega)
theorem mb_X7_init : rr_MB yX7_init cX7_init 4 none 3 := ⟨rr_in (List.mem_append_right _ (List.mem_of_getElem? (i := 85) (by decide +kernel))) rfl, rr_in (List.mem_append_right _ (List.mem_of_getElem? (i := 4) (by decide +kernel))) rfl, ⟨by decide +kernel, by decide +kernel⟩, by decide +kernel⟩
theorem ii_X7_init : Cond.instanceMethod yX7_init ∈ rr_tbl := rr_in (List.mem_append_right _ (List.mem_of_getElem? (i := 84) (by decide +kernel))) rfl
theorem nf_X7 : ∀ j, j < 7 → defaultValue (tyX7 j) = vp_V [.null, .null, .null, .null, .null, .null, .null] j := by
  intro j hj
  match j, hj with
  | 0, _ => rfl
  | 1, _ => rfl
  | 2, _ => rfl
  | 3, _ => rfl
  | 4, _ => rfl
  | 5, _ => rfl
  | 6, _ => rfl
  | n + 7, h => exact absurd h (by omega)
theorem mb_X8_init : rr_MB yX8_init cX8_init 2 none 0 := ⟨rr_in (List.mem_append_right _ (List.mem_of_getElem? (i := 18) (by decide +kernel))) rfl, rr_in (List.mem_append_right _ (List.mem_of_getElem? (i := 1) (by decide +kernel))) rfl, ⟨by decide +kernel, by decide +kernel⟩, by decide +kernel⟩
theorem ii_X8_init : Cond.instanceMethod yX8_init ∈ rr_tbl := rr_in (List.mem_append_right _ (List.mem_of_getElem? (i := 17) (by decide +kernel))) rfl
theorem nf_X8 : ∀ j, j < 11 → defaultValue (tyX8 j) = vp_V [.null, .null, .null, .null, .null, .null, .null, .null, .null, .null, .int 0] j := by
  intro j hj
  match j, hj with
  | 0, _ => rfl
  | 1, _ => rfl
  | 2, _ => rfl
  | 3, _ => rfl
  | 4, _ => rfl
  | 5, _ => rfl
  | 6, _ => rfl
  | 7, _ => rfl
  | 8, _ => rfl
  | 9, _ => rfl
  | 10, _ => rfl
  | n + 11, h => exact absurd h (by omega)
theorem mb_X9_init : rr_MB yX9_init cX9_init 2 none 0 := ⟨rr_in (List.mem_append_right _ (List.mem_of_getElem? (i := 743) (by decide +kernel))) rfl, rr_in (List.mem_append_right _ (List.mem_of_getElem? (i := 11) (by decide +kernel))) rfl, ⟨by decide +kernel, by decide +kernel⟩, by decide +kernel⟩
theorem ii_X9_init : Cond.instanceMethod yX9_init ∈ rr_tbl := rr_in (List.mem_append_right _ (List.mem_of_getElem? (i := 742) (by decide +kernel))) rfl
theorem nf_X9 : ∀ j, j < 19 → defaultValue (tyX9 j) = vp_V [.null, .null, .null, .null, .int 0, .null, .null, .null, .null, .int 0, .null, .null, .int 0, .null, .int 0, .int 0, .long 0, .int 0, .null] j := by
  intro j hj
  match j, hj with
  | 0, _ => rfl
  | 1, _ => rfl
  | 2, _ => rfl
  | 3, _ => rfl
  | 4, _ => rfl
  | 5, _ => rfl
  | 6, _ => rfl
  | 7, _ => rfl
  | 8, _ => rfl
  | 9, _ => rfl
  | 10, _ => rfl
  | 11, _ => rfl
  | 12, _ => rfl
  | 13, _ => rfl
  | 14, _ => rfl
  | 15, _ => rfl
  | 16, _ => rfl
  | 17, _ => rfl
  | 18, _ => rfl
  | n + 19, h => exact absurd h (by omega)
theorem kl_X8_9 : Cond.classLink RX8 9 "RoadRiver$Text" ∈ rr_tbl := rr_in (List.mem_append_right _ (List.mem_of_getElem? (i := 22) (by decide +kernel))) rfl
theorem no_X8_22 : rr_NO RX8 22 1 4 [.null, .null, .null, .int 0] := ⟨RX1, TX1, tyX1, rfl, inX1, tyX1_ok, rr_in (List.mem_append_right _ (List.mem_of_getElem? (i := 24) (by decide +kernel))) rfl, rr_in (List.mem_append_right _ (List.mem_of_getElem? (i := 25) (by decide +kernel))) rfl, rr_in (List.mem_append_right _ (List.mem_of_getElem? (i := 2) (by decide +kernel))) rfl, nf_X1⟩
theorem no_X8_29 : rr_NO RX8 29 6 9 [.null, .null, .null, .null, .null, .null, .null, .null, .int 0] := ⟨RX6, TX6, tyX6, rfl, inX6, tyX6_ok, rr_in (List.mem_append_right _ (List.mem_of_getElem? (i := 45) (by decide +kernel))) rfl, rr_in (List.mem_append_right _ (List.mem_of_getElem? (i := 46) (by decide +kernel))) rfl, rr_in (List.mem_append_right _ (List.mem_of_getElem? (i := 3) (by decide +kernel))) rfl, nf_X6⟩
theorem no_X8_38 : rr_NO RX8 38 7 7 [.null, .null, .null, .null, .null, .null, .null] := ⟨RX7, TX7, tyX7, rfl, inX7, tyX7_ok, rr_in (List.mem_append_right _ (List.mem_of_getElem? (i := 81) (by decide +kernel))) rfl, rr_in (List.mem_append_right _ (List.mem_of_getElem? (i := 82) (by decide +kernel))) rfl, rr_in (List.mem_append_right _ (List.mem_of_getElem? (i := 4) (by decide +kernel))) rfl, nf_X7⟩
theorem no_X8_47 : rr_NO RX8 47 3 4 [.null, .int 0, .int 0, .int 0] := ⟨RX3, TX3, tyX3, rfl, inX3, tyX3_ok, rr_in (List.mem_append_right _ (List.mem_of_getElem? (i := 111) (by decide +kernel))) rfl, rr_in (List.mem_append_right _ (List.mem_of_getElem? (i := 112) (by decide +kernel))) rfl, rr_in (List.mem_append_right _ (List.mem_of_getElem? (i := 5) (by decide +kernel))) rfl, nf_X3⟩
theorem no_X8_56 : rr_NO RX8 56 0 10 [.null, .null, .null, .null, .null, .null, .int 0, .int 0, .int 0, .int 0] := ⟨RX0, TX0, tyX0, rfl, inX0, tyX0_ok, rr_in (List.mem_append_right _ (List.mem_of_getElem? (i := 133) (by decide +kernel))) rfl, rr_in (List.mem_append_right _ (List.mem_of_getElem? (i := 134) (by decide +kernel))) rfl, rr_in (List.mem_append_right _ (List.mem_of_getElem? (i := 6) (by decide +kernel))) rfl, nf_X0⟩
theorem no_X8_65 : rr_NO RX8 65 2 4 [.null, .null, .null, .int 0] := ⟨RX2, TX2, tyX2, rfl, inX2, tyX2_ok, rr_in (List.mem_append_right _ (List.mem_of_getElem? (i := 175) (by decide +kernel))) rfl, rr_in (List.mem_append_right _ (List.mem_of_getElem? (i := 176) (by decide +kernel))) rfl, rr_in (List.mem_append_right _ (List.mem_of_getElem? (i := 7) (by decide +kernel))) rfl, nf_X2⟩
theorem kl_X8_72 : Cond.classLink RX8 72 "RoadRiver$Sheet" ∈ rr_tbl := rr_in (List.mem_append_right _ (List.mem_of_getElem? (i := 195) (by decide +kernel))) rfl
theorem no_X8_9 : rr_NO RX8 9 5 2 [.null, .int 0] := ⟨RX5, TX5, tyX5, rfl, inX5, tyX5_ok, rr_in (List.mem_append_right _ (List.mem_of_getElem? (i := 22) (by decide +kernel))) rfl, rr_in (List.mem_append_right _ (List.mem_of_getElem? (i := 197) (by decide +kernel))) rfl, rr_in (List.mem_append_right _ (List.mem_of_getElem? (i := 8) (by decide +kernel))) rfl, nf_X5⟩
theorem no_X8_72 : rr_NO RX8 72 4 3 [.null, .int 0, .int 0] := ⟨RX4, TX4, tyX4, rfl, inX4, tyX4_ok, rr_in (List.mem_append_right _ (List.mem_of_getElem? (i := 195) (by decide +kernel))) rfl, rr_in (List.mem_append_right _ (List.mem_of_getElem? (i := 215) (by decide +kernel))) rfl, rr_in (List.mem_append_right _ (List.mem_of_getElem? (i := 10) (by decide +kernel))) rfl, nf_X4⟩
theorem no_L_7 : rr_NO RL 7 8 11 [.null, .null, .null, .null, .null, .null, .null, .null, .null, .null, .int 0] := ⟨RX8, TX8, tyX8, rfl, inX8, tyX8_ok, rr_in (List.mem_append_right _ (List.mem_of_getElem? (i := 14) (by decide +kernel))) rfl, rr_in (List.mem_append_right _ (List.mem_of_getElem? (i := 15) (by decide +kernel))) rfl, rr_in (List.mem_append_right _ (List.mem_of_getElem? (i := 1) (by decide +kernel))) rfl, nf_X8⟩
theorem no_L_10 : rr_NO RL 10 9 19 [.null, .null, .null, .null, .int 0, .null, .null, .null, .null, .int 0, .null, .null, .int 0, .null, .int 0, .int 0, .long 0, .int 0, .null] := ⟨RX9, TX9, tyX9, rfl, inX9, tyX9_ok, rr_in (List.mem_append_right _ (List.mem_of_getElem? (i := 739) (by decide +kernel))) rfl, rr_in (List.mem_append_right _ (List.mem_of_getElem? (i := 740) (by decide +kernel))) rfl, rr_in (List.mem_append_right _ (List.mem_of_getElem? (i := 11) (by decide +kernel))) rfl, nf_X9⟩
theorem gs_X8_85 : Cond.fieldLink RX8 85 "RoadRiver" "TERM_FIRST" "[I" ∈ rr_tbl := rr_in (List.mem_append_right _ (List.mem_of_getElem? (i := 213) (by decide +kernel))) rfl
def k1 (G : Ge) (a x0 x1 x2 : Nat) : va_W := [(a, .inr (1, [.ref x0, .ref x1, .ref x2, .int 0])), (x0, .inl (G.2.2.1 0, 8, .inl (fun _ => 0))), (x1, .inl (G.2.2.1 0, 8, .inl (fun _ => 0))), (x2, .inl (G.2.2.1 0, 8, .inl (fun _ => 0)))]
def k2 (G : Ge) (a x0 x1 x2 : Nat) : va_W := [(a, .inr (2, [.ref x0, .ref x1, .ref x2, .int 0])), (x0, .inl (G.2.2.1 0, 8, .inl (fun _ => 0))), (x1, .inl (G.2.2.1 0, 8, .inl (fun _ => 0))), (x2, .inl (G.2.2.1 0, 8, .inl (fun _ => 0)))]
def k0 (G : Ge) (a v ch x0 x1 x2 x3 x4 x5 x6 : Nat) : va_W := [(a, .inr (0, [.ref v, .ref ch, .ref x0, .ref x1, .ref x2, .ref x3, .int 0, .int 0, .int 0, .int 0]))] ++ [(x0, .inl (G.2.2.1 0, 8, .inl (fun _ => 0)))] ++ [(x1, .inl (G.2.2.1 0, 8, .inl (fun _ => 0)))] ++ [(x2, .inl (G.2.2.1 0, 8, .inl (fun _ => 0)))] ++ rows3 G 256 x3 x4 x5 x6
def k6 (G : Ge) (a tx te dk x0 x1 x2 x3 x4 x5 x6 x7 x8 x9 x10 : Nat) : va_W := [(a, .inr (6, [.ref tx, .ref te, .ref dk, .ref x0, .ref x4, .ref x8, .ref x9, .ref x10, .int 1]))] ++ rows3 G 30 x0 x1 x2 x3 ++ rows3 G 30 x4 x5 x6 x7 ++ [(x8, .inl (G.2.2.1 0, 3, .inl (fun _ => 0)))] ++ [(x9, .inl (G.2.2.1 0, 10, .inl (fun _ => 0)))] ++ [(x10, .inl (G.2.2.1 0, 30, .inl (fun _ => 0)))]
def k7 (G : Ge) (a v te ch x0 x1 x2 x3 x4 x5 x6 : Nat) : va_W := [(a, .inr (7, [.ref v, .ref te, .ref ch, .ref x0, .ref x4, .ref x5, .ref x6]))] ++ rows3 G 3 x0 x1 x2 x3 ++ [(x4, .inl (G.2.2.1 0, 3, .inl (fun _ => 0)))] ++ [(x5, .inl (G.2.2.1 0, 3, .inl (fun _ => 0)))] ++ [(x6, .inl (G.2.2.1 2, 3, .inl (fun _ => 0)))]
def k3 (G : Ge) (a v : Nat) : va_W := [(a, .inr (3, [.ref v, .int 0, .int 0, .int 0]))]
def k5 (G : Ge) (N q b : Nat) : va_W := [(q, .inr (5, [.ref b, .int 0])), (b, .inl (G.2.2.1 0, N, .inl (fun _ => 0)))]
def k4 (G : Ge) (q b : Nat) : va_W := [(q, .inr (4, [.ref b, .int (-1), .int 0])), (b, .inl (G.2.2.1 0, 60, .inl (fun _ => 0)))]
def rm8 : Room := { frames := 3, cells := 57, slots := 1511, locals := 64 }
theorem x8_t {X : CX} {G : Ge} {A : Nat → Prop} {n0 n1 : Nat} {Q : State → Prop} {a : Nat} {fs : List Value} {wr : va_W} {tx : Nat} {e2 e3 e4 : Nat × va_E} {f : Nat → Option Nat} (hO : CO X G A cX8_init 2 RX8 rm8) (hf : fs[0]? = some (.ref tx)) (i : Nat) (hi : i < 3) (hroom : n0 + 1 + 1 ≤ rm8.cells ∧ n1 + 2 + 30 ≤ rm8.slots) (k : ∀ q b : Nat, CA X G A 2 (n0 + 1 + 1) (n1 + 2 + 30) Q 144 [(1, vi ((i + 1 : Nat) : Int)), (0, .ref a)] [] ((a, .inr (8, fs)) :: (tx, .inl (G.2.2.1 3, 4, .inr (.inr (.inr (.inr (va_up f i (some q))))))) :: e2 :: e3 :: e4 :: (wr ++ k5 G 30 q b))) : CA X G A 2 n0 n1 Q 144 [(1, vi ((i : Nat) : Int)), (0, .ref a)] [] ((a, .inr (8, fs)) :: (tx, .inl (G.2.2.1 3, 4, .inr (.inr (.inr (.inr f))))) :: e2 :: e3 :: e4 :: wr) := by
  refine cr_il hO 0 (i := 1) rfl rfl dX8_init_144 ?_
  refine cr_con hO dX8_init_145 ?_
  refine cr_geN hO (by omega) (by decide) (by omega) dX8_init_146 180 rfl ?_
  refine cr_al hO 1 (i := 0) rfl rfl dX8_init_149 ?_
  refine cr_get0 hO fl_X8_11 hf dX8_init_150 ?_
  refine cr_il hO 0 (i := 1) rfl rfl dX8_init_153 ?_
  refine cr_new hO no_X8_9 ⟨by omega, by omega⟩ dX8_init_154 (fun q => ?_)
  refine cr_dup hO rfl dX8_init_157 ?_
  refine cr_il hO 0 (i := 1) rfl rfl dX8_init_158 ?_
  refine cr_con hO dX8_init_159 ?_
  refine cr_neY hO (by omega) (by decide) (by omega) dX8_init_160 168 rfl ?_
  refine cr_bip hO (by decide) dX8_init_168 ?_
  refine cr_call hO (fun sz => ci_X5 X.2.1 G q sz 30 (by decide)) mb_X5_init rfl ii_X5_init lk_X8_82 rfl ⟨by decide, by decide⟩ ⟨by omega, by omega⟩ (Nat.le_of_ble_eq_true rfl) rfl dX8_init_170 (fun r => ?_)
  refine cr_astq hO 1 rfl rfl (List.mem_append_right _ List.mem_cons_self) rfl (by decide) (by omega) i (by omega) dX8_init_173 ?_
  refine cr_inc hO 0 (i := 1) rfl (by decide) (lv' := [(1, vi ((i + 1 : Nat) : Int)), (0, .ref a)]) rfl dX8_init_174 ?_
  exact cr_go hO dX8_init_177 144 rfl (k q (r 0))
theorem x8_t3 {X : CX} {G : Ge} {A : Nat → Prop} {n0 n1 : Nat} {Q : State → Prop} {a : Nat} {fs : List Value} {wr : va_W} {tx : Nat} {e2 e3 e4 : Nat × va_E} {f : Nat → Option Nat} (hO : CO X G A cX8_init 2 RX8 rm8) (hf : fs[0]? = some (.ref tx)) (i : Nat) (hi : i = 3) (hroom : n0 + 1 + 1 ≤ rm8.cells ∧ n1 + 2 + 12 ≤ rm8.slots) (k : ∀ q b : Nat, CA X G A 2 (n0 + 1 + 1) (n1 + 2 + 12) Q 144 [(1, vi ((i + 1 : Nat) : Int)), (0, .ref a)] [] ((a, .inr (8, fs)) :: (tx, .inl (G.2.2.1 3, 4, .inr (.inr (.inr (.inr (va_up f i (some q))))))) :: e2 :: e3 :: e4 :: (wr ++ k5 G 12 q b))) : CA X G A 2 n0 n1 Q 144 [(1, vi ((i : Nat) : Int)), (0, .ref a)] [] ((a, .inr (8, fs)) :: (tx, .inl (G.2.2.1 3, 4, .inr (.inr (.inr (.inr f))))) :: e2 :: e3 :: e4 :: wr) := by
  refine cr_il hO 0 (i := 1) rfl rfl dX8_init_144 ?_
  refine cr_con hO dX8_init_145 ?_
  refine cr_geN hO (by omega) (by decide) (by omega) dX8_init_146 180 rfl ?_
  refine cr_al hO 1 (i := 0) rfl rfl dX8_init_149 ?_
  refine cr_get0 hO fl_X8_11 hf dX8_init_150 ?_
  refine cr_il hO 0 (i := 1) rfl rfl dX8_init_153 ?_
  refine cr_new hO no_X8_9 ⟨by omega, by omega⟩ dX8_init_154 (fun q => ?_)
  refine cr_dup hO rfl dX8_init_157 ?_
  refine cr_il hO 0 (i := 1) rfl rfl dX8_init_158 ?_
  refine cr_con hO dX8_init_159 ?_
  refine cr_neN hO (by omega) (by decide) (by omega) dX8_init_160 168 rfl ?_
  refine cr_bip hO (by decide) dX8_init_163 ?_
  refine cr_go hO dX8_init_165 170 rfl ?_
  refine cr_call hO (fun sz => ci_X5 X.2.1 G q sz 12 (by decide)) mb_X5_init rfl ii_X5_init lk_X8_82 rfl ⟨by decide, by decide⟩ ⟨by omega, by omega⟩ (Nat.le_of_ble_eq_true rfl) rfl dX8_init_170 (fun r => ?_)
  refine cr_astq hO 1 rfl rfl (List.mem_append_right _ List.mem_cons_self) rfl (by decide) (by omega) i (by omega) dX8_init_173 ?_
  refine cr_inc hO 0 (i := 1) rfl (by decide) (lv' := [(1, vi ((i + 1 : Nat) : Int)), (0, .ref a)]) rfl dX8_init_174 ?_
  exact cr_go hO dX8_init_177 144 rfl (k q (r 0))
theorem x8_m {X : CX} {G : Ge} {A : Nat → Prop} {n0 n1 : Nat} {Q : State → Prop} {a : Nat} {fs : List Value} {wr : va_W} {te tf : Nat} {e1 : Nat × va_E} {f : Nat → Int32} (hO : CO X G A cX8_init 2 RX8 rm8) (hE : ES tf A X.2.2.2.2.1) (hf : fs[1]? = some (.ref te)) (i : Nat) (hi : i < 7) (k : CA X G A 2 n0 n1 Q 182 [(1, vi ((i + 1 : Nat) : Int)), (0, .ref a)] [] ((a, .inr (8, fs)) :: e1 :: (te, .inl (G.2.2.1 0, 7, .inl (upd f i (Int32.ofInt (rr_TF i))))) :: wr)) : CA X G A 2 n0 n1 Q 182 [(1, vi ((i : Nat) : Int)), (0, .ref a)] [] ((a, .inr (8, fs)) :: e1 :: (te, .inl (G.2.2.1 0, 7, .inl f)) :: wr) := by
  refine cr_il hO 0 (i := 1) rfl rfl dX8_init_182 ?_
  refine cr_bip hO (by decide) dX8_init_183 ?_
  refine cr_geN hO (by omega) (by decide) (by omega) dX8_init_185 205 rfl ?_
  refine cr_al hO 1 (i := 0) rfl rfl dX8_init_188 ?_
  refine cr_get0 hO fl_X8_15 hf dX8_init_189 ?_
  refine cr_il hO 0 (i := 1) rfl rfl dX8_init_192 ?_
  refine cr_gets hO hE gs_X8_85 dX8_init_193 ?_
  refine cr_il hO 0 (i := 1) rfl rfl dX8_init_196 ?_
  refine cr_ti hO hE (by omega) i (by omega) dX8_init_197 ?_
  refine cr_ast hO 2 rfl (by decide) (by omega) i (by omega) dX8_init_198 ?_
  refine cr_inc hO 0 (i := 1) rfl (by decide) (lv' := [(1, vi ((i + 1 : Nat) : Int)), (0, .ref a)]) rfl dX8_init_199 ?_
  exact cr_go hO dX8_init_202 182 rfl k
theorem x8_c {X : CX} {G : Ge} {A : Nat → Prop} {n0 n1 : Nat} {Q : State → Prop} {a : Nat} {fs : List Value} {wr : va_W} {ch : Nat} {e1 e2 : Nat × va_E} {f : Nat → Int32} (hO : CO X G A cX8_init 2 RX8 rm8) (hf : fs[2]? = some (.ref ch)) (i : Nat) (hi : i < 3) (k : CA X G A 2 n0 n1 Q 207 [(1, vi ((i + 1 : Nat) : Int)), (0, .ref a)] [] ((a, .inr (8, fs)) :: e1 :: e2 :: (ch, .inl (G.2.2.1 0, 3, .inl (upd f i (Int32.ofInt 1)))) :: wr)) : CA X G A 2 n0 n1 Q 207 [(1, vi ((i : Nat) : Int)), (0, .ref a)] [] ((a, .inr (8, fs)) :: e1 :: e2 :: (ch, .inl (G.2.2.1 0, 3, .inl f)) :: wr) := by
  refine cr_il hO 0 (i := 1) rfl rfl dX8_init_207 ?_
  refine cr_con hO dX8_init_208 ?_
  refine cr_geN hO (by omega) (by decide) (by omega) dX8_init_209 225 rfl ?_
  refine cr_al hO 1 (i := 0) rfl rfl dX8_init_212 ?_
  refine cr_get0 hO fl_X8_19 hf dX8_init_213 ?_
  refine cr_il hO 0 (i := 1) rfl rfl dX8_init_216 ?_
  refine cr_con hO dX8_init_217 ?_
  refine cr_ast hO 3 rfl (by decide) (by omega) i (by omega) dX8_init_218 ?_
  refine cr_inc hO 0 (i := 1) rfl (by decide) (lv' := [(1, vi ((i + 1 : Nat) : Int)), (0, .ref a)]) rfl dX8_init_219 ?_
  exact cr_go hO dX8_init_222 207 rfl k
theorem x8_h {X : CX} {G : Ge} {A : Nat → Prop} {n0 n1 : Nat} {Q : State → Prop} {a : Nat} {fs : List Value} {wr : va_W} {sh : Nat} {e1 e2 e3 : Nat × va_E} {f : Nat → Option Nat} (hO : CO X G A cX8_init 2 RX8 rm8) (hf : fs[9]? = some (.ref sh)) (i : Nat) (hi : i < 4) (hroom : n0 + 1 + 1 ≤ rm8.cells ∧ n1 + 3 + 60 ≤ rm8.slots) (k : ∀ q b : Nat, CA X G A 2 (n0 + 1 + 1) (n1 + 3 + 60) Q 227 [(1, vi ((i + 1 : Nat) : Int)), (0, .ref a)] [] ((a, .inr (8, fs)) :: e1 :: e2 :: e3 :: (sh, .inl (G.2.2.1 4, 4, .inr (.inr (.inr (.inr (va_up f i (some q))))))) :: (wr ++ k4 G q b))) : CA X G A 2 n0 n1 Q 227 [(1, vi ((i : Nat) : Int)), (0, .ref a)] [] ((a, .inr (8, fs)) :: e1 :: e2 :: e3 :: (sh, .inl (G.2.2.1 4, 4, .inr (.inr (.inr (.inr f))))) :: wr) := by
  refine cr_il hO 0 (i := 1) rfl rfl dX8_init_227 ?_
  refine cr_con hO dX8_init_228 ?_
  refine cr_geN hO (by omega) (by decide) (by omega) dX8_init_229 251 rfl ?_
  refine cr_al hO 1 (i := 0) rfl rfl dX8_init_232 ?_
  refine cr_get0 hO fl_X8_74 hf dX8_init_233 ?_
  refine cr_il hO 0 (i := 1) rfl rfl dX8_init_236 ?_
  refine cr_new hO no_X8_72 ⟨by omega, by omega⟩ dX8_init_237 (fun q => ?_)
  refine cr_dup hO rfl dX8_init_240 ?_
  refine cr_callN hO (fun sz => ci_X4 X.2.1 G q sz) mb_X4_init rfl ii_X4_init lk_X8_88 rfl ⟨by decide, by decide⟩ ⟨by omega, by omega⟩ (Nat.le_of_ble_eq_true rfl) rfl dX8_init_241 (fun r => ?_)
  refine cr_astq hO 4 rfl rfl (List.mem_append_right _ List.mem_cons_self) rfl (by decide) (by omega) i (by omega) dX8_init_244 ?_
  refine cr_inc hO 0 (i := 1) rfl (by decide) (lv' := [(1, vi ((i + 1 : Nat) : Int)), (0, .ref a)]) rfl dX8_init_245 ?_
  exact cr_go hO dX8_init_248 227 rfl (k q (r 0))
