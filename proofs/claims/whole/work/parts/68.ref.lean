/-! CONSTRUCTOR OF THE REFERENCE -/
theorem fw_X9_7 : rr_FW RX9 7 9 0 true (.array .int) := ⟨RX9, TX9, 19, tyX9, rfl, inX9, tyX9_ok, nmX9, by decide, rr_in (List.mem_append_right _ (List.mem_of_getElem? (i := 745) (by decide +kernel))) rfl, rfl, by decide +kernel, rfl⟩
theorem fw_X9_13 : rr_FW RX9 13 9 1 true (.array .int) := ⟨RX9, TX9, 19, tyX9, rfl, inX9, tyX9_ok, nmX9, by decide, rr_in (List.mem_append_right _ (List.mem_of_getElem? (i := 746) (by decide +kernel))) rfl, rfl, by decide +kernel, rfl⟩
theorem fw_X9_16 : rr_FW RX9 16 9 2 true (.array .int) := ⟨RX9, TX9, 19, tyX9, rfl, inX9, tyX9_ok, nmX9, by decide, rr_in (List.mem_append_right _ (List.mem_of_getElem? (i := 747) (by decide +kernel))) rfl, rfl, by decide +kernel, rfl⟩
theorem fw_X9_19 : rr_FW RX9 19 9 3 true (.array .int) := ⟨RX9, TX9, 19, tyX9, rfl, inX9, tyX9_ok, nmX9, by decide, rr_in (List.mem_append_right _ (List.mem_of_getElem? (i := 748) (by decide +kernel))) rfl, rfl, by decide +kernel, rfl⟩
theorem fw_X9_22 : rr_FW RX9 22 9 5 true (.array .int) := ⟨RX9, TX9, 19, tyX9, rfl, inX9, tyX9_ok, nmX9, by decide, rr_in (List.mem_append_right _ (List.mem_of_getElem? (i := 750) (by decide +kernel))) rfl, rfl, by decide +kernel, rfl⟩
theorem fw_X9_25 : rr_FW RX9 25 9 6 true (.array .int) := ⟨RX9, TX9, 19, tyX9, rfl, inX9, tyX9_ok, nmX9, by decide, rr_in (List.mem_append_right _ (List.mem_of_getElem? (i := 751) (by decide +kernel))) rfl, rfl, by decide +kernel, rfl⟩
theorem fw_X9_28 : rr_FW RX9 28 9 7 true (.array .int) := ⟨RX9, TX9, 19, tyX9, rfl, inX9, tyX9_ok, nmX9, by decide, rr_in (List.mem_append_right _ (List.mem_of_getElem? (i := 752) (by decide +kernel))) rfl, rfl, by decide +kernel, rfl⟩
theorem fw_X9_31 : rr_FW RX9 31 9 8 true (.array .int) := ⟨RX9, TX9, 19, tyX9, rfl, inX9, tyX9_ok, nmX9, by decide, rr_in (List.mem_append_right _ (List.mem_of_getElem? (i := 753) (by decide +kernel))) rfl, rfl, by decide +kernel, rfl⟩
theorem fw_X9_34 : rr_FW RX9 34 9 10 true (.array .int) := ⟨RX9, TX9, 19, tyX9, rfl, inX9, tyX9_ok, nmX9, by decide, rr_in (List.mem_append_right _ (List.mem_of_getElem? (i := 755) (by decide +kernel))) rfl, rfl, by decide +kernel, rfl⟩
theorem fw_X9_37 : rr_FW RX9 37 9 11 true (.array .long) := ⟨RX9, TX9, 19, tyX9, rfl, inX9, tyX9_ok, nmX9, by decide, rr_in (List.mem_append_right _ (List.mem_of_getElem? (i := 756) (by decide +kernel))) rfl, rfl, by decide +kernel, rfl⟩
theorem fw_X9_41 : rr_FW RX9 41 9 13 true (.array .int) := ⟨RX9, TX9, 19, tyX9, rfl, inX9, tyX9_ok, nmX9, by decide, rr_in (List.mem_append_right _ (List.mem_of_getElem? (i := 758) (by decide +kernel))) rfl, rfl, by decide +kernel, rfl⟩
theorem fw_X9_44 : rr_FW RX9 44 9 18 true (.array .int) := ⟨RX9, TX9, 19, tyX9, rfl, inX9, tyX9_ok, nmX9, by decide, rr_in (List.mem_append_right _ (List.mem_of_getElem? (i := 763) (by decide +kernel))) rfl, rfl, by decide +kernel, rfl⟩
theorem x9_f {X : CX} {G : Ge} {A : Nat → Prop} {n0 n1 : Nat} {R0 : Room} {Q : State → Prop} {a : Nat} {fs : List Value} {wr : va_W} {q : Nat} {f : Nat → Int32} (hO : CO X G A cX9_init 2 RX9 R0) (hf : fs[0]? = some (.ref q)) (i : Nat) (hi : i < 4) (k : CA X G A 2 n0 n1 Q 99 [(1, vi ((i + 1 : Nat) : Int)), (0, .ref a)] [] ((a, .inr (9, fs)) :: (q, .inl (G.2.2.1 0, 4, .inl (upd f i (Int32.ofInt (-1))))) :: wr)) : CA X G A 2 n0 n1 Q 99 [(1, vi ((i : Nat) : Int)), (0, .ref a)] [] ((a, .inr (9, fs)) :: (q, .inl (G.2.2.1 0, 4, .inl f)) :: wr) := by
  refine cr_il hO 0 (i := 1) rfl rfl dX9_init_99 ?_
  refine cr_con hO dX9_init_100 ?_
  refine cr_geN hO (by omega) (by decide) (by omega) dX9_init_101 117 rfl ?_
  refine cr_al hO 1 (i := 0) rfl rfl dX9_init_104 ?_
  refine cr_get0 hO fl_X9_7 hf dX9_init_105 ?_
  refine cr_il hO 0 (i := 1) rfl rfl dX9_init_108 ?_
  refine cr_con hO dX9_init_109 ?_
  refine cr_ast hO 1 rfl (by decide) (by omega) i (by omega) dX9_init_110 ?_
  refine cr_inc hO 0 (i := 1) rfl (by decide) (lv' := [(1, vi ((i + 1 : Nat) : Int)), (0, .ref a)]) rfl dX9_init_111 ?_
  exact cr_go hO dX9_init_114 99 rfl k
theorem x9_c {X : CX} {G : Ge} {A : Nat → Prop} {n0 n1 : Nat} {R0 : Room} {Q : State → Prop} {a : Nat} {fs : List Value} {wr : va_W} {q : Nat} {e1 e2 e3 e4 e5 e6 e7 : Nat × va_E} {f : Nat → Int32} (hO : CO X G A cX9_init 2 RX9 R0) (hf : fs[8]? = some (.ref q)) (i : Nat) (hi : i < 3) (k : CA X G A 2 n0 n1 Q 119 [(1, vi ((i + 1 : Nat) : Int)), (0, .ref a)] [] ((a, .inr (9, fs)) :: e1 :: e2 :: e3 :: e4 :: e5 :: e6 :: e7 :: (q, .inl (G.2.2.1 0, 3, .inl (upd f i (Int32.ofInt (1))))) :: wr)) : CA X G A 2 n0 n1 Q 119 [(1, vi ((i : Nat) : Int)), (0, .ref a)] [] ((a, .inr (9, fs)) :: e1 :: e2 :: e3 :: e4 :: e5 :: e6 :: e7 :: (q, .inl (G.2.2.1 0, 3, .inl f)) :: wr) := by
  refine cr_il hO 0 (i := 1) rfl rfl dX9_init_119 ?_
  refine cr_con hO dX9_init_120 ?_
  refine cr_geN hO (by omega) (by decide) (by omega) dX9_init_121 137 rfl ?_
  refine cr_al hO 1 (i := 0) rfl rfl dX9_init_124 ?_
  refine cr_get0 hO fl_X9_31 hf dX9_init_125 ?_
  refine cr_il hO 0 (i := 1) rfl rfl dX9_init_128 ?_
  refine cr_con hO dX9_init_129 ?_
  refine cr_ast hO 8 rfl (by decide) (by omega) i (by omega) dX9_init_130 ?_
  refine cr_inc hO 0 (i := 1) rfl (by decide) (lv' := [(1, vi ((i + 1 : Nat) : Int)), (0, .ref a)]) rfl dX9_init_131 ?_
  exact cr_go hO dX9_init_134 119 rfl k
theorem x9_s {X : CX} {G : Ge} {A : Nat → Prop} {n0 n1 : Nat} {R0 : Room} {Q : State → Prop} {a : Nat} {fs : List Value} {wr : va_W} {q : Nat} {e1 e2 e3 e4 e5 e6 : Nat × va_E} {f : Nat → Int32} {lv : List (Nat × Value)} (hO : CO X G A cX9_init 2 RX9 R0) (hl0 : lv[1]? = some (0, .ref a)) (hf : fs[7]? = some (.ref q)) (k : CA X G A 2 n0 n1 Q 188 lv [] ((a, .inr (9, fs)) :: e1 :: e2 :: e3 :: e4 :: e5 :: e6 :: (q, .inl (G.2.2.1 0, 7, .inl (upd (upd (upd (upd (upd (upd (upd f 0 (Int32.ofInt (3))) 1 (Int32.ofInt (29))) 2 (Int32.ofInt (5))) 3 (Int32.ofInt (3))) 4 (Int32.ofInt (1))) 5 (Int32.ofInt (4))) 6 (Int32.ofInt (1))))) :: wr)) : CA X G A 2 n0 n1 Q 137 lv [] ((a, .inr (9, fs)) :: e1 :: e2 :: e3 :: e4 :: e5 :: e6 :: (q, .inl (G.2.2.1 0, 7, .inl f)) :: wr) := by
  refine cr_al hO 1 (i := 0) rfl hl0 dX9_init_137 ?_
  refine cr_get0 hO fl_X9_28 hf dX9_init_138 ?_
  refine cr_con hO dX9_init_141 ?_
  refine cr_con hO dX9_init_142 ?_
  refine cr_ast hO 7 rfl (by decide) (by decide) 0 rfl dX9_init_143 ?_
  refine cr_eq (ws' := ((a, .inr (9, fs)) :: e1 :: e2 :: e3 :: e4 :: e5 :: e6 :: (q, .inl (G.2.2.1 0, 7, .inl (upd f 0 (Int32.ofInt (3))))) :: wr)) rfl ?_
  refine cr_al hO 1 (i := 0) rfl hl0 dX9_init_144 ?_
  refine cr_get0 hO fl_X9_28 hf dX9_init_145 ?_
  refine cr_con hO dX9_init_148 ?_
  refine cr_bip hO (by decide) dX9_init_149 ?_
  refine cr_ast hO 7 rfl (by decide) (by decide) 1 rfl dX9_init_151 ?_
  refine cr_eq (ws' := ((a, .inr (9, fs)) :: e1 :: e2 :: e3 :: e4 :: e5 :: e6 :: (q, .inl (G.2.2.1 0, 7, .inl (upd (upd f 0 (Int32.ofInt (3))) 1 (Int32.ofInt (29))))) :: wr)) rfl ?_
  refine cr_al hO 1 (i := 0) rfl hl0 dX9_init_152 ?_
  refine cr_get0 hO fl_X9_28 hf dX9_init_153 ?_
  refine cr_con hO dX9_init_156 ?_
  refine cr_con hO dX9_init_157 ?_
  refine cr_ast hO 7 rfl (by decide) (by decide) 2 rfl dX9_init_158 ?_
  refine cr_eq (ws' := ((a, .inr (9, fs)) :: e1 :: e2 :: e3 :: e4 :: e5 :: e6 :: (q, .inl (G.2.2.1 0, 7, .inl (upd (upd (upd f 0 (Int32.ofInt (3))) 1 (Int32.ofInt (29))) 2 (Int32.ofInt (5))))) :: wr)) rfl ?_
  refine cr_al hO 1 (i := 0) rfl hl0 dX9_init_159 ?_
  refine cr_get0 hO fl_X9_28 hf dX9_init_160 ?_
  refine cr_con hO dX9_init_163 ?_
  refine cr_con hO dX9_init_164 ?_
  refine cr_ast hO 7 rfl (by decide) (by decide) 3 rfl dX9_init_165 ?_
  refine cr_eq (ws' := ((a, .inr (9, fs)) :: e1 :: e2 :: e3 :: e4 :: e5 :: e6 :: (q, .inl (G.2.2.1 0, 7, .inl (upd (upd (upd (upd f 0 (Int32.ofInt (3))) 1 (Int32.ofInt (29))) 2 (Int32.ofInt (5))) 3 (Int32.ofInt (3))))) :: wr)) rfl ?_
  refine cr_al hO 1 (i := 0) rfl hl0 dX9_init_166 ?_
  refine cr_get0 hO fl_X9_28 hf dX9_init_167 ?_
  refine cr_con hO dX9_init_170 ?_
  refine cr_con hO dX9_init_171 ?_
  refine cr_ast hO 7 rfl (by decide) (by decide) 4 rfl dX9_init_172 ?_
  refine cr_eq (ws' := ((a, .inr (9, fs)) :: e1 :: e2 :: e3 :: e4 :: e5 :: e6 :: (q, .inl (G.2.2.1 0, 7, .inl (upd (upd (upd (upd (upd f 0 (Int32.ofInt (3))) 1 (Int32.ofInt (29))) 2 (Int32.ofInt (5))) 3 (Int32.ofInt (3))) 4 (Int32.ofInt (1))))) :: wr)) rfl ?_
  refine cr_al hO 1 (i := 0) rfl hl0 dX9_init_173 ?_
  refine cr_get0 hO fl_X9_28 hf dX9_init_174 ?_
  refine cr_con hO dX9_init_177 ?_
  refine cr_con hO dX9_init_178 ?_
  refine cr_ast hO 7 rfl (by decide) (by decide) 5 rfl dX9_init_179 ?_
  refine cr_eq (ws' := ((a, .inr (9, fs)) :: e1 :: e2 :: e3 :: e4 :: e5 :: e6 :: (q, .inl (G.2.2.1 0, 7, .inl (upd (upd (upd (upd (upd (upd f 0 (Int32.ofInt (3))) 1 (Int32.ofInt (29))) 2 (Int32.ofInt (5))) 3 (Int32.ofInt (3))) 4 (Int32.ofInt (1))) 5 (Int32.ofInt (4))))) :: wr)) rfl ?_
  refine cr_al hO 1 (i := 0) rfl hl0 dX9_init_180 ?_
  refine cr_get0 hO fl_X9_28 hf dX9_init_181 ?_
  refine cr_bip hO (by decide) dX9_init_184 ?_
  refine cr_con hO dX9_init_186 ?_
  refine cr_ast hO 7 rfl (by decide) (by decide) 6 rfl dX9_init_187 ?_
  refine cr_eq (ws' := ((a, .inr (9, fs)) :: e1 :: e2 :: e3 :: e4 :: e5 :: e6 :: (q, .inl (G.2.2.1 0, 7, .inl (upd (upd (upd (upd (upd (upd (upd f 0 (Int32.ofInt (3))) 1 (Int32.ofInt (29))) 2 (Int32.ofInt (5))) 3 (Int32.ofInt (3))) 4 (Int32.ofInt (1))) 5 (Int32.ofInt (4))) 6 (Int32.ofInt (1))))) :: wr)) rfl ?_
  exact k
def rm9 : Room := { frames := 1, cells := 12, slots := 618, locals := 16 }
def w9 (G : Ge) (a : Nat) : (Nat → Nat) → va_W := fun r => [(a, .inr (9, [.ref (r 0), .ref (r 1), .ref (r 2), .ref (r 3), .int 0, .ref (r 4), .ref (r 5), .ref (r 6), .ref (r 7), .int 0, .ref (r 8), .ref (r 9), .int 0, .ref (r 10), .int 0, .int 0, .long 0, .int 0, .ref (r 11)])), (r 0, .inl (G.2.2.1 0, 4, .inl (upd (upd (upd (upd (fun _ => 0) 0 (Int32.ofInt (-1))) 1 (Int32.ofInt (-1))) 2 (Int32.ofInt (-1))) 3 (Int32.ofInt (-1))))), (r 1, .inl (G.2.2.1 0, 4, .inl (fun _ => 0))), (r 2, .inl (G.2.2.1 0, 240, .inl (fun _ => 0))), (r 3, .inl (G.2.2.1 0, 60, .inl (fun _ => 0))), (r 4, .inl (G.2.2.1 0, 120, .inl (fun _ => 0))), (r 5, .inl (G.2.2.1 0, 4, .inl (fun _ => 0))), (r 6, .inl (G.2.2.1 0, 7, .inl (upd (upd (upd (upd (upd (upd (upd (fun _ => 0) 0 (Int32.ofInt (3))) 1 (Int32.ofInt (29))) 2 (Int32.ofInt (5))) 3 (Int32.ofInt (3))) 4 (Int32.ofInt (1))) 5 (Int32.ofInt (4))) 6 (Int32.ofInt (1))))), (r 7, .inl (G.2.2.1 0, 3, .inl (upd (upd (upd (fun _ => 0) 0 (Int32.ofInt (1))) 1 (Int32.ofInt (1))) 2 (Int32.ofInt (1))))), (r 8, .inl (G.2.2.1 0, 27, .inl (fun _ => 0))), (r 9, .inl (G.2.2.1 1, 93, .inr (.inl (fun _ => 0)))), (r 10, .inl (G.2.2.1 0, 32, .inl (fun _ => 0))), (r 11, .inl (G.2.2.1 0, 24, .inl (fun _ => 0)))]
def b9 (a : Nat) : va_W := [(a, .inr (9, [.null, .null, .null, .null, .int 0, .null, .null, .null, .null, .int 0, .null, .null, .int 0, .null, .int 0, .int 0, .long 0, .int 0, .null]))]
set_option maxRecDepth 100000 in
set_option maxHeartbeats 4000000 in
theorem x9_a {X : CX} {G : Ge} {A : Nat → Prop} {Q : State → Prop} {a : Nat} (hO : CO X G A cX9_init 2 RX9 rm9) (k : ∀ q0 q1 q2 q3 q4 q5 q6 q7 q8 q9 q10 q11 : Nat, CA X G A 2 12 618 Q 97 [(0, .ref a)] [] [(a, .inr (9, [.ref q0, .ref q1, .ref q2, .ref q3, .int 0, .ref q4, .ref q5, .ref q6, .ref q7, .int 0, .ref q8, .ref q9, .int 0, .ref q10, .int 0, .int 0, .long 0, .int 0, .ref q11])), (q0, .inl (G.2.2.1 0, 4, .inl (fun _ => 0))), (q1, .inl (G.2.2.1 0, 4, .inl (fun _ => 0))), (q2, .inl (G.2.2.1 0, 240, .inl (fun _ => 0))), (q3, .inl (G.2.2.1 0, 60, .inl (fun _ => 0))), (q4, .inl (G.2.2.1 0, 120, .inl (fun _ => 0))), (q5, .inl (G.2.2.1 0, 4, .inl (fun _ => 0))), (q6, .inl (G.2.2.1 0, 7, .inl (fun _ => 0))), (q7, .inl (G.2.2.1 0, 3, .inl (fun _ => 0))), (q8, .inl (G.2.2.1 0, 27, .inl (fun _ => 0))), (q9, .inl (G.2.2.1 1, 93, .inr (.inl (fun _ => 0)))), (q10, .inl (G.2.2.1 0, 32, .inl (fun _ => 0))), (q11, .inl (G.2.2.1 0, 24, .inl (fun _ => 0)))]) : CA X G A 2 0 0 Q 0 [(0, .ref a)] [] (b9 a) := by
  show CA X G A 2 0 0 Q 0 [(0, .ref a)] [] ((a, .inr (9, [.null, .null, .null, .null, .int 0, .null, .null, .null, .null, .int 0, .null, .null, .int 0, .null, .int 0, .int 0, .long 0, .int 0, .null])) :: [])
  refine cr_al hO 0 (i := 0) rfl rfl dX9_init_0 ?_
  refine cr_ini hO lk_X9_1 oi_inst oi_code (by decide) dX9_init_1 ?_
  refine cr_al hO 0 (i := 0) rfl rfl dX9_init_4 ?_
  refine cr_con hO dX9_init_5 ?_
  refine cr_newI0 hO 4 rfl (by decide) (by decide) dX9_init_6 (fun q0 => ?_)
  refine cr_put0 hO fw_X9_7 (fs' := [.ref q0, .null, .null, .null, .int 0, .null, .null, .null, .null, .int 0, .null, .null, .int 0, .null, .int 0, .int 0, .long 0, .int 0, .null]) rfl rfl rfl (Nat.le_of_ble_eq_true rfl) dX9_init_8 ?_
  refine cr_al hO 0 (i := 0) rfl rfl dX9_init_11 ?_
  refine cr_con hO dX9_init_12 ?_
  refine cr_newI0 hO 4 rfl (by decide) (by decide) dX9_init_13 (fun q1 => ?_)
  refine cr_put0 hO fw_X9_13 (fs' := [.ref q0, .ref q1, .null, .null, .int 0, .null, .null, .null, .null, .int 0, .null, .null, .int 0, .null, .int 0, .int 0, .long 0, .int 0, .null]) rfl rfl rfl (Nat.le_of_ble_eq_true rfl) dX9_init_15 ?_
  refine cr_al hO 0 (i := 0) rfl rfl dX9_init_18 ?_
  refine cr_sip hO (by decide) dX9_init_19 ?_
  refine cr_newI0 hO 240 rfl (by decide) (by decide) dX9_init_22 (fun q2 => ?_)
  refine cr_put0 hO fw_X9_16 (fs' := [.ref q0, .ref q1, .ref q2, .null, .int 0, .null, .null, .null, .null, .int 0, .null, .null, .int 0, .null, .int 0, .int 0, .long 0, .int 0, .null]) rfl rfl rfl (Nat.le_of_ble_eq_true rfl) dX9_init_24 ?_
  refine cr_al hO 0 (i := 0) rfl rfl dX9_init_27 ?_
  refine cr_bip hO (by decide) dX9_init_28 ?_
  refine cr_newI0 hO 60 rfl (by decide) (by decide) dX9_init_30 (fun q3 => ?_)
  refine cr_put0 hO fw_X9_19 (fs' := [.ref q0, .ref q1, .ref q2, .ref q3, .int 0, .null, .null, .null, .null, .int 0, .null, .null, .int 0, .null, .int 0, .int 0, .long 0, .int 0, .null]) rfl rfl rfl (Nat.le_of_ble_eq_true rfl) dX9_init_32 ?_
  refine cr_al hO 0 (i := 0) rfl rfl dX9_init_35 ?_
  refine cr_bip hO (by decide) dX9_init_36 ?_
  refine cr_newI0 hO 120 rfl (by decide) (by decide) dX9_init_38 (fun q4 => ?_)
  refine cr_put0 hO fw_X9_22 (fs' := [.ref q0, .ref q1, .ref q2, .ref q3, .int 0, .ref q4, .null, .null, .null, .int 0, .null, .null, .int 0, .null, .int 0, .int 0, .long 0, .int 0, .null]) rfl rfl rfl (Nat.le_of_ble_eq_true rfl) dX9_init_40 ?_
  refine cr_al hO 0 (i := 0) rfl rfl dX9_init_43 ?_
  refine cr_con hO dX9_init_44 ?_
  refine cr_newI0 hO 4 rfl (by decide) (by decide) dX9_init_45 (fun q5 => ?_)
  refine cr_put0 hO fw_X9_25 (fs' := [.ref q0, .ref q1, .ref q2, .ref q3, .int 0, .ref q4, .ref q5, .null, .null, .int 0, .null, .null, .int 0, .null, .int 0, .int 0, .long 0, .int 0, .null]) rfl rfl rfl (Nat.le_of_ble_eq_true rfl) dX9_init_47 ?_
  refine cr_al hO 0 (i := 0) rfl rfl dX9_init_50 ?_
  refine cr_bip hO (by decide) dX9_init_51 ?_
  refine cr_newI0 hO 7 rfl (by decide) (by decide) dX9_init_53 (fun q6 => ?_)
  refine cr_put0 hO fw_X9_28 (fs' := [.ref q0, .ref q1, .ref q2, .ref q3, .int 0, .ref q4, .ref q5, .ref q6, .null, .int 0, .null, .null, .int 0, .null, .int 0, .int 0, .long 0, .int 0, .null]) rfl rfl rfl (Nat.le_of_ble_eq_true rfl) dX9_init_55 ?_
  refine cr_al hO 0 (i := 0) rfl rfl dX9_init_58 ?_
  refine cr_con hO dX9_init_59 ?_
  refine cr_newI0 hO 3 rfl (by decide) (by decide) dX9_init_60 (fun q7 => ?_)
  refine cr_put0 hO fw_X9_31 (fs' := [.ref q0, .ref q1, .ref q2, .ref q3, .int 0, .ref q4, .ref q5, .ref q6, .ref q7, .int 0, .null, .null, .int 0, .null, .int 0, .int 0, .long 0, .int 0, .null]) rfl rfl rfl (Nat.le_of_ble_eq_true rfl) dX9_init_62 ?_
  refine cr_al hO 0 (i := 0) rfl rfl dX9_init_65 ?_
  refine cr_bip hO (by decide) dX9_init_66 ?_
  refine cr_newI0 hO 27 rfl (by decide) (by decide) dX9_init_68 (fun q8 => ?_)
  refine cr_put0 hO fw_X9_34 (fs' := [.ref q0, .ref q1, .ref q2, .ref q3, .int 0, .ref q4, .ref q5, .ref q6, .ref q7, .int 0, .ref q8, .null, .int 0, .null, .int 0, .int 0, .long 0, .int 0, .null]) rfl rfl rfl (Nat.le_of_ble_eq_true rfl) dX9_init_70 ?_
  refine cr_al hO 0 (i := 0) rfl rfl dX9_init_73 ?_
  refine cr_bip hO (by decide) dX9_init_74 ?_
  refine cr_newL0 hO 93 rfl (by decide) (by decide) dX9_init_76 (fun q9 => ?_)
  refine cr_put0 hO fw_X9_37 (fs' := [.ref q0, .ref q1, .ref q2, .ref q3, .int 0, .ref q4, .ref q5, .ref q6, .ref q7, .int 0, .ref q8, .ref q9, .int 0, .null, .int 0, .int 0, .long 0, .int 0, .null]) rfl rfl rfl (Nat.le_of_ble_eq_true rfl) dX9_init_78 ?_
  refine cr_al hO 0 (i := 0) rfl rfl dX9_init_81 ?_
  refine cr_bip hO (by decide) dX9_init_82 ?_
  refine cr_newI0 hO 32 rfl (by decide) (by decide) dX9_init_84 (fun q10 => ?_)
  refine cr_put0 hO fw_X9_41 (fs' := [.ref q0, .ref q1, .ref q2, .ref q3, .int 0, .ref q4, .ref q5, .ref q6, .ref q7, .int 0, .ref q8, .ref q9, .int 0, .ref q10, .int 0, .int 0, .long 0, .int 0, .null]) rfl rfl rfl (Nat.le_of_ble_eq_true rfl) dX9_init_86 ?_
  refine cr_al hO 0 (i := 0) rfl rfl dX9_init_89 ?_
  refine cr_bip hO (by decide) dX9_init_90 ?_
  refine cr_newI0 hO 24 rfl (by decide) (by decide) dX9_init_92 (fun q11 => ?_)
  refine cr_put0 hO fw_X9_44 (fs' := [.ref q0, .ref q1, .ref q2, .ref q3, .int 0, .ref q4, .ref q5, .ref q6, .ref q7, .int 0, .ref q8, .ref q9, .int 0, .ref q10, .int 0, .int 0, .long 0, .int 0, .ref q11]) rfl rfl rfl (Nat.le_of_ble_eq_true rfl) dX9_init_94 ?_
  exact cr_eqn rfl rfl (cr_eq (by simp only [List.nil_append, List.cons_append]) (k q0 q1 q2 q3 q4 q5 q6 q7 q8 q9 q10 q11))
set_option maxRecDepth 100000 in
set_option maxHeartbeats 4000000 in
theorem ci_X9 (l : Launch) (G : Ge) (a sz : Nat) : Met l yX9_init (.code yX9_init cX9_init 2 none :: rr_tbl) rm9 (va_Pc [.ref a] (PI G (b9 a) sz)) (QI G (w9 G a) (b9 a) sz) 12 618 (va_A (b9 a) sz) := by
  refine cr_mk RX9 (by decide) rfl rfl (Nat.le_of_ble_eq_true rfl) (lv := [(0, .ref a)]) rfl (fun X A hsz hD hsub hlk hO => ?_)
  refine x9_a hO (fun q0 q1 q2 q3 q4 q5 q6 q7 q8 q9 q10 q11 => ?_)
  refine cr_con hO dX9_init_97 ?_
  refine cr_ist hO (i := 1) rfl (by decide) (lv' := [(1, vi ((0 : Nat) : Int)), (0, .ref a)]) rfl dX9_init_98 ?_
  refine x9_f hO rfl 0 (by decide) ?_
  refine x9_f hO rfl 1 (by decide) ?_
  refine x9_f hO rfl 2 (by decide) ?_
  refine x9_f hO rfl 3 (by decide) ?_
  refine cr_il hO 0 (i := 1) rfl rfl dX9_init_99 ?_
  refine cr_con hO dX9_init_100 ?_
  refine cr_geY hO (by decide) (by decide) (by decide) dX9_init_101 117 rfl ?_
  refine cr_con hO dX9_init_117 ?_
  refine cr_ist hO (i := 1) rfl (by decide) (lv' := [(1, vi ((0 : Nat) : Int)), (0, .ref a)]) rfl dX9_init_118 ?_
  refine x9_c hO rfl 0 (by decide) ?_
  refine x9_c hO rfl 1 (by decide) ?_
  refine x9_c hO rfl 2 (by decide) ?_
  refine cr_il hO 0 (i := 1) rfl rfl dX9_init_119 ?_
  refine cr_con hO dX9_init_120 ?_
  refine cr_geY hO (by decide) (by decide) (by decide) dX9_init_121 137 rfl ?_
  refine x9_s hO rfl rfl ?_
  exact cr_ret hO hlk hsub (fun i => [q0, q1, q2, q3, q4, q5, q6, q7, q8, q9, q10, q11].getD i 0) rfl dX9_init_188
