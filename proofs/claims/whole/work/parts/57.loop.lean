/-! THE LAW'S LOOP -/
theorem and63 (x : Int) : 0 ≤ andZ x 63 ∧ andZ x 63 ≤ 63 := by
  unfold andZ
  have hn : ((Int32.ofInt x &&& Int32.ofInt 63).toBitVec).toNat ≤ 63 := by
    rw [Int32.toBitVec_and, BitVec.toNat_and]
    exact Nat.le_trans Nat.and_le_right (by decide)
  have he : (Int32.ofInt x &&& Int32.ofInt 63).toInt = ((Int32.ofInt x &&& Int32.ofInt 63).toBitVec).toInt := rfl
  rw [he, BitVec.toInt_eq_toNat_of_lt (by omega)]
  omega
section LOOP
variable {X : CX} {G : Ge} {n0 n1 : Nat} {Q : State → Prop} {b L pc : Nat} {xs : Nat → Int32} {lv lv' : List (Nat × Value)} {st stk : List Value} {σ : St}
theorem la_and (hO : LO X G b L xs) {x y : Int} (hd : decode cL_law pc = .ok (.iand, 1)) (k : LA X G n0 n1 Q (pc + 1) lv (vi (andZ x y) :: st) σ) : LA X G n0 n1 Q pc lv (vi y :: vi x :: st) σ := by
  obtain ⟨p, l, e, R, s, m, args, below, meth, c⟩ := X
  obtain ⟨hx, hb, hml, hown, hts, hK, hG, hst, hnw, hX, hR⟩ := hO
  intro H locs ls hP hS hl
  have k2 := k H locs ls hP hS hl
  refine lv_iand hx hb hd ?_
  unfold vi andZ at k2
  rw [Int32.ofInt_toInt] at k2
  exact k2
theorem la_gt (hO : LO X G b L xs) {x y : Int} (h1 : in32 x) (h2 : in32 y) {off : Int} (hd : decode cL_law pc = .ok (.if_icmp .gt off, 3)) (tgt : Nat) (ht : (pc : Int) + off = (tgt : Int)) (k1 : y < x → LA X G n0 n1 Q tgt lv st σ) (k2 : ¬ y < x → LA X G n0 n1 Q (pc + 3) lv st σ) : LA X G n0 n1 Q pc lv (vi y :: vi x :: st) σ := by
  obtain ⟨p, l, e, R, s, m, args, below, meth, c⟩ := X
  obtain ⟨hx, hb, hml, hown, hts, hK, hG, hst, hnw, hX, hR⟩ := hO
  intro H locs ls hP hS hl
  refine lv_icmp_gt hx hb hd ht (fun hc => ?_) (fun hc => ?_)
  · exact k1 ((i32_lt h2 h1).mp hc) H locs ls hP hS hl
  · exact k2 (fun q => hc ((i32_lt h2 h1).mpr q)) H locs ls hP hS hl
theorem la_inc (hO : LO X G b L xs) (j : Nat) {i : Nat} {n x : Int} (hj : lv[j]? = some (i, vi x)) (hn : i < 4) (hl1 : (i, vi (x + n)) :: lv.filter (fun q => !(q.1 == i) && !(q.1 + 1 == i && q.2.category == 2)) = lv') (hd : decode cL_law pc = .ok (.iinc i n, 3)) (k : LA X G n0 n1 Q (pc + 3) lv' st σ) : LA X G n0 n1 Q pc lv st σ := by
  obtain ⟨p, l, e, R, s, m, args, below, meth, c⟩ := X
  obtain ⟨hx, hb, hml, hown, hts, hK, hG, hst, hnw, hX, hR⟩ := hO
  intro H locs ls hP hS hl
  refine lv_iinc hx hb hd hl hj (by rw [← Int32.ofInt_add]) hn hl1 (fun ls' hl' => ?_)
  exact k H locs ls' hP hS hl'
theorem la_go (hO : LO X G b L xs) {off : Int} (hd : decode cL_law pc = .ok (.goto off, 3)) (tgt : Nat) (hp : (pc : Int) + off = (tgt : Int)) (k : LA X G n0 n1 Q tgt lv st σ) : LA X G n0 n1 Q pc lv st σ := by
  obtain ⟨p, l, e, R, s, m, args, below, meth, c⟩ := X
  obtain ⟨hx, hb, hml, hown, hts, hK, hG, hst, hnw, hX, hR⟩ := hO
  intro H locs ls hP hS hl
  exact lv_goto hx hb hd hp (k H locs ls hP hS hl)
theorem la_out (hO : LO X G b L xs) {x : Int} (h1 : in32 x) {dflt lo hi : Int} {offs : Array Int} {len : Nat} (hd : decode cL_law pc = .ok (.tableswitch dflt lo hi offs, len)) (h : x < lo ∨ hi < x) (tgt : Nat) (htg : (pc : Int) + dflt = (tgt : Int)) (k : LA X G n0 n1 Q tgt lv st σ) : LA X G n0 n1 Q pc lv (vi x :: st) σ := by
  obtain ⟨p, l, e, R, s, m, args, below, meth, c⟩ := X
  obtain ⟨hx, hb, hml, hown, hts, hK, hG, hst, hnw, hX, hR⟩ := hO
  intro H locs ls hP hS hl
  exact lv_tableOut hx hb hd (by rw [i32_rt h1]; exact h) htg (k H locs ls hP hS hl)
theorem la_in (hO : LO X G b L xs) {x : Int} {dflt lo hi off : Int} {offs : Array Int} {len : Nat} (j : Nat) (hd : decode cL_law pc = .ok (.tableswitch dflt lo hi offs, len)) (hxj : x = lo + j) (h1 : in32 (lo + j)) (hj : (j : Int) ≤ hi - lo) (ho : offs[j]? = some off) (tgt : Nat) (htg : (pc : Int) + off = (tgt : Int)) (k : LA X G n0 n1 Q tgt lv st σ) : LA X G n0 n1 Q pc lv (vi x :: st) σ := by
  obtain ⟨p, l, e, R, s, m, args, below, meth, c⟩ := X
  obtain ⟨hx, hb, hml, hown, hts, hK, hG, hst, hnw, hX, hR⟩ := hO
  intro H locs ls hP hS hl
  subst hxj
  exact lv_tableIn hx hb hd (by rw [i32_rt h1]; omega) (by rw [i32_rt h1]; omega) (by rw [i32_rt h1, show (lo + (j : Int) - lo).toNat = j by omega]; exact ho) htg (k H locs ls hP hS hl)
theorem la_switch (hO : LO X G b L xs) (hc : n0 ≤ 600000 ∧ n1 ≤ 7302249) (hL : L ≤ 3584) (hI : Inv σ) {i : Nat} (hi : i + 7 ≤ L) {z : Int} (hz : 0 ≤ z ∧ z ≤ 63) (kk : ∀ σ', Inv σ' → LA X G n0 n1 Q 1425 (lvs G b i) [] σ') : LA X G n0 n1 Q 33 (lvs G b i) [vi z] σ := by
  by_cases g0 : z = 0
  · exact la_in hO 0 dL_law_33 (by omega) (by decide) (by decide) rfl 192 rfl (lc_type hO hc hL hI hi kk)
  by_cases g1 : z = 1
  · exact la_in hO 1 dL_law_33 (by omega) (by decide) (by decide) rfl 225 rfl (lc_undo hO hc hL hI hi kk)
  by_cases g2 : z = 2
  · exact la_in hO 2 dL_law_33 (by omega) (by decide) (by decide) rfl 248 rfl (lc_wipe hO hc hL hI hi kk)
  by_cases g3 : z = 3
  · exact la_in hO 3 dL_law_33 (by omega) (by decide) (by decide) rfl 271 rfl (lc_fault hO hc hL hI hi kk)
  by_cases g4 : z = 4
  · exact la_in hO 4 dL_law_33 (by omega) (by decide) (by decide) rfl 294 rfl (lc_height hO hc hL hI hi kk)
  by_cases g5 : z = 5
  · exact la_in hO 5 dL_law_33 (by omega) (by decide) (by decide) rfl 317 rfl (lc_level hO hc hL hI hi kk)
  by_cases g6 : z = 6
  · exact la_in hO 6 dL_law_33 (by omega) (by decide) (by decide) rfl 350 rfl (lc_set hO hc hL hI hi kk)
  by_cases g7 : z = 7
  · exact la_in hO 7 dL_law_33 (by omega) (by decide) (by decide) rfl 383 rfl (lc_odds hO hc hL hI hi kk)
  by_cases g8 : z = 8
  · exact la_in hO 8 dL_law_33 (by omega) (by decide) (by decide) rfl 416 rfl (lc_dike hO hc hL hI hi kk)
  by_cases g9 : z = 9
  · exact la_in hO 9 dL_law_33 (by omega) (by decide) (by decide) rfl 459 rfl (lc_read hO hc hL hI hi kk)
  by_cases g10 : z = 10
  · exact la_in hO 10 dL_law_33 (by omega) (by decide) (by decide) rfl 482 rfl (lc_breaks hO hc hL hI hi kk)
  by_cases g11 : z = 11
  · exact la_in hO 11 dL_law_33 (by omega) (by decide) (by decide) rfl 495 rfl (lc_possession hO hc hL hI hi kk)
  by_cases g12 : z = 12
  · exact la_in hO 12 dL_law_33 (by omega) (by decide) (by decide) rfl 518 rfl (lc_wet hO hc hL hI hi kk)
  by_cases g13 : z = 13
  · exact la_in hO 13 dL_law_33 (by omega) (by decide) (by decide) rfl 561 rfl (lc_water hO hc hL hI hi kk)
  by_cases g14 : z = 14
  · exact la_in hO 14 dL_law_33 (by omega) (by decide) (by decide) rfl 604 rfl (lc_cost hO hc hL hI hi kk)
  by_cases g15 : z = 15
  · exact la_in hO 15 dL_law_33 (by omega) (by decide) (by decide) rfl 667 rfl (lc_closed hO hc hL hI hi kk)
  by_cases g16 : z = 16
  · exact la_in hO 16 dL_law_33 (by omega) (by decide) (by decide) rfl 700 rfl (lc_deed hO hc hL hI hi kk)
  by_cases g17 : z = 17
  · exact la_in hO 17 dL_law_33 (by omega) (by decide) (by decide) rfl 733 rfl (lc_waits hO hc hL hI hi kk)
  by_cases g18 : z = 18
  · exact la_in hO 18 dL_law_33 (by omega) (by decide) (by decide) rfl 797 rfl (lc_goes hO hc hL hI hi kk)
  by_cases g19 : z = 19
  · exact la_in hO 19 dL_law_33 (by omega) (by decide) (by decide) rfl 850 rfl (lc_keep hO hc hL hI hi kk)
  by_cases g20 : z = 20
  · exact la_in hO 20 dL_law_33 (by omega) (by decide) (by decide) rfl 925 rfl (lc_contract hO hc hL hI hi kk)
  by_cases g21 : z = 21
  · exact la_in hO 21 dL_law_33 (by omega) (by decide) (by decide) rfl 978 rfl (lc_tears hO hc hL hI hi kk)
  by_cases g22 : z = 22
  · exact la_in hO 22 dL_law_33 (by omega) (by decide) (by decide) rfl 1001 rfl (lc_never hO hc hL hI hi kk)
  by_cases g23 : z = 23
  · exact la_in hO 23 dL_law_33 (by omega) (by decide) (by decide) rfl 1024 rfl (lc_gain hO hc hL hI hi kk)
  by_cases g24 : z = 24
  · exact la_in hO 24 dL_law_33 (by omega) (by decide) (by decide) rfl 1048 rfl (lc_watch hO hc hL hI hi kk)
  by_cases g25 : z = 25
  · exact la_in hO 25 dL_law_33 (by omega) (by decide) (by decide) rfl 1061 rfl (lc_fact hO hc hL hI hi kk)
  by_cases g26 : z = 26
  · exact la_in hO 26 dL_law_33 (by omega) (by decide) (by decide) rfl 1104 rfl (lc_forget hO hc hL hI hi kk)
  by_cases g27 : z = 27
  · exact la_in hO 27 dL_law_33 (by omega) (by decide) (by decide) rfl 1117 rfl (lc_fit hO hc hL hI hi kk)
  by_cases g28 : z = 28
  · exact la_in hO 28 dL_law_33 (by omega) (by decide) (by decide) rfl 1130 rfl (lc_sheet hO hc hL hI hi kk)
  by_cases g29 : z = 29
  · exact la_in hO 29 dL_law_33 (by omega) (by decide) (by decide) rfl 1173 rfl (lc_lose hO hc hL hI hi kk)
  by_cases g30 : z = 30
  · exact la_in hO 30 dL_law_33 (by omega) (by decide) (by decide) rfl 1196 rfl (lc_lay hO hc hL hI hi kk)
  by_cases g31 : z = 31
  · exact la_in hO 31 dL_law_33 (by omega) (by decide) (by decide) rfl 1249 rfl (lc_get hO hc hL hI hi kk)
  by_cases g32 : z = 32
  · exact la_in hO 32 dL_law_33 (by omega) (by decide) (by decide) rfl 1292 rfl (lc_copy hO hc hL hI hi kk)
  by_cases g33 : z = 33
  · exact la_in hO 33 dL_law_33 (by omega) (by decide) (by decide) rfl 1355 rfl (lc_write hO hc hL hI hi kk)
  by_cases g34 : z = 34
  · exact la_in hO 34 dL_law_33 (by omega) (by decide) (by decide) rfl 1388 rfl (lc_count hO hc hL hI hi kk)
  by_cases g35 : z = 35
  · exact la_in hO 35 dL_law_33 (by omega) (by decide) (by decide) rfl 1411 rfl (lc_digest hO hc hL hI hi kk)
  exact la_out hO (by omega) dL_law_33 (by omega) 1425 rfl (kk σ hI)
theorem la_loop (hO : LO X G b L xs) (hc : n0 ≤ 600000 ∧ n1 ≤ 7302249) (hL : L ≤ 3584) (hend : ∀ (lv : List (Nat × Value)) (σ : St), LA X G n0 n1 Q 1431 lv [] σ) : ∀ (n i : Nat) (σ : St), Inv σ → i ≤ L + 7 → L + 8 - i < n → LA X G n0 n1 Q 18 (lvs G b i) [] σ
  | 0, i, σ, hI, h1, hn => by omega
  | n + 1, i, σ, hI, h1, hn => by
    refine la_int hO 0 (i := 3) rfl rfl dL_law_18 ?_
    refine la_scr hO 3 (i := 0) rfl rfl dL_law_19 ?_
    refine la_len hO hL dL_law_20 ?_
    refine la_bip hO (by decide) dL_law_21 ?_
    refine la_sub hO dL_law_23 ?_
    refine la_gt hO (by omega) (by omega) dL_law_24 1431 rfl (fun _ => hend _ _) (fun q => ?_)
    refine la_scr hO 3 (i := 0) rfl rfl dL_law_27 ?_
    refine la_int hO 0 (i := 3) rfl rfl dL_law_28 ?_
    refine la_ld hO hL i rfl (by omega) dL_law_29 ?_
    refine la_bip hO (by decide) dL_law_30 ?_
    refine la_and hO dL_law_32 ?_
    refine la_switch hO hc hL hI (i := i) (by omega) (and63 _) (fun σ' hI' => ?_)
    refine la_inc hO 0 (i := 3) rfl (by decide) (lv' := lvs G b ((i + 7 : Nat) : Int)) rfl dL_law_1425 ?_
    refine la_go hO dL_law_1428 18 rfl ?_
    exact la_loop hO hc hL hend n (i + 7) σ' hI' (by omega) (by omega)
end LOOP
