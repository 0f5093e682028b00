/-! CONSTRUCTORS: loops over small arrays -/
section CTOR3
variable {X : CX} {G : Ge} {A : Nat → Prop} {cc : ByteArray} {nL n0 n1 : Nat} {own : String} {R0 : Room} {Q : State → Prop} {pc : Nat} {lv lv' : List (Nat × Value)} {st : List Value} {ws : va_W}
theorem cr_get (hO : CO X G A cc nL own R0) {ixx ci j a : Nat} {v : Value} {fs : List Value} (hF : rr_FL own ixx ci j) (q0 : Nat) (he : ws[q0]? = some (a, .inr (ci, fs))) (hv : fs[j]? = some v) (hd : decode cc pc = .ok (.getfield ixx, 3)) (k : CA X G A nL n0 n1 Q (pc + 3) lv (v :: st) ws) : CA X G A nL n0 n1 Q pc lv (.ref a :: st) ws := by
  obtain ⟨p, l, e, R, s, m, args, below, meth, c⟩ := X
  obtain ⟨hx, hb, hml, hown, hts, hK, hr, hin, hA, hnw, hao, hR⟩ := hO
  intro H locs ls hP hD hS hl
  obtain ⟨C, T, N, q1, q2, q3, q4⟩ := hF
  refine va_get (D := G.1) (cl := vwCl) (tys := rr_gT G) hx hb hts q2 hown hK hP q0 he q1 j q3 (hts _ q4) (fun _ h9 => h9) (v := v) hv hd ?_
  exact k H locs ls hP hD hS hl
theorem cr_ast (hO : CO X G A cc nL own R0) {n a : Nat} {i x : Int} {f : Nat → Int32} (q0 : Nat) (he : ws[q0]? = some (a, .inl (G.2.2.1 0, n, .inl f))) (hn : n ≤ 1000) (hi : ix i n) (j0 : Nat) (hj0 : i.toNat = j0) (hd : decode cc pc = .ok (.iastore, 1)) (k : CA X G A nL n0 n1 Q (pc + 1) lv st (ws.set q0 (a, .inl (G.2.2.1 0, n, .inl (upd f j0 (Int32.ofInt x)))))) : CA X G A nL n0 n1 Q pc lv (vi x :: vi i :: .ref a :: st) ws := by
  obtain ⟨p, l, e, R, s, m, args, below, meth, c⟩ := X
  obtain ⟨hx, hb, hml, hown, hts, hK, hr, hin, hA, hnw, hao, hR⟩ := hO
  intro H locs ls hP hD hS hl
  subst hj0
  refine va_iast (D := G.1) (cl := vwCl) (tys := rr_gT G) hx hb hK hP hD hS q0 0 he rfl (i32_in hn hi) hd (fun H1 locs1 hP1 hD1 hS1 => ?_)
  rw [i32_cl (by omega) hi.1] at hP1 hD1
  exact k H1 locs1 ls hP1 hD1 hS1 hl
theorem cr_ist (hO : CO X G A cc nL own R0) {q : Fin 4} {i : Nat} {x : Int} (hi : (q : Nat) = i) (hn : i < nL) (hl1 : (i, vi x) :: lv.filter (fun q => !(q.1 == i) && !(q.1 + 1 == i && q.2.category == 2)) = lv') (hd : decode cc pc = .ok (.istore_n q, 1)) (k : CA X G A nL n0 n1 Q (pc + 1) lv' st ws) : CA X G A nL n0 n1 Q pc lv (vi x :: st) ws := by
  obtain ⟨p, l, e, R, s, m, args, below, meth, c⟩ := X
  obtain ⟨hx, hb, hml, hown, hts, hK, hr, hin, hA, hnw, hao, hR⟩ := hO
  intro H locs ls hP hD hS hl
  exact lv_istore_n hx hb hd hi hl hn hl1 (fun ls' hl' => k H locs ls' hP hD hS hl')
theorem cr_inc (hO : CO X G A cc nL own R0) (j : Nat) {i : Nat} {n x : Int} (hj : lv[j]? = some (i, vi x)) (hn : i < nL) (hl1 : (i, vi (x + n)) :: lv.filter (fun q => !(q.1 == i) && !(q.1 + 1 == i && q.2.category == 2)) = lv') (hd : decode cc pc = .ok (.iinc i n, 3)) (k : CA X G A nL n0 n1 Q (pc + 3) lv' st ws) : CA X G A nL n0 n1 Q pc lv st ws := by
  obtain ⟨p, l, e, R, s, m, args, below, meth, c⟩ := X
  obtain ⟨hx, hb, hml, hown, hts, hK, hr, hin, hA, hnw, hao, hR⟩ := hO
  intro H locs ls hP hD hS hl
  exact lv_iinc hx hb hd hl hj (by rw [← Int32.ofInt_add]) hn hl1 (fun ls' hl' => k H locs ls' hP hD hS hl')
theorem cr_go (hO : CO X G A cc nL own R0) {off : Int} (hd : decode cc pc = .ok (.goto off, 3)) (tgt : Nat) (hp : (pc : Int) + off = (tgt : Int)) (k : CA X G A nL n0 n1 Q tgt lv st ws) : CA X G A nL n0 n1 Q pc lv st ws := by
  obtain ⟨p, l, e, R, s, m, args, below, meth, c⟩ := X
  obtain ⟨hx, hb, hml, hown, hts, hK, hr, hin, hA, hnw, hao, hR⟩ := hO
  intro H locs ls hP hD hS hl
  exact lv_goto hx hb hd hp (k H locs ls hP hD hS hl)
theorem cr_geY (hO : CO X G A cc nL own R0) {x y : Int} (h1 : in32 x) (h2 : in32 y) (h : y ≤ x) {off : Int} (hd : decode cc pc = .ok (.if_icmp .ge off, 3)) (tgt : Nat) (ht : (pc : Int) + off = (tgt : Int)) (k : CA X G A nL n0 n1 Q tgt lv st ws) : CA X G A nL n0 n1 Q pc lv (vi y :: vi x :: st) ws := by
  obtain ⟨p, l, e, R, s, m, args, below, meth, c⟩ := X
  obtain ⟨hx, hb, hml, hown, hts, hK, hr, hin, hA, hnw, hao, hR⟩ := hO
  intro H locs ls hP hD hS hl
  exact lv_icmp_ge hx hb hd ht (fun hc => k H locs ls hP hD hS hl) (fun hc => absurd ((i32_le h2 h1).mpr h) hc)
theorem cr_geN (hO : CO X G A cc nL own R0) {x y : Int} (h1 : in32 x) (h2 : in32 y) (h : ¬ y ≤ x) {off : Int} (hd : decode cc pc = .ok (.if_icmp .ge off, 3)) (tgt : Nat) (ht : (pc : Int) + off = (tgt : Int)) (k : CA X G A nL n0 n1 Q (pc + 3) lv st ws) : CA X G A nL n0 n1 Q pc lv (vi y :: vi x :: st) ws := by
  obtain ⟨p, l, e, R, s, m, args, below, meth, c⟩ := X
  obtain ⟨hx, hb, hml, hown, hts, hK, hr, hin, hA, hnw, hao, hR⟩ := hO
  intro H locs ls hP hD hS hl
  exact lv_icmp_ge hx hb hd ht (fun hc => absurd ((i32_le h2 h1).mp hc) h) (fun hc => k H locs ls hP hD hS hl)
end CTOR3
