/-! CONSTRUCTORS: arrays of arrays -/
section CTOR2
variable {X : CX} {G : Ge} {A : Nat → Prop} {cc : ByteArray} {nL n0 n1 : Nat} {own : String} {R0 : Room} {Q : State → Prop} {pc : Nat} {lv : List (Nat × Value)} {st : List Value} {ws : va_W}
def r3 (a b c : Nat) : Nat → Option Nat := fun i => match i with
  | 0 => some a
  | 1 => some b
  | 2 => some c
  | _ => none
theorem r3_eq (r : Nat → Nat) : (fun i => if i < 3 then some (r i) else none) = r3 (r 0) (r 1) (r 2) := by
  funext i
  match i with
  | 0 => rfl
  | 1 => rfl
  | 2 => rfl
  | n + 3 => exact if_neg (by omega)
def rows3 (G : Ge) (K q a b c : Nat) : va_W := [(q, .inl (G.2.2.1 5, 3, .inr (.inr (.inr (.inr (r3 a b c)))))), (a, .inl (G.2.2.1 0, K, .inl (fun _ => 0))), (b, .inl (G.2.2.1 0, K, .inl (fun _ => 0))), (c, .inl (G.2.2.1 0, K, .inl (fun _ => 0)))]
theorem cr_mna (hO : CO X G A cc nL own R0) {ixx : Nat} {z : Int} (K : Nat) (hz : z = (K : Int)) (hK9 : K ≤ 1000) (hcl : Cond.classLink own ixx "[[I" ∈ rr_tbl) (hw : Cond.arrayClass .int ∈ rr_tbl) (hroom : n0 + (1 + 3) ≤ R0.cells ∧ n1 + (3 + 3 * K) ≤ R0.slots) (hd : decode cc pc = .ok (.multianewarray ixx 2, 4)) (k : ∀ q a b c : Nat, CA X G A nL (n0 + 1 + 3) (n1 + 3 + 3 * K) Q (pc + 4) lv (.ref q :: st) (ws ++ rows3 G K q a b c)) : CA X G A nL n0 n1 Q pc lv (vi z :: vi 3 :: st) ws := by
  obtain ⟨p, l, e, R, s, m, args, below, meth, c⟩ := X
  obtain ⟨hx, hb, hml, hown, hts, hK, hr, hin, hA, hnw, hao, hR⟩ := hO
  subst hR
  subst hz
  intro H locs ls hP hD hS hl
  have hf : va_pl [] (fun _ : Nat => (.inl (G.2.2.1 0, K, .inl (fun _ => 0)) : va_E)) = [] := rfl
  refine va_mna (X := ws) (L := []) (f := fun _ => .inl (G.2.2.1 0, K, .inl (fun _ => 0))) (ty := .int) (cy := G.2.2.1 0) (N' := 3) (K' := K) (z := (K, .inl (fun _ => 0))) hx hb hown (hts _ hcl) hao.2.2 (hts _ hw) (hK.2 0 _ rfl).2 hK (by rw [hf, List.append_nil]; exact hP) (by rw [hf, List.append_nil]; exact hD) hS hA (by decide) (fun q => ?_) (by decide) (by rw [i32_cl (by omega) (by omega), Int.toNat_natCast]) (by decide) (by show K * 4 ≤ 536870912; omega) (by omega) rfl rfl hroom.1 hroom.2 (fun c => ?_) hd (fun q r cA H1 h1 h2 hK1 hP1 hD1 hS1 => ?_)
  · have := (i32_lt (x := (K : Int)) (y := 0) (by omega) z32_0).mp q
    omega
  · show ({ cls := c, slots := Array.replicate K (.int 0), vm := .none } : Cell) = _
    rw [arrV_new]
    rfl
  · have e1 : cA = G.2.2.1 5 := gcls (i := 5) hK rfl hK1
    subst e1
    have e2 := vr_rows (L := []) (l := (List.range 3).map r) (f := fun _ => (.inl (G.2.2.1 0, K, .inl (fun _ => 0)) : va_E)) (e := .inl (G.2.2.1 0, K, .inl (fun _ => 0))) (fun a _ h => absurd h List.not_mem_nil)
    rw [← e2, List.append_assoc, r3_eq] at hP1 hD1
    exact k q (r 0) (r 1) (r 2) H1 locs ls hP1 hD1 hS1 hl
end CTOR2
