/-! THE ABSTRACT MEMORY: every cell of the system by its place (0 to 70), its numbers as whole numbers; the shape never changes after the constructors -/
abbrev St : Type := Nat → Nat → Int
abbrev Rt : Type := Int × St
/-- what a cell is: an array of numbers (type, length); an array of cells (type, length, first place); an object (class, fields: (0, place), (1, _) an int, (2, _) a long, (3, _) a boolean) -/
abbrev Kd : Type := (Nat × Nat) ⊕ (Nat × Nat × Nat) ⊕ (Nat × List (Nat × Nat))
/-- tables; addresses; array classes; the two static rows -/
abbrev Ge : Type := va_G × (Nat → Nat) × (Nat → ClassId) × Nat × Nat
def rr_TB : List Kd := [
  .inr (.inr (8, [(0, 1), (0, 10), (0, 11), (0, 12), (0, 16), (0, 28), (0, 36), (0, 37), (0, 45), (0, 49), (1, 0)])),
  .inr (.inl (3, 4, 2)),
  .inr (.inr (5, [(0, 6), (1, 0)])), .inr (.inr (5, [(0, 7), (1, 0)])), .inr (.inr (5, [(0, 8), (1, 0)])), .inr (.inr (5, [(0, 9), (1, 0)])),
  .inl (0, 30), .inl (0, 30), .inl (0, 30), .inl (0, 12),
  .inl (0, 7), .inl (0, 3),
  .inr (.inr (1, [(0, 13), (0, 14), (0, 15), (1, 0)])), .inl (0, 8), .inl (0, 8), .inl (0, 8),
  .inr (.inr (6, [(0, 1), (0, 10), (0, 12), (0, 17), (0, 21), (0, 25), (0, 26), (0, 27), (3, 0)])),
  .inr (.inl (5, 3, 18)), .inl (0, 30), .inl (0, 30), .inl (0, 30),
  .inr (.inl (5, 3, 22)), .inl (0, 30), .inl (0, 30), .inl (0, 30),
  .inl (0, 3), .inl (0, 10), .inl (0, 30),
  .inr (.inr (7, [(0, 16), (0, 10), (0, 11), (0, 29), (0, 33), (0, 34), (0, 35)])),
  .inr (.inl (5, 3, 30)), .inl (0, 3), .inl (0, 3), .inl (0, 3),
  .inl (0, 3), .inl (0, 3), .inl (2, 3),
  .inr (.inr (3, [(0, 16), (1, 0), (1, 0), (1, 0)])),
  .inr (.inr (0, [(0, 16), (0, 11), (0, 38), (0, 39), (0, 40), (0, 41), (1, 0), (1, 0), (1, 0), (1, 0)])),
  .inl (0, 8), .inl (0, 8), .inl (0, 8),
  .inr (.inl (5, 3, 42)), .inl (0, 256), .inl (0, 256), .inl (0, 256),
  .inr (.inr (2, [(0, 46), (0, 47), (0, 48), (1, 0)])), .inl (0, 8), .inl (0, 8), .inl (0, 8),
  .inr (.inl (4, 4, 50)),
  .inr (.inr (4, [(0, 54), (1, 0), (1, 0)])), .inr (.inr (4, [(0, 55), (1, 0), (1, 0)])), .inr (.inr (4, [(0, 56), (1, 0), (1, 0)])), .inr (.inr (4, [(0, 57), (1, 0), (1, 0)])),
  .inl (0, 60), .inl (0, 60), .inl (0, 60), .inl (0, 60),
  .inr (.inr (9, [(0, 59), (0, 60), (0, 61), (0, 62), (1, 0), (0, 63), (0, 64), (0, 65), (0, 66), (1, 0), (0, 67), (0, 68), (3, 0), (0, 69), (1, 0), (1, 0), (2, 0), (1, 0), (0, 70)])),
  .inl (0, 4), .inl (0, 4), .inl (0, 240), .inl (0, 60), .inl (0, 120), .inl (0, 4), .inl (0, 7), .inl (0, 3), .inl (0, 27), .inl (1, 93), .inl (0, 32), .inl (0, 24)]

def rr_fv (ad : Nat → Nat) (f : Nat → Int) (i : Nat) (q : Nat × Nat) : Value := match q.1 with
  | 0 => .ref (ad q.2)
  | 2 => .long (Int64.ofInt (f i))
  | _ => .int (Int32.ofInt (f i))
def rr_fvs (ad : Nat → Nat) (f : Nat → Int) : Nat → List (Nat × Nat) → List Value
  | _, [] => []
  | i, q :: qs => rr_fv ad f i q :: rr_fvs ad f (i + 1) qs
def rr_kE (G : Ge) (f : Nat → Int) (k : Kd) : va_E := match k with
  | .inl (1, n) => .inl (G.2.2.1 1, n, .inr (.inl (fun j => Int64.ofInt (f j))))
  | .inl (t, n) => .inl (G.2.2.1 t, n, .inl (fun j => Int32.ofInt (f j)))
  | .inr (.inl (t, n, b)) => .inl (G.2.2.1 t, n, .inr (.inr (.inr (.inr (fun j => some (G.2.1 (b + j)))))))
  | .inr (.inr (ci, fs)) => .inr (ci, rr_fvs G.2.1 f 0 fs)
def rr_wd (G : Ge) (σ : St) : va_W := (List.range 71).map (fun k => (G.2.1 k, rr_kE G (σ k) (rr_TB.getD k (.inl (0, 0)))))
theorem rr_lt {k : Nat} {kd : Kd} (h : rr_TB[k]? = some kd) : k < 71 := (List.getElem?_eq_some_iff.mp h).1
theorem rr_getD {k : Nat} {kd : Kd} (h : rr_TB[k]? = some kd) : rr_TB.getD k (.inl (0, 0)) = kd := by
  rw [List.getD_eq_getElem?_getD, h]; rfl
theorem rr_wd_get {G : Ge} {σ : St} {k : Nat} {kd : Kd} (h : rr_TB[k]? = some kd) : (rr_wd G σ)[k]? = some (G.2.1 k, rr_kE G (σ k) kd) := by
  unfold rr_wd
  rw [List.getElem?_map, List.getElem?_range (rr_lt h), Option.map_some, rr_getD h]
theorem rr_wd_len {G : Ge} {σ : St} : (rr_wd G σ).length = 71 := by
  unfold rr_wd
  rw [List.length_map, List.length_range]
theorem rr_wd_at {G : Ge} {σ : St} {k : Nat} {q : Nat × va_E} (h : (rr_wd G σ)[k]? = some q) : k < 71 ∧ q.1 = G.2.1 k := by
  have hk : k < 71 := by
    have := (List.getElem?_eq_some_iff.mp h).1
    rwa [rr_wd_len] at this
  refine ⟨hk, ?_⟩
  unfold rr_wd at h
  rw [List.getElem?_map, List.getElem?_range hk, Option.map_some] at h
  cases h
  rfl
theorem rr_wd_set {G : Ge} {σ σ' : St} {k : Nat} {kd : Kd} (h : rr_TB[k]? = some kd) (hs : ∀ j, j ≠ k → σ' j = σ j) : (rr_wd G σ).set k (G.2.1 k, rr_kE G (σ' k) kd) = rr_wd G σ' := by
  apply List.ext_getElem?
  intro j
  by_cases e : j = k
  · subst e
    rw [List.getElem?_set_self (by rw [rr_wd_len]; exact rr_lt h), rr_wd_get h]
  · rw [List.getElem?_set_ne (fun q => e q.symm)]
    by_cases hj : j < 71
    · unfold rr_wd
      rw [List.getElem?_map, List.getElem?_map, List.getElem?_range hj, Option.map_some, Option.map_some, hs j e]
    · rw [List.getElem?_eq_none (by rw [rr_wd_len]; omega), List.getElem?_eq_none (by rw [rr_wd_len]; omega)]
def su (σ : St) (k i : Nat) (v : Int) : St := fun k' i' => if k' = k ∧ i' = i then v else σ k' i'
theorem su_ne {σ : St} {k i : Nat} {v : Int} (j : Nat) (h : j ≠ k) : su σ k i v j = σ j := by
  funext i'
  simp [su, h]
theorem su_eq {σ : St} {k i : Nat} {v : Int} (i' : Nat) : su σ k i v k i' = if i' = i then v else σ k i' := by
  simp [su]
/-- n numbers of cell a from sp on come to cell b from dp on -/
def scp (σ : St) (a sp b dp n : Nat) : St := fun k i => if k = b ∧ dp ≤ i ∧ i < dp + n then σ a (sp + (i - dp)) else σ k i
theorem scp_ne {σ : St} {a sp b dp n : Nat} (j : Nat) (h : j ≠ b) : scp σ a sp b dp n j = σ j := by
  funext i'
  simp [scp, h]
def rr_A (G : Ge) : Nat → Prop := fun q => ∃ k, k < 71 ∧ q = G.2.1 k
def rr_GD (G : Ge) : Prop := ∀ i j, i < 71 → j < 71 → G.2.1 i = G.2.1 j → i = j
theorem rr_D {G : Ge} {σ : St} (h : rr_GD G) : va_D (rr_A G) (rr_wd G σ) := by
  refine ⟨fun i j p q hp hq he => ?_, fun k q hq => ?_⟩
  · obtain ⟨h1, h2⟩ := rr_wd_at hp
    obtain ⟨h3, h4⟩ := rr_wd_at hq
    exact h i j h1 h3 (by rw [← h2, ← h4]; exact he)
  · obtain ⟨h1, h2⟩ := rr_wd_at hq
    exact ⟨k, h1, h2⟩
def rr_gT (G : Ge) : List (ClassId × FieldType) := [(G.2.2.1 0, .int), (G.2.2.1 1, .long), (G.2.2.1 2, .boolean), (G.2.2.1 3, .object "RoadRiver$Text"), (G.2.2.1 4, .object "RoadRiver$Sheet"), (G.2.2.1 5, .array .int)]
def rr_TL (j : Nat) : Int := match j with
  | 3 => 1
  | _ => 0
def rr_TM (j : Nat) : Int := match j with
  | 0 => 9
  | 1 => 29
  | 3 => 9
  | 6 => 9
  | _ => 99
def rr_ST (G : Ge) (U : State) : Prop := (va_Z "RoadRiver" "TERM_LEAST" "[I" (.ref G.2.2.2.1) (rr_A G) U U.heap ∧ va_T .int G.2.2.2.1 7 (fun j => .int (Int32.ofInt (rr_TL j))) (rr_A G) U U.heap) ∧ (va_Z "RoadRiver" "TERM_MOST" "[I" (.ref G.2.2.2.2) (rr_A G) U U.heap ∧ va_T .int G.2.2.2.2 7 (fun j => .int (Int32.ofInt (rr_TM j))) (rr_A G) U U.heap)
/-- the words that stay good over calls, and the nest's links, which go with the world -/
def rr_tbl : List Cond := lw_tbl.filter goodWord
theorem rr_in {w : Cond} (h : w ∈ lw_tbl) (hg : goodWord w = true) : w ∈ rr_tbl := List.mem_filter.mpr ⟨h, hg⟩
def rr_isN (w : Cond) : Bool := match w with
  | .methodLinkNest .. => true
  | .fieldLinkNest .. => true
  | _ => false
def rr_NW (U : State) : Prop := ∀ w ∈ lw_tbl, rr_isN w = true → va_Nw w U
theorem rr_NW.warm {s U : State} (hW : s.WarmedH U.vm) (h : rr_NW s) : rr_NW U := by
  intro w hw hn
  have h1 := h w hw hn
  cases w with
  | methodLinkNest a i x b => exact va_Nw.warmM hW h1
  | fieldLinkNest a i b n d z => exact va_Nw.warmF hW h1
  | _ => cases hn
theorem rr_NW.same {s U : State} (hv : s.vm = U.vm) (h : rr_NW s) : rr_NW U := by
  intro w hw hn
  have h1 := h w hw hn
  refine va_Nw.same ?_ hv h1
  cases w with
  | methodLinkNest a i x b => rfl
  | fieldLinkNest a i b n d z => rfl
  | _ => cases hn
def rr_Pre (G : Ge) (σ : St) (U : State) : Prop := va_P G.1 vwCl (rr_wd G σ) U.heap ∧ va_K G.1 vwCl (rr_gT G) U ∧ rr_ST G U ∧ rr_NW U
def rr_rv (rk : Nat) (r : Int) : Option Value := match rk with
  | 0 => none
  | 1 => some (.int (Int32.ofInt r))
  | _ => some (.long (Int64.ofInt r))
def rr_Q (G : Ge) (rk : Nat) (Z : Rt) : Array Value → State → Outcome → State → Prop := fun _ st oc t => oc = .returned (rr_rv rk Z.1) ∧ va_P G.1 vwCl (rr_wd G Z.2) t.heap ∧ va_F (rr_A G) st t
def rr_rm (a b : Nat) : Room := { frames := a, cells := 0, slots := 0, locals := b }
/-- A CONTRACT: if the function that was read off the method says that it comes to Z, it does -/
def rr_Ct (l : Launch) (G : Ge) (y : MethodName) (cc : ByteArray) (nL : Nat) (ret : Option FieldType) (a b rk : Nat) (av : List Value) (σ : St) (o : Option Rt) : Prop :=
  ∀ Z : Rt, o = some Z → Met l y (.code y cc nL ret :: rr_tbl) (rr_rm a b) (va_Pc av (rr_Pre G σ)) (rr_Q G rk Z) 0 0 (rr_A G)
abbrev CX : Type := Program × Launch × Env × Room × State × MethodId × Array Value × List Frame × Method × Code
/-- what holds all through a method's walk -/
def rr_OK (X : CX) (G : Ge) (cc : ByteArray) (nL : Nat) (own : String) (ret : Option FieldType) (a b : Nat) : Prop := match X with
  | (p, l, e, R, s, m, args, below, meth, c) => p.tables.exec = Jvm.exec ∧ c.code = cc ∧ c.maxLocals = nL ∧ s.vm.findClass own = some m.cls ∧ (∀ w ∈ rr_tbl, w.before args s = true) ∧ va_K G.1 vwCl (rr_gT G) s ∧ rr_GD G ∧ meth.sig.returnType = ret ∧ meth.locks = false ∧ rr_ST G s ∧ rr_NW s ∧ R = rr_rm a b
/-- THE WALK: with these locals, this stack and this memory at pc, the method comes to Z -/
def rr_AT (X : CX) (G : Ge) (nL rk : Nat) (Z : Rt) (pc : Nat) (lv : List (Nat × Value)) (st : List Value) (σ : St) : Prop := match X with
  | (p, l, e, R, s, m, args, below, meth, c) => ∀ (H : Heap) (locs : List Loc) (ls : Array Slot), va_P G.1 vwCl (rr_wd G σ) H → va_S (rr_A G) s.heap H locs → lv_has ls nL lv → W p l e R s m args below meth c H locs 0 0 (MQ below (rr_Q G rk Z) args s 0 0 (rr_A G)) (F0 m pc ls st)
def vi (z : Int) : Value := .int (Int32.ofInt z)
def vl (z : Int) : Value := .long (Int64.ofInt z)
def vr (G : Ge) (k : Nat) : Value := .ref (G.2.1 k)
abbrev in32 (z : Int) : Prop := -2147483648 ≤ z ∧ z ≤ 2147483647
abbrev in64 (z : Int) : Prop := -9223372036854775808 ≤ z ∧ z ≤ 9223372036854775807
def chk (P : Prop) [Decidable P] (E : Option Rt) : Option Rt := if P then E else none
def cll (o : Option Rt) (K : Int → St → Option Rt) : Option Rt := match o with
  | some r => K r.1 r.2
  | none => none
theorem chk_some {P : Prop} [Decidable P] {E : Option Rt} {Z : Rt} (h : chk P E = some Z) : P ∧ E = some Z := by
  unfold chk at h
  by_cases hp : P
  · rw [if_pos hp] at h
    exact ⟨hp, h⟩
  · rw [if_neg hp] at h
    cases h
theorem chk_pos {P : Prop} [Decidable P] {E : Option Rt} (h : P) : chk P E = E := if_pos h
theorem cll_some {o : Option Rt} {K : Int → St → Option Rt} {Z : Rt} (h : cll o K = some Z) : ∃ r : Rt, o = some r ∧ K r.1 r.2 = some Z := by
  cases o with
  | none => cases h
  | some r => exact ⟨r, rfl, h⟩
theorem cll_pos {K : Int → St → Option Rt} {r : Int} {σ : St} : cll (some (r, σ)) K = K r σ := rfl
theorem i32_rt {z : Int} (h : in32 z) : (Int32.ofInt z).toInt = z := Int32.toInt_ofInt_of_le (by omega) (by omega)
theorem i64_rt {z : Int} (h : in64 z) : (Int64.ofInt z).toInt = z := Int64.toInt_ofInt_of_le (by omega) (by omega)
theorem i32_lt {x y : Int} (hx : in32 x) (hy : in32 y) : Int32.ofInt x < Int32.ofInt y ↔ x < y := by rw [Int32.lt_iff_toInt_lt, i32_rt hx, i32_rt hy]
theorem i32_le {x y : Int} (hx : in32 x) (hy : in32 y) : Int32.ofInt x ≤ Int32.ofInt y ↔ x ≤ y := by rw [Int32.le_iff_toInt_le, i32_rt hx, i32_rt hy]
theorem i32_eq {x y : Int} (hx : in32 x) (hy : in32 y) : Int32.ofInt x = Int32.ofInt y ↔ x = y := by rw [← Int32.toInt_inj, i32_rt hx, i32_rt hy]
theorem i64_lt {x y : Int} (hx : in64 x) (hy : in64 y) : Int64.ofInt x < Int64.ofInt y ↔ x < y := by rw [Int64.lt_iff_toInt_lt, i64_rt hx, i64_rt hy]
theorem i64_eq {x y : Int} (hx : in64 x) (hy : in64 y) : Int64.ofInt x = Int64.ofInt y ↔ x = y := by rw [← Int64.toInt_inj, i64_rt hx, i64_rt hy]
theorem i32_cl {z : Int} (h : in32 z) (h0 : 0 ≤ z) : (Int32.ofInt z).toNatClampNeg = z.toNat := by
  show (Int32.ofInt z).toInt.toNat = z.toNat
  rw [i32_rt h]
theorem i32_in {i : Int} {n : Nat} (hn : n ≤ 1000) (h : 0 ≤ i ∧ i < n) : vp_in (Int32.ofInt i) n := by
  rw [vp_in_iff, i32_rt (by omega)]
  exact h
/-- an index within -/
abbrev ix (i : Int) (n : Nat) : Prop := 0 ≤ i ∧ i < (n : Int)
theorem ix_nat {i : Int} {n : Nat} (h : ix i n) : i.toNat < n := by omega
def andZ (x y : Int) : Int := (Int32.ofInt x &&& Int32.ofInt y).toInt
def orZ (x y : Int) : Int := (Int32.ofInt x ||| Int32.ofInt y).toInt
def xorZ (x y : Int) : Int := (Int32.ofInt x ^^^ Int32.ofInt y).toInt
def shlZ (x y : Int) : Int := (Int32.ofInt x <<< (Int32.ofInt y &&& 31)).toInt
def shrZ (x y : Int) : Int := (Int32.ofInt x >>> (Int32.ofInt y &&& 31)).toInt
def ushrZ (x y : Int) : Int := ((Int32.ofInt x).toUInt32 >>> ((Int32.ofInt y).toUInt32 &&& Int32.toUInt32 31)).toInt32.toInt
def i2bZ (x : Int) : Int := (Int32.ofInt x).toInt8.toInt32.toInt
def i2sZ (x : Int) : Int := (Int32.ofInt x).toInt16.toInt32.toInt
/-- a loop's steps are counted; no loop of the system takes as many -/
def FU : Nat := 1000
