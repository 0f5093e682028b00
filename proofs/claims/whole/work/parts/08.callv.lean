section CALLW
variable {X : CX} {G : Ge} {cc : ByteArray} {nL rk a b pc : Nat} {own : String} {ret : Option FieldType} {Z : Rt} {lv lv' : List (Nat × Value)} {st stk : List Value} {σ : St} {y : MethodName} {ccY : ByteArray} {nY aY bY n ixx : Nat} {retY : Option FieldType} {o : Option Rt} {K : Int → St → Option Rt}
theorem at_callV0 (hO : rr_OK X G cc nL own ret a b) {k0 ci : Nat} {fs : List (Nat × Nat)} {As : List Value} (hM : rr_Ct X.2.1 G y ccY nY retY aY bY 0 (vr G k0 :: As) σ o) (mb : rr_MB y ccY nY retY n) (mi : rr_MI y) (hlink : Cond.methodLink own ixx y ∈ rr_tbl) (ht : rr_TB[k0]? = some (.inr (.inr (ci, fs)))) (hcl : ∃ q, vwCl[ci]? = some q ∧ q.1 = y.cls) (hn : As.length = n) (hroom : aY + 1 ≤ a ∧ 8 + (nY + 11) + bY ≤ b) (hcat : (st.map fun v => v.category).sum ≤ 8) (hstk : stk = As.reverse ++ vr G k0 :: st) (hd : decode cc pc = .ok (.invokevirtual ixx, 3)) (pc' : Nat) (hp : pc + 3 = pc') (hf : cll o K = some Z)
    (kk : ∀ (r : Int) (σ' : St), K r σ' = some Z → rr_AT X G nL rk Z pc' lv st σ') : rr_AT X G nL rk Z pc lv stk σ := at_callV (rkY := 0) hO hM mb mi hlink ht hcl hn hroom hcat hstk hd pc' hp hf kk
theorem at_callV1 (hO : rr_OK X G cc nL own ret a b) {k0 ci : Nat} {fs : List (Nat × Nat)} {As : List Value} (hM : rr_Ct X.2.1 G y ccY nY retY aY bY 1 (vr G k0 :: As) σ o) (mb : rr_MB y ccY nY retY n) (mi : rr_MI y) (hlink : Cond.methodLink own ixx y ∈ rr_tbl) (ht : rr_TB[k0]? = some (.inr (.inr (ci, fs)))) (hcl : ∃ q, vwCl[ci]? = some q ∧ q.1 = y.cls) (hn : As.length = n) (hroom : aY + 1 ≤ a ∧ 8 + (nY + 11) + bY ≤ b) (hcat : (st.map fun v => v.category).sum ≤ 8) (hstk : stk = As.reverse ++ vr G k0 :: st) (hd : decode cc pc = .ok (.invokevirtual ixx, 3)) (pc' : Nat) (hp : pc + 3 = pc') (hf : cll o K = some Z)
    (kk : ∀ (r : Int) (σ' : St), K r σ' = some Z → rr_AT X G nL rk Z pc' lv (vi r :: st) σ') : rr_AT X G nL rk Z pc lv stk σ := at_callV (rkY := 1) hO hM mb mi hlink ht hcl hn hroom hcat hstk hd pc' hp hf kk
theorem at_callV2 (hO : rr_OK X G cc nL own ret a b) {k0 ci : Nat} {fs : List (Nat × Nat)} {As : List Value} (hM : rr_Ct X.2.1 G y ccY nY retY aY bY 2 (vr G k0 :: As) σ o) (mb : rr_MB y ccY nY retY n) (mi : rr_MI y) (hlink : Cond.methodLink own ixx y ∈ rr_tbl) (ht : rr_TB[k0]? = some (.inr (.inr (ci, fs)))) (hcl : ∃ q, vwCl[ci]? = some q ∧ q.1 = y.cls) (hn : As.length = n) (hroom : aY + 1 ≤ a ∧ 8 + (nY + 11) + bY ≤ b) (hcat : (st.map fun v => v.category).sum ≤ 8) (hstk : stk = As.reverse ++ vr G k0 :: st) (hd : decode cc pc = .ok (.invokevirtual ixx, 3)) (pc' : Nat) (hp : pc + 3 = pc') (hf : cll o K = some Z)
    (kk : ∀ (r : Int) (σ' : St), K r σ' = some Z → rr_AT X G nL rk Z pc' lv (vl r :: st) σ') : rr_AT X G nL rk Z pc lv stk σ := at_callV (rkY := 2) hO hM mb mi hlink ht hcl hn hroom hcat hstk hd pc' hp hf kk
theorem at_callS0 (hO : rr_OK X G cc nL own ret a b) {As : List Value} (hM : rr_Ct X.2.1 G y ccY nY retY aY bY 0 As σ o) (mb : rr_MB y ccY nY retY n) (mi : Cond.static y ∈ rr_tbl) (hlink : Cond.methodLink own ixx y ∈ rr_tbl) (hn : As.length = n) (hroom : aY + 1 ≤ a ∧ 8 + (nY + 11) + bY ≤ b) (hcat : (st.map fun v => v.category).sum ≤ 8) (hstk : stk = As.reverse ++ st) (hd : decode cc pc = .ok (.invokestatic ixx, 3)) (pc' : Nat) (hp : pc + 3 = pc') (hf : cll o K = some Z)
    (kk : ∀ (r : Int) (σ' : St), K r σ' = some Z → rr_AT X G nL rk Z pc' lv st σ') : rr_AT X G nL rk Z pc lv stk σ := at_callS (rkY := 0) hO hM mb mi hlink hn hroom hcat hstk hd pc' hp hf kk
theorem at_callS1 (hO : rr_OK X G cc nL own ret a b) {As : List Value} (hM : rr_Ct X.2.1 G y ccY nY retY aY bY 1 As σ o) (mb : rr_MB y ccY nY retY n) (mi : Cond.static y ∈ rr_tbl) (hlink : Cond.methodLink own ixx y ∈ rr_tbl) (hn : As.length = n) (hroom : aY + 1 ≤ a ∧ 8 + (nY + 11) + bY ≤ b) (hcat : (st.map fun v => v.category).sum ≤ 8) (hstk : stk = As.reverse ++ st) (hd : decode cc pc = .ok (.invokestatic ixx, 3)) (pc' : Nat) (hp : pc + 3 = pc') (hf : cll o K = some Z)
    (kk : ∀ (r : Int) (σ' : St), K r σ' = some Z → rr_AT X G nL rk Z pc' lv (vi r :: st) σ') : rr_AT X G nL rk Z pc lv stk σ := at_callS (rkY := 1) hO hM mb mi hlink hn hroom hcat hstk hd pc' hp hf kk
theorem at_callS2 (hO : rr_OK X G cc nL own ret a b) {As : List Value} (hM : rr_Ct X.2.1 G y ccY nY retY aY bY 2 As σ o) (mb : rr_MB y ccY nY retY n) (mi : Cond.static y ∈ rr_tbl) (hlink : Cond.methodLink own ixx y ∈ rr_tbl) (hn : As.length = n) (hroom : aY + 1 ≤ a ∧ 8 + (nY + 11) + bY ≤ b) (hcat : (st.map fun v => v.category).sum ≤ 8) (hstk : stk = As.reverse ++ st) (hd : decode cc pc = .ok (.invokestatic ixx, 3)) (pc' : Nat) (hp : pc + 3 = pc') (hf : cll o K = some Z)
    (kk : ∀ (r : Int) (σ' : St), K r σ' = some Z → rr_AT X G nL rk Z pc' lv (vl r :: st) σ') : rr_AT X G nL rk Z pc lv stk σ := at_callS (rkY := 2) hO hM mb mi hlink hn hroom hcat hstk hd pc' hp hf kk
theorem at_callSN0 (hO : rr_OK X G cc nL own ret a b) {host : String} {As : List Value} (hM : rr_Ct X.2.1 G y ccY nY retY aY bY 0 As σ o) (mb : rr_MB y ccY nY retY n) (mi : Cond.static y ∈ rr_tbl) (hlink : Cond.methodLinkNest own ixx y host ∈ lw_tbl) (hn : As.length = n) (hroom : aY + 1 ≤ a ∧ 8 + (nY + 11) + bY ≤ b) (hcat : (st.map fun v => v.category).sum ≤ 8) (hstk : stk = As.reverse ++ st) (hd : decode cc pc = .ok (.invokestatic ixx, 3)) (pc' : Nat) (hp : pc + 3 = pc') (hf : cll o K = some Z)
    (kk : ∀ (r : Int) (σ' : St), K r σ' = some Z → rr_AT X G nL rk Z pc' lv st σ') : rr_AT X G nL rk Z pc lv stk σ := at_callSN (rkY := 0) hO hM mb mi hlink hn hroom hcat hstk hd pc' hp hf kk
theorem at_callSN1 (hO : rr_OK X G cc nL own ret a b) {host : String} {As : List Value} (hM : rr_Ct X.2.1 G y ccY nY retY aY bY 1 As σ o) (mb : rr_MB y ccY nY retY n) (mi : Cond.static y ∈ rr_tbl) (hlink : Cond.methodLinkNest own ixx y host ∈ lw_tbl) (hn : As.length = n) (hroom : aY + 1 ≤ a ∧ 8 + (nY + 11) + bY ≤ b) (hcat : (st.map fun v => v.category).sum ≤ 8) (hstk : stk = As.reverse ++ st) (hd : decode cc pc = .ok (.invokestatic ixx, 3)) (pc' : Nat) (hp : pc + 3 = pc') (hf : cll o K = some Z)
    (kk : ∀ (r : Int) (σ' : St), K r σ' = some Z → rr_AT X G nL rk Z pc' lv (vi r :: st) σ') : rr_AT X G nL rk Z pc lv stk σ := at_callSN (rkY := 1) hO hM mb mi hlink hn hroom hcat hstk hd pc' hp hf kk
theorem at_callSN2 (hO : rr_OK X G cc nL own ret a b) {host : String} {As : List Value} (hM : rr_Ct X.2.1 G y ccY nY retY aY bY 2 As σ o) (mb : rr_MB y ccY nY retY n) (mi : Cond.static y ∈ rr_tbl) (hlink : Cond.methodLinkNest own ixx y host ∈ lw_tbl) (hn : As.length = n) (hroom : aY + 1 ≤ a ∧ 8 + (nY + 11) + bY ≤ b) (hcat : (st.map fun v => v.category).sum ≤ 8) (hstk : stk = As.reverse ++ st) (hd : decode cc pc = .ok (.invokestatic ixx, 3)) (pc' : Nat) (hp : pc + 3 = pc') (hf : cll o K = some Z)
    (kk : ∀ (r : Int) (σ' : St), K r σ' = some Z → rr_AT X G nL rk Z pc' lv (vl r :: st) σ') : rr_AT X G nL rk Z pc lv stk σ := at_callSN (rkY := 2) hO hM mb mi hlink hn hroom hcat hstk hd pc' hp hf kk
end CALLW
section MMM
variable {X : CX} {G : Ge} {cc : ByteArray} {nL rk a b pc : Nat} {own : String} {ret : Option FieldType} {Z : Rt} {lv : List (Nat × Value)} {st : List Value} {σ : St} {ixx : Nat}
theorem mm_minc : Cond.code Lib.Math.min.name Lib.Math.min.code 2 (some .int) ∈ rr_tbl := rr_in (List.mem_append_right _ (List.mem_of_getElem? (i := 462) (by decide +kernel))) rfl
theorem mm_maxc : Cond.code Lib.Math.max.name Lib.Math.max.code 2 (some .int) ∈ rr_tbl := rr_in (List.mem_append_right _ (List.mem_of_getElem? (i := 204) (by decide +kernel))) rfl
theorem mm_mins : Cond.static Lib.Math.min.name ∈ rr_tbl := ms_J9_min_7cf53
theorem mm_maxs : Cond.static Lib.Math.max.name ∈ rr_tbl := ms_J9_max_7cf53
theorem mm_ini : Cond.initialized "java/lang/Math" ∈ rr_tbl := mb_J9_max_7cf53.2.1
theorem at_mmin (hO : rr_OK X G cc nL own ret a b) {x y : Int} (h1 : in32 x) (h2 : in32 y) (hlink : Cond.methodLink own ixx Lib.Math.min.name ∈ rr_tbl) (hroom : 1 ≤ a ∧ (st.map fun v => v.category).sum + 13 ≤ b) (hd : decode cc pc = .ok (.invokestatic ixx, 3)) (pc' : Nat) (hp : pc + 3 = pc') (k : rr_AT X G nL rk Z pc' lv (vi (min x y) :: st) σ) : rr_AT X G nL rk Z pc lv (vi y :: vi x :: st) σ := by
  obtain ⟨p, l, e, R, s, m, args, below, meth, c⟩ := X
  obtain ⟨hx, hb, hml, hown, hts, hK, hG, hr, hlk, hst, hnw, hR⟩ := hO
  subst hp
  subst hR
  intro H locs ls hP hS hl
  refine va_mmin hx hb (hml.trans hl.1.symm) hown (hts _ hlink) (hts _ mm_mins) (hts _ mm_ini) (hts _ mm_minc) hroom.1 hroom.2 (Nat.zero_le _) (Nat.zero_le _) hd ?_
  have e1 : (if Int32.ofInt y < Int32.ofInt x then Int32.ofInt y else Int32.ofInt x) = Int32.ofInt (min x y) := by
    by_cases q : y < x
    · rw [if_pos ((i32_lt h2 h1).mpr q), show min x y = y by omega]
    · rw [if_neg (fun z => q ((i32_lt h2 h1).mp z)), show min x y = x by omega]
  rw [e1]
  exact k H locs ls hP hS hl
theorem at_mmax (hO : rr_OK X G cc nL own ret a b) {x y : Int} (h1 : in32 x) (h2 : in32 y) (hlink : Cond.methodLink own ixx Lib.Math.max.name ∈ rr_tbl) (hroom : 1 ≤ a ∧ (st.map fun v => v.category).sum + 13 ≤ b) (hd : decode cc pc = .ok (.invokestatic ixx, 3)) (pc' : Nat) (hp : pc + 3 = pc') (k : rr_AT X G nL rk Z pc' lv (vi (max x y) :: st) σ) : rr_AT X G nL rk Z pc lv (vi y :: vi x :: st) σ := by
  obtain ⟨p, l, e, R, s, m, args, below, meth, c⟩ := X
  obtain ⟨hx, hb, hml, hown, hts, hK, hG, hr, hlk, hst, hnw, hR⟩ := hO
  subst hp
  subst hR
  intro H locs ls hP hS hl
  refine va_mmax hx hb (hml.trans hl.1.symm) hown (hts _ hlink) (hts _ mm_maxs) (hts _ mm_ini) (hts _ mm_maxc) hroom.1 hroom.2 (Nat.zero_le _) (Nat.zero_le _) hd ?_
  have e1 : (if Int32.ofInt x < Int32.ofInt y then Int32.ofInt y else Int32.ofInt x) = Int32.ofInt (max x y) := by
    by_cases q : x < y
    · rw [if_pos ((i32_lt h1 h2).mpr q), show max x y = y by omega]
    · rw [if_neg (fun z => q ((i32_lt h1 h2).mp z)), show max x y = x by omega]
  rw [e1]
  exact k H locs ls hP hS hl
end MMM
