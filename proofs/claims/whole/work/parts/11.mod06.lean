def S_X9_digest_330 (rec330 : St → Int → Int → Option Rt) (s : St) (v1 v3 : Int) : Option Rt := chk (in32 v3) ((if 2 ≤ v3 then cll (f_X9_watchNow s) (fun r2 s3 => chk (in32 r2) (cll (f_X9_fitNow s3) (fun r5 s6 => chk (in32 r5) (some (((31 * ((31 * v1) + r2)) + r5), s6))))) else cll (f_X9_gainOf s v3) (fun r8 s9 => rec330 s9 ((31 * v1) + r8) (v3 + 1))))
def L_X9_digest_330 : Nat → St → Int → Int → Option Rt
  | 0, _, _, _ => none
  | n + 1, s, v1, v3 => S_X9_digest_330 (L_X9_digest_330 n) s v1 v3
set_option maxRecDepth 100000 in
set_option maxHeartbeats 4000000 in
theorem wS_X9_digest_330 {X : CX} {G : Ge} {Z : Rt} {rec330 : St → Int → Int → Option Rt} (hO : rr_OK X G cX9_digest 5 RX9 (some .long) 11 276) (hrec330 : ∀ (s : St) (v1 v3 : Int), rec330 s v1 v3 = some Z → rr_AT X G 5 2 Z 330 [(0, vr G 58), (1, vl v1), (3, vi v3)] [] s) (s : St) (v1 v3 : Int) (hf : S_X9_digest_330 rec330 s v1 v3 = some Z) : rr_AT X G 5 2 Z 330 [(0, vr G 58), (1, vl v1), (3, vi v3)] [] s := by
  unfold S_X9_digest_330 at hf
  refine at_iload_n hO 2 rfl rfl dX9_digest_330 331 rfl ?_
  refine at_iconst hO dX9_digest_331 332 rfl ?_
  obtain ⟨h1, hf⟩ := chk_some hf
  refine at_icmp_ge hO h1 (by decide) dX9_digest_332 353 rfl 335 rfl hf (fun hf => ?_) (fun hf => ?_)
  · refine at_ldc2_w (n := 31) hO lc_X9_250 (by decide) dX9_digest_353 356 rfl ?_
    refine at_lload_n hO 1 rfl rfl dX9_digest_356 357 rfl ?_
    refine at_lmul hO dX9_digest_357 358 rfl ?_
    refine at_aload_n hO 0 rfl rfl dX9_digest_358 359 rfl ?_
    refine at_callV1 (As := []) (st := [vl (31 * v1)]) hO (c_X9_watchNow _ G hO.g s ) mb_X9_watchNow mi_X9_watchNow lk_X9_239 rfl ⟨_, rfl, rfl⟩ rfl ⟨(Nat.le_of_ble_eq_true rfl), (Nat.le_of_ble_eq_true rfl)⟩ (Nat.le_of_ble_eq_true rfl) rfl dX9_digest_359 362 rfl hf (fun r2 s3 hf => ?_)
    obtain ⟨h4, hf⟩ := chk_some hf
    refine at_i2l hO h4 dX9_digest_362 363 rfl ?_
    refine at_ladd hO dX9_digest_363 364 rfl ?_
    refine at_lstore_n hO (lv' := [(1, vl ((31 * v1) + r2)), (0, vr G 58), (3, vi v3)]) rfl (Nat.le_of_ble_eq_true rfl) rfl dX9_digest_364 365 rfl ?_
    refine at_ldc2_w (n := 31) hO lc_X9_250 (by decide) dX9_digest_365 368 rfl ?_
    refine at_lload_n hO 0 rfl rfl dX9_digest_368 369 rfl ?_
    refine at_lmul hO dX9_digest_369 370 rfl ?_
    refine at_aload_n hO 1 rfl rfl dX9_digest_370 371 rfl ?_
    refine at_callV1 (As := []) (st := [vl (31 * ((31 * v1) + r2))]) hO (c_X9_fitNow _ G hO.g s3 ) mb_X9_fitNow mi_X9_fitNow lk_X9_245 rfl ⟨_, rfl, rfl⟩ rfl ⟨(Nat.le_of_ble_eq_true rfl), (Nat.le_of_ble_eq_true rfl)⟩ (Nat.le_of_ble_eq_true rfl) rfl dX9_digest_371 374 rfl hf (fun r5 s6 hf => ?_)
    obtain ⟨h7, hf⟩ := chk_some hf
    refine at_i2l hO h7 dX9_digest_374 375 rfl ?_
    refine at_ladd hO dX9_digest_375 376 rfl ?_
    exact at_lreturn hO dX9_digest_376 hf
  · refine at_ldc2_w (n := 31) hO lc_X9_250 (by decide) dX9_digest_335 338 rfl ?_
    refine at_lload_n hO 1 rfl rfl dX9_digest_338 339 rfl ?_
    refine at_lmul hO dX9_digest_339 340 rfl ?_
    refine at_aload_n hO 0 rfl rfl dX9_digest_340 341 rfl ?_
    refine at_iload_n hO 2 rfl rfl dX9_digest_341 342 rfl ?_
    refine at_callV2 (As := [vi v3]) (st := [vl (31 * v1)]) hO (c_X9_gainOf _ G hO.g s v3) mb_X9_gainOf mi_X9_gainOf lk_X9_233 rfl ⟨_, rfl, rfl⟩ rfl ⟨(Nat.le_of_ble_eq_true rfl), (Nat.le_of_ble_eq_true rfl)⟩ (Nat.le_of_ble_eq_true rfl) rfl dX9_digest_342 345 rfl hf (fun r8 s9 hf => ?_)
    refine at_ladd hO dX9_digest_345 346 rfl ?_
    refine at_lstore_n hO (lv' := [(1, vl ((31 * v1) + r8)), (0, vr G 58), (3, vi v3)]) rfl (Nat.le_of_ble_eq_true rfl) rfl dX9_digest_346 347 rfl ?_
    refine at_iinc hO (lv' := [(3, vi (v3 + 1)), (1, vl ((31 * v1) + r8)), (0, vr G 58)]) 2 rfl (Nat.le_of_ble_eq_true rfl) rfl dX9_digest_347 350 rfl ?_
    refine at_goto hO dX9_digest_350 330 rfl ?_
    exact at_sub (fun ls h => lv_sub h [2, 1, 0] rfl) (hrec330 s9 ((31 * v1) + r8) (v3 + 1) hf)
theorem wL_X9_digest_330 {X : CX} {G : Ge} {Z : Rt} (hO : rr_OK X G cX9_digest 5 RX9 (some .long) 11 276) : ∀ (n : Nat) (s : St) (v1 v3 : Int), L_X9_digest_330 n s v1 v3 = some Z → rr_AT X G 5 2 Z 330 [(0, vr G 58), (1, vl v1), (3, vi v3)] [] s := by
  intro n
  induction n with
  | zero =>
    intro s v1 v3 hf
    cases hf
  | succ n ih =>
    intro s v1 v3 hf
    exact wS_X9_digest_330 hO ih s v1 v3 hf
def S_X9_digest_304 (rec304 : St → Int → Int → Option Rt) (s : St) (v1 v3 : Int) : Option Rt := chk (in32 v3) ((if 2 ≤ v3 then L_X9_digest_330 FU s v1 0 else cll (f_X9_neverOf s v3) (fun r2 s3 => chk (in32 r2) (rec304 s3 ((31 * v1) + r2) (v3 + 1)))))
def L_X9_digest_304 : Nat → St → Int → Int → Option Rt
  | 0, _, _, _ => none
  | n + 1, s, v1, v3 => S_X9_digest_304 (L_X9_digest_304 n) s v1 v3
set_option maxRecDepth 100000 in
set_option maxHeartbeats 4000000 in
theorem wS_X9_digest_304 {X : CX} {G : Ge} {Z : Rt} {rec304 : St → Int → Int → Option Rt} (hO : rr_OK X G cX9_digest 5 RX9 (some .long) 11 276) (hrec304 : ∀ (s : St) (v1 v3 : Int), rec304 s v1 v3 = some Z → rr_AT X G 5 2 Z 304 [(0, vr G 58), (1, vl v1), (3, vi v3)] [] s) (s : St) (v1 v3 : Int) (hf : S_X9_digest_304 rec304 s v1 v3 = some Z) : rr_AT X G 5 2 Z 304 [(0, vr G 58), (1, vl v1), (3, vi v3)] [] s := by
  unfold S_X9_digest_304 at hf
  refine at_iload_n hO 2 rfl rfl dX9_digest_304 305 rfl ?_
  refine at_iconst hO dX9_digest_305 306 rfl ?_
  obtain ⟨h1, hf⟩ := chk_some hf
  refine at_icmp_ge hO h1 (by decide) dX9_digest_306 328 rfl 309 rfl hf (fun hf => ?_) (fun hf => ?_)
  · refine at_iconst hO dX9_digest_328 329 rfl ?_
    refine at_istore_n hO (lv' := [(3, vi 0), (0, vr G 58), (1, vl v1)]) rfl (Nat.le_of_ble_eq_true rfl) rfl dX9_digest_329 330 rfl ?_
    exact at_sub (fun ls h => lv_sub h [1, 2, 0] rfl) (wL_X9_digest_330 hO FU s v1 0 hf)
  · refine at_ldc2_w (n := 31) hO lc_X9_250 (by decide) dX9_digest_309 312 rfl ?_
    refine at_lload_n hO 1 rfl rfl dX9_digest_312 313 rfl ?_
    refine at_lmul hO dX9_digest_313 314 rfl ?_
    refine at_aload_n hO 0 rfl rfl dX9_digest_314 315 rfl ?_
    refine at_iload_n hO 2 rfl rfl dX9_digest_315 316 rfl ?_
    refine at_callV1 (As := [vi v3]) (st := [vl (31 * v1)]) hO (c_X9_neverOf _ G hO.g s v3) mb_X9_neverOf mi_X9_neverOf lk_X9_230 rfl ⟨_, rfl, rfl⟩ rfl ⟨(Nat.le_of_ble_eq_true rfl), (Nat.le_of_ble_eq_true rfl)⟩ (Nat.le_of_ble_eq_true rfl) rfl dX9_digest_316 319 rfl hf (fun r2 s3 hf => ?_)
    obtain ⟨h4, hf⟩ := chk_some hf
    refine at_i2l hO h4 dX9_digest_319 320 rfl ?_
    refine at_ladd hO dX9_digest_320 321 rfl ?_
    refine at_lstore_n hO (lv' := [(1, vl ((31 * v1) + r2)), (0, vr G 58), (3, vi v3)]) rfl (Nat.le_of_ble_eq_true rfl) rfl dX9_digest_321 322 rfl ?_
    refine at_iinc hO (lv' := [(3, vi (v3 + 1)), (1, vl ((31 * v1) + r2)), (0, vr G 58)]) 2 rfl (Nat.le_of_ble_eq_true rfl) rfl dX9_digest_322 325 rfl ?_
    refine at_goto hO dX9_digest_325 304 rfl ?_
    exact at_sub (fun ls h => lv_sub h [2, 1, 0] rfl) (hrec304 s3 ((31 * v1) + r2) (v3 + 1) hf)
theorem wL_X9_digest_304 {X : CX} {G : Ge} {Z : Rt} (hO : rr_OK X G cX9_digest 5 RX9 (some .long) 11 276) : ∀ (n : Nat) (s : St) (v1 v3 : Int), L_X9_digest_304 n s v1 v3 = some Z → rr_AT X G 5 2 Z 304 [(0, vr G 58), (1, vl v1), (3, vi v3)] [] s := by
  intro n
  induction n with
  | zero =>
    intro s v1 v3 hf
    cases hf
  | succ n ih =>
    intro s v1 v3 hf
    exact wS_X9_digest_304 hO ih s v1 v3 hf
def S_X9_digest_251 (rec88 : St → Int → Int → Option Rt) (rec251 : St → Int → Int → Int → Option Rt) (s : St) (v1 v3 v4 : Int) : Option Rt := chk (in32 v4) ((if 3 ≤ v4 then cll (f_X9_closed s v3 0) (fun r2 s3 => chk (in32 r2) (rec88 s3 ((31 * v1) + r2) (v3 + 1))) else cll (f_X9_keep s v3 5 0 4 2 v4) (fun r5 s6 => chk (in32 r5) (rec251 s6 ((31 * v1) + r5) v3 (v4 + 1)))))
def L_X9_digest_251 (rec88 : St → Int → Int → Option Rt) : Nat → St → Int → Int → Int → Option Rt
  | 0, _, _, _, _ => none
  | n + 1, s, v1, v3, v4 => S_X9_digest_251 rec88 (L_X9_digest_251 rec88 n) s v1 v3 v4
set_option maxRecDepth 100000 in
set_option maxHeartbeats 4000000 in
theorem wS_X9_digest_251 {X : CX} {G : Ge} {Z : Rt} {rec88 : St → Int → Int → Option Rt} {rec251 : St → Int → Int → Int → Option Rt} (hO : rr_OK X G cX9_digest 5 RX9 (some .long) 11 276) (hrec88 : ∀ (s : St) (v1 v3 : Int), rec88 s v1 v3 = some Z → rr_AT X G 5 2 Z 88 [(0, vr G 58), (1, vl v1), (3, vi v3)] [] s) (hrec251 : ∀ (s : St) (v1 v3 v4 : Int), rec251 s v1 v3 v4 = some Z → rr_AT X G 5 2 Z 251 [(0, vr G 58), (1, vl v1), (3, vi v3), (4, vi v4)] [] s) (s : St) (v1 v3 v4 : Int) (hf : S_X9_digest_251 rec88 rec251 s v1 v3 v4 = some Z) : rr_AT X G 5 2 Z 251 [(0, vr G 58), (1, vl v1), (3, vi v3), (4, vi v4)] [] s := by
  unfold S_X9_digest_251 at hf
  refine at_iload hO 3 rfl dX9_digest_251 253 rfl ?_
  refine at_iconst hO dX9_digest_253 254 rfl ?_
  obtain ⟨h1, hf⟩ := chk_some hf
  refine at_icmp_ge hO h1 (by decide) dX9_digest_254 282 rfl 257 rfl hf (fun hf => ?_) (fun hf => ?_)
  · refine at_ldc2_w (n := 31) hO lc_X9_250 (by decide) dX9_digest_282 285 rfl ?_
    refine at_lload_n hO 1 rfl rfl dX9_digest_285 286 rfl ?_
    refine at_lmul hO dX9_digest_286 287 rfl ?_
    refine at_aload_n hO 0 rfl rfl dX9_digest_287 288 rfl ?_
    refine at_iload_n hO 2 rfl rfl dX9_digest_288 289 rfl ?_
    refine at_iconst hO dX9_digest_289 290 rfl ?_
    refine at_callV1 (As := [vi v3, vi 0]) (st := [vl (31 * v1)]) hO (c_X9_closed _ G hO.g s v3 0) mb_X9_closed mi_X9_closed lk_X9_267 rfl ⟨_, rfl, rfl⟩ rfl ⟨(Nat.le_of_ble_eq_true rfl), (Nat.le_of_ble_eq_true rfl)⟩ (Nat.le_of_ble_eq_true rfl) rfl dX9_digest_290 293 rfl hf (fun r2 s3 hf => ?_)
    obtain ⟨h4, hf⟩ := chk_some hf
    refine at_i2l hO h4 dX9_digest_293 294 rfl ?_
    refine at_ladd hO dX9_digest_294 295 rfl ?_
    refine at_lstore_n hO (lv' := [(1, vl ((31 * v1) + r2)), (0, vr G 58), (3, vi v3), (4, vi v4)]) rfl (Nat.le_of_ble_eq_true rfl) rfl dX9_digest_295 296 rfl ?_
    refine at_iinc hO (lv' := [(3, vi (v3 + 1)), (1, vl ((31 * v1) + r2)), (0, vr G 58), (4, vi v4)]) 2 rfl (Nat.le_of_ble_eq_true rfl) rfl dX9_digest_296 299 rfl ?_
    refine at_goto hO dX9_digest_299 88 rfl ?_
    exact at_sub (fun ls h => lv_sub h [2, 1, 0] rfl) (hrec88 s3 ((31 * v1) + r2) (v3 + 1) hf)
  · refine at_ldc2_w (n := 31) hO lc_X9_250 (by decide) dX9_digest_257 260 rfl ?_
    refine at_lload_n hO 1 rfl rfl dX9_digest_260 261 rfl ?_
    refine at_lmul hO dX9_digest_261 262 rfl ?_
    refine at_aload_n hO 0 rfl rfl dX9_digest_262 263 rfl ?_
    refine at_iload_n hO 2 rfl rfl dX9_digest_263 264 rfl ?_
    refine at_iconst hO dX9_digest_264 265 rfl ?_
    refine at_iconst hO dX9_digest_265 266 rfl ?_
    refine at_iconst hO dX9_digest_266 267 rfl ?_
    refine at_iconst hO dX9_digest_267 268 rfl ?_
    refine at_iload hO 3 rfl dX9_digest_268 270 rfl ?_
    refine at_callV1 (As := [vi v3, vi 5, vi 0, vi 4, vi 2, vi v4]) (st := [vl (31 * v1)]) hO (c_X9_keep _ G hO.g s v3 5 0 4 2 v4) mb_X9_keep mi_X9_keep lk_X9_264 rfl ⟨_, rfl, rfl⟩ rfl ⟨(Nat.le_of_ble_eq_true rfl), (Nat.le_of_ble_eq_true rfl)⟩ (Nat.le_of_ble_eq_true rfl) rfl dX9_digest_270 273 rfl hf (fun r5 s6 hf => ?_)
    obtain ⟨h7, hf⟩ := chk_some hf
    refine at_i2l hO h7 dX9_digest_273 274 rfl ?_
    refine at_ladd hO dX9_digest_274 275 rfl ?_
    refine at_lstore_n hO (lv' := [(1, vl ((31 * v1) + r5)), (0, vr G 58), (3, vi v3), (4, vi v4)]) rfl (Nat.le_of_ble_eq_true rfl) rfl dX9_digest_275 276 rfl ?_
    refine at_iinc hO (lv' := [(4, vi (v4 + 1)), (1, vl ((31 * v1) + r5)), (0, vr G 58), (3, vi v3)]) 3 rfl (Nat.le_of_ble_eq_true rfl) rfl dX9_digest_276 279 rfl ?_
    refine at_goto hO dX9_digest_279 251 rfl ?_
    exact at_sub (fun ls h => lv_sub h [2, 1, 3, 0] rfl) (hrec251 s6 ((31 * v1) + r5) v3 (v4 + 1) hf)
theorem wL_X9_digest_251 {X : CX} {G : Ge} {Z : Rt} {rec88 : St → Int → Int → Option Rt} (hO : rr_OK X G cX9_digest 5 RX9 (some .long) 11 276) (hrec88 : ∀ (s : St) (v1 v3 : Int), rec88 s v1 v3 = some Z → rr_AT X G 5 2 Z 88 [(0, vr G 58), (1, vl v1), (3, vi v3)] [] s) : ∀ (n : Nat) (s : St) (v1 v3 v4 : Int), L_X9_digest_251 rec88 n s v1 v3 v4 = some Z → rr_AT X G 5 2 Z 251 [(0, vr G 58), (1, vl v1), (3, vi v3), (4, vi v4)] [] s := by
  intro n
  induction n with
  | zero =>
    intro s v1 v3 v4 hf
    cases hf
  | succ n ih =>
    intro s v1 v3 v4 hf
    exact wS_X9_digest_251 hO hrec88 ih s v1 v3 v4 hf
def S_X9_digest_203 (rec88 : St → Int → Int → Option Rt) (rec203 : St → Int → Int → Int → Option Rt) (s : St) (v1 v3 v4 : Int) : Option Rt := chk (in32 v4) ((if 2 ≤ v4 then cll (f_X9_goes s v3 4 0 2) (fun r2 s3 => chk (in32 r2) (L_X9_digest_251 rec88 FU s3 ((31 * v1) + r2) v3 0)) else cll (f_X9_waits s v3 4 0 2 v4) (fun r5 s6 => rec203 s6 ((31 * v1) + r5) v3 (v4 + 1))))
def L_X9_digest_203 (rec88 : St → Int → Int → Option Rt) : Nat → St → Int → Int → Int → Option Rt
  | 0, _, _, _, _ => none
  | n + 1, s, v1, v3, v4 => S_X9_digest_203 rec88 (L_X9_digest_203 rec88 n) s v1 v3 v4
set_option maxRecDepth 100000 in
set_option maxHeartbeats 4000000 in
theorem wS_X9_digest_203 {X : CX} {G : Ge} {Z : Rt} {rec88 : St → Int → Int → Option Rt} {rec203 : St → Int → Int → Int → Option Rt} (hO : rr_OK X G cX9_digest 5 RX9 (some .long) 11 276) (hrec88 : ∀ (s : St) (v1 v3 : Int), rec88 s v1 v3 = some Z → rr_AT X G 5 2 Z 88 [(0, vr G 58), (1, vl v1), (3, vi v3)] [] s) (hrec203 : ∀ (s : St) (v1 v3 v4 : Int), rec203 s v1 v3 v4 = some Z → rr_AT X G 5 2 Z 203 [(0, vr G 58), (1, vl v1), (3, vi v3), (4, vi v4)] [] s) (s : St) (v1 v3 v4 : Int) (hf : S_X9_digest_203 rec88 rec203 s v1 v3 v4 = some Z) : rr_AT X G 5 2 Z 203 [(0, vr G 58), (1, vl v1), (3, vi v3), (4, vi v4)] [] s := by
  unfold S_X9_digest_203 at hf
  refine at_iload hO 3 rfl dX9_digest_203 205 rfl ?_
  refine at_iconst hO dX9_digest_205 206 rfl ?_
  obtain ⟨h1, hf⟩ := chk_some hf
  refine at_icmp_ge hO h1 (by decide) dX9_digest_206 232 rfl 209 rfl hf (fun hf => ?_) (fun hf => ?_)
  · refine at_ldc2_w (n := 31) hO lc_X9_250 (by decide) dX9_digest_232 235 rfl ?_
    refine at_lload_n hO 1 rfl rfl dX9_digest_235 236 rfl ?_
    refine at_lmul hO dX9_digest_236 237 rfl ?_
    refine at_aload_n hO 0 rfl rfl dX9_digest_237 238 rfl ?_
    refine at_iload_n hO 2 rfl rfl dX9_digest_238 239 rfl ?_
    refine at_iconst hO dX9_digest_239 240 rfl ?_
    refine at_iconst hO dX9_digest_240 241 rfl ?_
    refine at_iconst hO dX9_digest_241 242 rfl ?_
    refine at_callV1 (As := [vi v3, vi 4, vi 0, vi 2]) (st := [vl (31 * v1)]) hO (c_X9_goes _ G hO.g s v3 4 0 2) mb_X9_goes mi_X9_goes lk_X9_261 rfl ⟨_, rfl, rfl⟩ rfl ⟨(Nat.le_of_ble_eq_true rfl), (Nat.le_of_ble_eq_true rfl)⟩ (Nat.le_of_ble_eq_true rfl) rfl dX9_digest_242 245 rfl hf (fun r2 s3 hf => ?_)
    obtain ⟨h4, hf⟩ := chk_some hf
    refine at_i2l hO h4 dX9_digest_245 246 rfl ?_
    refine at_ladd hO dX9_digest_246 247 rfl ?_
    refine at_lstore_n hO (lv' := [(1, vl ((31 * v1) + r2)), (0, vr G 58), (3, vi v3), (4, vi v4)]) rfl (Nat.le_of_ble_eq_true rfl) rfl dX9_digest_247 248 rfl ?_
    refine at_iconst hO dX9_digest_248 249 rfl ?_
    refine at_istore hO (lv' := [(4, vi 0), (1, vl ((31 * v1) + r2)), (0, vr G 58), (3, vi v3)]) (Nat.le_of_ble_eq_true rfl) rfl dX9_digest_249 251 rfl ?_
    exact at_sub (fun ls h => lv_sub h [2, 1, 3, 0] rfl) (wL_X9_digest_251 hO hrec88 FU s3 ((31 * v1) + r2) v3 0 hf)
  · refine at_ldc2_w (n := 31) hO lc_X9_250 (by decide) dX9_digest_209 212 rfl ?_
    refine at_lload_n hO 1 rfl rfl dX9_digest_212 213 rfl ?_
    refine at_lmul hO dX9_digest_213 214 rfl ?_
    refine at_aload_n hO 0 rfl rfl dX9_digest_214 215 rfl ?_
    refine at_iload_n hO 2 rfl rfl dX9_digest_215 216 rfl ?_
    refine at_iconst hO dX9_digest_216 217 rfl ?_
    refine at_iconst hO dX9_digest_217 218 rfl ?_
    refine at_iconst hO dX9_digest_218 219 rfl ?_
    refine at_iload hO 3 rfl dX9_digest_219 221 rfl ?_
    refine at_callV2 (As := [vi v3, vi 4, vi 0, vi 2, vi v4]) (st := [vl (31 * v1)]) hO (c_X9_waits _ G hO.g s v3 4 0 2 v4) mb_X9_waits mi_X9_waits lk_X9_258 rfl ⟨_, rfl, rfl⟩ rfl ⟨(Nat.le_of_ble_eq_true rfl), (Nat.le_of_ble_eq_true rfl)⟩ (Nat.le_of_ble_eq_true rfl) rfl dX9_digest_221 224 rfl hf (fun r5 s6 hf => ?_)
    refine at_ladd hO dX9_digest_224 225 rfl ?_
    refine at_lstore_n hO (lv' := [(1, vl ((31 * v1) + r5)), (0, vr G 58), (3, vi v3), (4, vi v4)]) rfl (Nat.le_of_ble_eq_true rfl) rfl dX9_digest_225 226 rfl ?_
    refine at_iinc hO (lv' := [(4, vi (v4 + 1)), (1, vl ((31 * v1) + r5)), (0, vr G 58), (3, vi v3)]) 3 rfl (Nat.le_of_ble_eq_true rfl) rfl dX9_digest_226 229 rfl ?_
    refine at_goto hO dX9_digest_229 203 rfl ?_
    exact at_sub (fun ls h => lv_sub h [2, 1, 3, 0] rfl) (hrec203 s6 ((31 * v1) + r5) v3 (v4 + 1) hf)
theorem wL_X9_digest_203 {X : CX} {G : Ge} {Z : Rt} {rec88 : St → Int → Int → Option Rt} (hO : rr_OK X G cX9_digest 5 RX9 (some .long) 11 276) (hrec88 : ∀ (s : St) (v1 v3 : Int), rec88 s v1 v3 = some Z → rr_AT X G 5 2 Z 88 [(0, vr G 58), (1, vl v1), (3, vi v3)] [] s) : ∀ (n : Nat) (s : St) (v1 v3 v4 : Int), L_X9_digest_203 rec88 n s v1 v3 v4 = some Z → rr_AT X G 5 2 Z 203 [(0, vr G 58), (1, vl v1), (3, vi v3), (4, vi v4)] [] s := by
  intro n
  induction n with
  | zero =>
    intro s v1 v3 v4 hf
    cases hf
  | succ n ih =>
    intro s v1 v3 v4 hf
    exact wS_X9_digest_203 hO hrec88 ih s v1 v3 v4 hf
def S_X9_digest_173 (rec88 : St → Int → Int → Option Rt) (rec173 : St → Int → Int → Int → Option Rt) (s : St) (v1 v3 v4 : Int) : Option Rt := chk (in32 v4) ((if 3 ≤ v4 then L_X9_digest_203 rec88 FU s v1 v3 0 else cll (f_X9_deedOf s v3 v4) (fun r2 s3 => chk (in32 r2) (rec173 s3 ((31 * v1) + r2) v3 (v4 + 1)))))
def L_X9_digest_173 (rec88 : St → Int → Int → Option Rt) : Nat → St → Int → Int → Int → Option Rt
  | 0, _, _, _, _ => none
  | n + 1, s, v1, v3, v4 => S_X9_digest_173 rec88 (L_X9_digest_173 rec88 n) s v1 v3 v4
set_option maxRecDepth 100000 in
set_option maxHeartbeats 4000000 in
theorem wS_X9_digest_173 {X : CX} {G : Ge} {Z : Rt} {rec88 : St → Int → Int → Option Rt} {rec173 : St → Int → Int → Int → Option Rt} (hO : rr_OK X G cX9_digest 5 RX9 (some .long) 11 276) (hrec88 : ∀ (s : St) (v1 v3 : Int), rec88 s v1 v3 = some Z → rr_AT X G 5 2 Z 88 [(0, vr G 58), (1, vl v1), (3, vi v3)] [] s) (hrec173 : ∀ (s : St) (v1 v3 v4 : Int), rec173 s v1 v3 v4 = some Z → rr_AT X G 5 2 Z 173 [(0, vr G 58), (1, vl v1), (3, vi v3), (4, vi v4)] [] s) (s : St) (v1 v3 v4 : Int) (hf : S_X9_digest_173 rec88 rec173 s v1 v3 v4 = some Z) : rr_AT X G 5 2 Z 173 [(0, vr G 58), (1, vl v1), (3, vi v3), (4, vi v4)] [] s := by
  unfold S_X9_digest_173 at hf
  refine at_iload hO 3 rfl dX9_digest_173 175 rfl ?_
  refine at_iconst hO dX9_digest_175 176 rfl ?_
  obtain ⟨h1, hf⟩ := chk_some hf
  refine at_icmp_ge hO h1 (by decide) dX9_digest_176 200 rfl 179 rfl hf (fun hf => ?_) (fun hf => ?_)
  · refine at_iconst hO dX9_digest_200 201 rfl ?_
    refine at_istore hO (lv' := [(4, vi 0), (0, vr G 58), (1, vl v1), (3, vi v3)]) (Nat.le_of_ble_eq_true rfl) rfl dX9_digest_201 203 rfl ?_
    exact at_sub (fun ls h => lv_sub h [1, 2, 3, 0] rfl) (wL_X9_digest_203 hO hrec88 FU s v1 v3 0 hf)
  · refine at_ldc2_w (n := 31) hO lc_X9_250 (by decide) dX9_digest_179 182 rfl ?_
    refine at_lload_n hO 1 rfl rfl dX9_digest_182 183 rfl ?_
    refine at_lmul hO dX9_digest_183 184 rfl ?_
    refine at_aload_n hO 0 rfl rfl dX9_digest_184 185 rfl ?_
    refine at_iload_n hO 2 rfl rfl dX9_digest_185 186 rfl ?_
    refine at_iload hO 3 rfl dX9_digest_186 188 rfl ?_
    refine at_callV1 (As := [vi v3, vi v4]) (st := [vl (31 * v1)]) hO (c_X9_deedOf _ G hO.g s v3 v4) mb_X9_deedOf mi_X9_deedOf lk_X9_162 rfl ⟨_, rfl, rfl⟩ rfl ⟨(Nat.le_of_ble_eq_true rfl), (Nat.le_of_ble_eq_true rfl)⟩ (Nat.le_of_ble_eq_true rfl) rfl dX9_digest_188 191 rfl hf (fun r2 s3 hf => ?_)
    obtain ⟨h4, hf⟩ := chk_some hf
    refine at_i2l hO h4 dX9_digest_191 192 rfl ?_
    refine at_ladd hO dX9_digest_192 193 rfl ?_
    refine at_lstore_n hO (lv' := [(1, vl ((31 * v1) + r2)), (0, vr G 58), (3, vi v3), (4, vi v4)]) rfl (Nat.le_of_ble_eq_true rfl) rfl dX9_digest_193 194 rfl ?_
    refine at_iinc hO (lv' := [(4, vi (v4 + 1)), (1, vl ((31 * v1) + r2)), (0, vr G 58), (3, vi v3)]) 3 rfl (Nat.le_of_ble_eq_true rfl) rfl dX9_digest_194 197 rfl ?_
    refine at_goto hO dX9_digest_197 173 rfl ?_
    exact at_sub (fun ls h => lv_sub h [2, 1, 3, 0] rfl) (hrec173 s3 ((31 * v1) + r2) v3 (v4 + 1) hf)
theorem wL_X9_digest_173 {X : CX} {G : Ge} {Z : Rt} {rec88 : St → Int → Int → Option Rt} (hO : rr_OK X G cX9_digest 5 RX9 (some .long) 11 276) (hrec88 : ∀ (s : St) (v1 v3 : Int), rec88 s v1 v3 = some Z → rr_AT X G 5 2 Z 88 [(0, vr G 58), (1, vl v1), (3, vi v3)] [] s) : ∀ (n : Nat) (s : St) (v1 v3 v4 : Int), L_X9_digest_173 rec88 n s v1 v3 v4 = some Z → rr_AT X G 5 2 Z 173 [(0, vr G 58), (1, vl v1), (3, vi v3), (4, vi v4)] [] s := by
  intro n
  induction n with
  | zero =>
    intro s v1 v3 v4 hf
    cases hf
  | succ n ih =>
    intro s v1 v3 v4 hf
    exact wS_X9_digest_173 hO hrec88 ih s v1 v3 v4 hf
def S_X9_digest_140 (rec88 : St → Int → Int → Option Rt) (rec140 : St → Int → Int → Int → Option Rt) (s : St) (v1 v3 v4 : Int) : Option Rt := chk (in32 v4) ((if 3 ≤ v4 then L_X9_digest_173 rec88 FU s v1 v3 0 else cll (f_X9_cost s v3 5 0 3 v4) (fun r2 s3 => chk (in32 r2) (rec140 s3 ((31 * v1) + r2) v3 (v4 + 1)))))
def L_X9_digest_140 (rec88 : St → Int → Int → Option Rt) : Nat → St → Int → Int → Int → Option Rt
  | 0, _, _, _, _ => none
  | n + 1, s, v1, v3, v4 => S_X9_digest_140 rec88 (L_X9_digest_140 rec88 n) s v1 v3 v4
set_option maxRecDepth 100000 in
set_option maxHeartbeats 4000000 in
theorem wS_X9_digest_140 {X : CX} {G : Ge} {Z : Rt} {rec88 : St → Int → Int → Option Rt} {rec140 : St → Int → Int → Int → Option Rt} (hO : rr_OK X G cX9_digest 5 RX9 (some .long) 11 276) (hrec88 : ∀ (s : St) (v1 v3 : Int), rec88 s v1 v3 = some Z → rr_AT X G 5 2 Z 88 [(0, vr G 58), (1, vl v1), (3, vi v3)] [] s) (hrec140 : ∀ (s : St) (v1 v3 v4 : Int), rec140 s v1 v3 v4 = some Z → rr_AT X G 5 2 Z 140 [(0, vr G 58), (1, vl v1), (3, vi v3), (4, vi v4)] [] s) (s : St) (v1 v3 v4 : Int) (hf : S_X9_digest_140 rec88 rec140 s v1 v3 v4 = some Z) : rr_AT X G 5 2 Z 140 [(0, vr G 58), (1, vl v1), (3, vi v3), (4, vi v4)] [] s := by
  unfold S_X9_digest_140 at hf
  refine at_iload hO 3 rfl dX9_digest_140 142 rfl ?_
  refine at_iconst hO dX9_digest_142 143 rfl ?_
  obtain ⟨h1, hf⟩ := chk_some hf
  refine at_icmp_ge hO h1 (by decide) dX9_digest_143 170 rfl 146 rfl hf (fun hf => ?_) (fun hf => ?_)
  · refine at_iconst hO dX9_digest_170 171 rfl ?_
    refine at_istore hO (lv' := [(4, vi 0), (0, vr G 58), (1, vl v1), (3, vi v3)]) (Nat.le_of_ble_eq_true rfl) rfl dX9_digest_171 173 rfl ?_
    exact at_sub (fun ls h => lv_sub h [1, 2, 3, 0] rfl) (wL_X9_digest_173 hO hrec88 FU s v1 v3 0 hf)
  · refine at_ldc2_w (n := 31) hO lc_X9_250 (by decide) dX9_digest_146 149 rfl ?_
    refine at_lload_n hO 1 rfl rfl dX9_digest_149 150 rfl ?_
    refine at_lmul hO dX9_digest_150 151 rfl ?_
    refine at_aload_n hO 0 rfl rfl dX9_digest_151 152 rfl ?_
    refine at_iload_n hO 2 rfl rfl dX9_digest_152 153 rfl ?_
    refine at_iconst hO dX9_digest_153 154 rfl ?_
    refine at_iconst hO dX9_digest_154 155 rfl ?_
    refine at_iconst hO dX9_digest_155 156 rfl ?_
    refine at_iload hO 3 rfl dX9_digest_156 158 rfl ?_
    refine at_callV1 (As := [vi v3, vi 5, vi 0, vi 3, vi v4]) (st := [vl (31 * v1)]) hO (c_X9_cost _ G hO.g s v3 5 0 3 v4) mb_X9_cost mi_X9_cost lk_X9_255 rfl ⟨_, rfl, rfl⟩ rfl ⟨(Nat.le_of_ble_eq_true rfl), (Nat.le_of_ble_eq_true rfl)⟩ (Nat.le_of_ble_eq_true rfl) rfl dX9_digest_158 161 rfl hf (fun r2 s3 hf => ?_)
    obtain ⟨h4, hf⟩ := chk_some hf
    refine at_i2l hO h4 dX9_digest_161 162 rfl ?_
    refine at_ladd hO dX9_digest_162 163 rfl ?_
    refine at_lstore_n hO (lv' := [(1, vl ((31 * v1) + r2)), (0, vr G 58), (3, vi v3), (4, vi v4)]) rfl (Nat.le_of_ble_eq_true rfl) rfl dX9_digest_163 164 rfl ?_
    refine at_iinc hO (lv' := [(4, vi (v4 + 1)), (1, vl ((31 * v1) + r2)), (0, vr G 58), (3, vi v3)]) 3 rfl (Nat.le_of_ble_eq_true rfl) rfl dX9_digest_164 167 rfl ?_
    refine at_goto hO dX9_digest_167 140 rfl ?_
    exact at_sub (fun ls h => lv_sub h [2, 1, 3, 0] rfl) (hrec140 s3 ((31 * v1) + r2) v3 (v4 + 1) hf)
theorem wL_X9_digest_140 {X : CX} {G : Ge} {Z : Rt} {rec88 : St → Int → Int → Option Rt} (hO : rr_OK X G cX9_digest 5 RX9 (some .long) 11 276) (hrec88 : ∀ (s : St) (v1 v3 : Int), rec88 s v1 v3 = some Z → rr_AT X G 5 2 Z 88 [(0, vr G 58), (1, vl v1), (3, vi v3)] [] s) : ∀ (n : Nat) (s : St) (v1 v3 v4 : Int), L_X9_digest_140 rec88 n s v1 v3 v4 = some Z → rr_AT X G 5 2 Z 140 [(0, vr G 58), (1, vl v1), (3, vi v3), (4, vi v4)] [] s := by
  intro n
  induction n with
  | zero =>
    intro s v1 v3 v4 hf
    cases hf
  | succ n ih =>
    intro s v1 v3 v4 hf
    exact wS_X9_digest_140 hO hrec88 ih s v1 v3 v4 hf
def S_X9_digest_109 (rec88 : St → Int → Int → Option Rt) (rec109 : St → Int → Int → Int → Option Rt) (s : St) (v1 v3 v4 : Int) : Option Rt := chk (in32 v4) ((if 2 ≤ v4 then L_X9_digest_140 rec88 FU s v1 v3 0 else cll (f_X9_waterOf s v3 5 v4) (fun r2 s3 => chk (in32 r2) (rec109 s3 ((31 * v1) + r2) v3 (v4 + 1)))))
def L_X9_digest_109 (rec88 : St → Int → Int → Option Rt) : Nat → St → Int → Int → Int → Option Rt
  | 0, _, _, _, _ => none
  | n + 1, s, v1, v3, v4 => S_X9_digest_109 rec88 (L_X9_digest_109 rec88 n) s v1 v3 v4
set_option maxRecDepth 100000 in
set_option maxHeartbeats 4000000 in
theorem wS_X9_digest_109 {X : CX} {G : Ge} {Z : Rt} {rec88 : St → Int → Int → Option Rt} {rec109 : St → Int → Int → Int → Option Rt} (hO : rr_OK X G cX9_digest 5 RX9 (some .long) 11 276) (hrec88 : ∀ (s : St) (v1 v3 : Int), rec88 s v1 v3 = some Z → rr_AT X G 5 2 Z 88 [(0, vr G 58), (1, vl v1), (3, vi v3)] [] s) (hrec109 : ∀ (s : St) (v1 v3 v4 : Int), rec109 s v1 v3 v4 = some Z → rr_AT X G 5 2 Z 109 [(0, vr G 58), (1, vl v1), (3, vi v3), (4, vi v4)] [] s) (s : St) (v1 v3 v4 : Int) (hf : S_X9_digest_109 rec88 rec109 s v1 v3 v4 = some Z) : rr_AT X G 5 2 Z 109 [(0, vr G 58), (1, vl v1), (3, vi v3), (4, vi v4)] [] s := by
  unfold S_X9_digest_109 at hf
  refine at_iload hO 3 rfl dX9_digest_109 111 rfl ?_
  refine at_iconst hO dX9_digest_111 112 rfl ?_
  obtain ⟨h1, hf⟩ := chk_some hf
  refine at_icmp_ge hO h1 (by decide) dX9_digest_112 137 rfl 115 rfl hf (fun hf => ?_) (fun hf => ?_)
  · refine at_iconst hO dX9_digest_137 138 rfl ?_
    refine at_istore hO (lv' := [(4, vi 0), (0, vr G 58), (1, vl v1), (3, vi v3)]) (Nat.le_of_ble_eq_true rfl) rfl dX9_digest_138 140 rfl ?_
    exact at_sub (fun ls h => lv_sub h [1, 2, 3, 0] rfl) (wL_X9_digest_140 hO hrec88 FU s v1 v3 0 hf)
  · refine at_ldc2_w (n := 31) hO lc_X9_250 (by decide) dX9_digest_115 118 rfl ?_
    refine at_lload_n hO 1 rfl rfl dX9_digest_118 119 rfl ?_
    refine at_lmul hO dX9_digest_119 120 rfl ?_
    refine at_aload_n hO 0 rfl rfl dX9_digest_120 121 rfl ?_
    refine at_iload_n hO 2 rfl rfl dX9_digest_121 122 rfl ?_
    refine at_iconst hO dX9_digest_122 123 rfl ?_
    refine at_iload hO 3 rfl dX9_digest_123 125 rfl ?_
    refine at_callV1 (As := [vi v3, vi 5, vi v4]) (st := [vl (31 * v1)]) hO (c_X9_waterOf _ G hO.g s v3 5 v4) mb_X9_waterOf mi_X9_waterOf lk_X9_145 rfl ⟨_, rfl, rfl⟩ rfl ⟨(Nat.le_of_ble_eq_true rfl), (Nat.le_of_ble_eq_true rfl)⟩ (Nat.le_of_ble_eq_true rfl) rfl dX9_digest_125 128 rfl hf (fun r2 s3 hf => ?_)
    obtain ⟨h4, hf⟩ := chk_some hf
    refine at_i2l hO h4 dX9_digest_128 129 rfl ?_
    refine at_ladd hO dX9_digest_129 130 rfl ?_
    refine at_lstore_n hO (lv' := [(1, vl ((31 * v1) + r2)), (0, vr G 58), (3, vi v3), (4, vi v4)]) rfl (Nat.le_of_ble_eq_true rfl) rfl dX9_digest_130 131 rfl ?_
    refine at_iinc hO (lv' := [(4, vi (v4 + 1)), (1, vl ((31 * v1) + r2)), (0, vr G 58), (3, vi v3)]) 3 rfl (Nat.le_of_ble_eq_true rfl) rfl dX9_digest_131 134 rfl ?_
    refine at_goto hO dX9_digest_134 109 rfl ?_
    exact at_sub (fun ls h => lv_sub h [2, 1, 3, 0] rfl) (hrec109 s3 ((31 * v1) + r2) v3 (v4 + 1) hf)
theorem wL_X9_digest_109 {X : CX} {G : Ge} {Z : Rt} {rec88 : St → Int → Int → Option Rt} (hO : rr_OK X G cX9_digest 5 RX9 (some .long) 11 276) (hrec88 : ∀ (s : St) (v1 v3 : Int), rec88 s v1 v3 = some Z → rr_AT X G 5 2 Z 88 [(0, vr G 58), (1, vl v1), (3, vi v3)] [] s) : ∀ (n : Nat) (s : St) (v1 v3 v4 : Int), L_X9_digest_109 rec88 n s v1 v3 v4 = some Z → rr_AT X G 5 2 Z 109 [(0, vr G 58), (1, vl v1), (3, vi v3), (4, vi v4)] [] s := by
  intro n
  induction n with
  | zero =>
    intro s v1 v3 v4 hf
    cases hf
  | succ n ih =>
    intro s v1 v3 v4 hf
    exact wS_X9_digest_109 hO hrec88 ih s v1 v3 v4 hf
def S_X9_digest_88 (rec88 : St → Int → Int → Option Rt) (s : St) (v1 v3 : Int) : Option Rt := chk (in32 v3) ((if 3 ≤ v3 then L_X9_digest_304 FU s v1 0 else cll (f_X9_possessionOf s v3) (fun r2 s3 => chk (in32 r2) (L_X9_digest_109 rec88 FU s3 ((31 * v1) + r2) v3 0))))
def L_X9_digest_88 : Nat → St → Int → Int → Option Rt
  | 0, _, _, _ => none
  | n + 1, s, v1, v3 => S_X9_digest_88 (L_X9_digest_88 n) s v1 v3
set_option maxRecDepth 100000 in
set_option maxHeartbeats 4000000 in
theorem wS_X9_digest_88 {X : CX} {G : Ge} {Z : Rt} {rec88 : St → Int → Int → Option Rt} (hO : rr_OK X G cX9_digest 5 RX9 (some .long) 11 276) (hrec88 : ∀ (s : St) (v1 v3 : Int), rec88 s v1 v3 = some Z → rr_AT X G 5 2 Z 88 [(0, vr G 58), (1, vl v1), (3, vi v3)] [] s) (s : St) (v1 v3 : Int) (hf : S_X9_digest_88 rec88 s v1 v3 = some Z) : rr_AT X G 5 2 Z 88 [(0, vr G 58), (1, vl v1), (3, vi v3)] [] s := by
  unfold S_X9_digest_88 at hf
  refine at_iload_n hO 2 rfl rfl dX9_digest_88 89 rfl ?_
  refine at_iconst hO dX9_digest_89 90 rfl ?_
  obtain ⟨h1, hf⟩ := chk_some hf
  refine at_icmp_ge hO h1 (by decide) dX9_digest_90 302 rfl 93 rfl hf (fun hf => ?_) (fun hf => ?_)
  · refine at_iconst hO dX9_digest_302 303 rfl ?_
    refine at_istore_n hO (lv' := [(3, vi 0), (0, vr G 58), (1, vl v1)]) rfl (Nat.le_of_ble_eq_true rfl) rfl dX9_digest_303 304 rfl ?_
    exact at_sub (fun ls h => lv_sub h [1, 2, 0] rfl) (wL_X9_digest_304 hO FU s v1 0 hf)
  · refine at_ldc2_w (n := 31) hO lc_X9_250 (by decide) dX9_digest_93 96 rfl ?_
    refine at_lload_n hO 1 rfl rfl dX9_digest_96 97 rfl ?_
    refine at_lmul hO dX9_digest_97 98 rfl ?_
    refine at_aload_n hO 0 rfl rfl dX9_digest_98 99 rfl ?_
    refine at_iload_n hO 2 rfl rfl dX9_digest_99 100 rfl ?_
    refine at_callV1 (As := [vi v3]) (st := [vl (31 * v1)]) hO (c_X9_possessionOf _ G hO.g s v3) mb_X9_possessionOf mi_X9_possessionOf lk_X9_128 rfl ⟨_, rfl, rfl⟩ rfl ⟨(Nat.le_of_ble_eq_true rfl), (Nat.le_of_ble_eq_true rfl)⟩ (Nat.le_of_ble_eq_true rfl) rfl dX9_digest_100 103 rfl hf (fun r2 s3 hf => ?_)
    obtain ⟨h4, hf⟩ := chk_some hf
    refine at_i2l hO h4 dX9_digest_103 104 rfl ?_
    refine at_ladd hO dX9_digest_104 105 rfl ?_
    refine at_lstore_n hO (lv' := [(1, vl ((31 * v1) + r2)), (0, vr G 58), (3, vi v3)]) rfl (Nat.le_of_ble_eq_true rfl) rfl dX9_digest_105 106 rfl ?_
    refine at_iconst hO dX9_digest_106 107 rfl ?_
    refine at_istore hO (lv' := [(4, vi 0), (1, vl ((31 * v1) + r2)), (0, vr G 58), (3, vi v3)]) (Nat.le_of_ble_eq_true rfl) rfl dX9_digest_107 109 rfl ?_
    exact at_sub (fun ls h => lv_sub h [2, 1, 3, 0] rfl) (wL_X9_digest_109 hO hrec88 FU s3 ((31 * v1) + r2) v3 0 hf)
theorem wL_X9_digest_88 {X : CX} {G : Ge} {Z : Rt} (hO : rr_OK X G cX9_digest 5 RX9 (some .long) 11 276) : ∀ (n : Nat) (s : St) (v1 v3 : Int), L_X9_digest_88 n s v1 v3 = some Z → rr_AT X G 5 2 Z 88 [(0, vr G 58), (1, vl v1), (3, vi v3)] [] s := by
  intro n
  induction n with
  | zero =>
    intro s v1 v3 hf
    cases hf
  | succ n ih =>
    intro s v1 v3 hf
    exact wS_X9_digest_88 hO ih s v1 v3 hf
def S_X9_digest_59 (rec59 : St → Int → Int → Option Rt) (s : St) (v1 v3 : Int) : Option Rt := cll (f_X9_yards s) (fun r1 s2 => chk (in32 v3) (chk (in32 r1) ((if r1 ≤ v3 then L_X9_digest_88 FU s2 v1 0 else cll (f_X9_heightOf s2 v3) (fun r5 s6 => chk (in32 r5) (rec59 s6 ((31 * v1) + r5) (v3 + 1)))))))
def L_X9_digest_59 : Nat → St → Int → Int → Option Rt
  | 0, _, _, _ => none
  | n + 1, s, v1, v3 => S_X9_digest_59 (L_X9_digest_59 n) s v1 v3
set_option maxRecDepth 100000 in
set_option maxHeartbeats 4000000 in
theorem wS_X9_digest_59 {X : CX} {G : Ge} {Z : Rt} {rec59 : St → Int → Int → Option Rt} (hO : rr_OK X G cX9_digest 5 RX9 (some .long) 11 276) (hrec59 : ∀ (s : St) (v1 v3 : Int), rec59 s v1 v3 = some Z → rr_AT X G 5 2 Z 59 [(0, vr G 58), (1, vl v1), (3, vi v3)] [] s) (s : St) (v1 v3 : Int) (hf : S_X9_digest_59 rec59 s v1 v3 = some Z) : rr_AT X G 5 2 Z 59 [(0, vr G 58), (1, vl v1), (3, vi v3)] [] s := by
  unfold S_X9_digest_59 at hf
  refine at_iload_n hO 2 rfl rfl dX9_digest_59 60 rfl ?_
  refine at_aload_n hO 0 rfl rfl dX9_digest_60 61 rfl ?_
  refine at_callV1 (As := []) (st := [vi v3]) hO (c_X9_yards _ G hO.g s ) mb_X9_yards mi_X9_yards lk_X9_95 rfl ⟨_, rfl, rfl⟩ rfl ⟨(Nat.le_of_ble_eq_true rfl), (Nat.le_of_ble_eq_true rfl)⟩ (Nat.le_of_ble_eq_true rfl) rfl dX9_digest_61 64 rfl hf (fun r1 s2 hf => ?_)
  obtain ⟨h3, hf⟩ := chk_some hf
  obtain ⟨h4, hf⟩ := chk_some hf
  refine at_icmp_ge hO h3 h4 dX9_digest_64 86 rfl 67 rfl hf (fun hf => ?_) (fun hf => ?_)
  · refine at_iconst hO dX9_digest_86 87 rfl ?_
    refine at_istore_n hO (lv' := [(3, vi 0), (0, vr G 58), (1, vl v1)]) rfl (Nat.le_of_ble_eq_true rfl) rfl dX9_digest_87 88 rfl ?_
    exact at_sub (fun ls h => lv_sub h [1, 2, 0] rfl) (wL_X9_digest_88 hO FU s2 v1 0 hf)
  · refine at_ldc2_w (n := 31) hO lc_X9_250 (by decide) dX9_digest_67 70 rfl ?_
    refine at_lload_n hO 1 rfl rfl dX9_digest_70 71 rfl ?_
    refine at_lmul hO dX9_digest_71 72 rfl ?_
    refine at_aload_n hO 0 rfl rfl dX9_digest_72 73 rfl ?_
    refine at_iload_n hO 2 rfl rfl dX9_digest_73 74 rfl ?_
    refine at_callV1 (As := [vi v3]) (st := [vl (31 * v1)]) hO (c_X9_heightOf _ G hO.g s2 v3) mb_X9_heightOf mi_X9_heightOf lk_X9_102 rfl ⟨_, rfl, rfl⟩ rfl ⟨(Nat.le_of_ble_eq_true rfl), (Nat.le_of_ble_eq_true rfl)⟩ (Nat.le_of_ble_eq_true rfl) rfl dX9_digest_74 77 rfl hf (fun r5 s6 hf => ?_)
    obtain ⟨h7, hf⟩ := chk_some hf
    refine at_i2l hO h7 dX9_digest_77 78 rfl ?_
    refine at_ladd hO dX9_digest_78 79 rfl ?_
    refine at_lstore_n hO (lv' := [(1, vl ((31 * v1) + r5)), (0, vr G 58), (3, vi v3)]) rfl (Nat.le_of_ble_eq_true rfl) rfl dX9_digest_79 80 rfl ?_
    refine at_iinc hO (lv' := [(3, vi (v3 + 1)), (1, vl ((31 * v1) + r5)), (0, vr G 58)]) 2 rfl (Nat.le_of_ble_eq_true rfl) rfl dX9_digest_80 83 rfl ?_
    refine at_goto hO dX9_digest_83 59 rfl ?_
    exact at_sub (fun ls h => lv_sub h [2, 1, 0] rfl) (hrec59 s6 ((31 * v1) + r5) (v3 + 1) hf)
theorem wL_X9_digest_59 {X : CX} {G : Ge} {Z : Rt} (hO : rr_OK X G cX9_digest 5 RX9 (some .long) 11 276) : ∀ (n : Nat) (s : St) (v1 v3 : Int), L_X9_digest_59 n s v1 v3 = some Z → rr_AT X G 5 2 Z 59 [(0, vr G 58), (1, vl v1), (3, vi v3)] [] s := by
  intro n
  induction n with
  | zero =>
    intro s v1 v3 hf
    cases hf
  | succ n ih =>
    intro s v1 v3 hf
    exact wS_X9_digest_59 hO ih s v1 v3 hf
def S_X9_digest_33 (rec33 : St → Int → Int → Option Rt) (s : St) (v1 v3 : Int) : Option Rt := chk (in32 v3) ((if 4 ≤ v3 then L_X9_digest_59 FU s v1 0 else cll (f_X9_faultOf s v3) (fun r2 s3 => chk (in32 r2) (rec33 s3 ((31 * v1) + r2) (v3 + 1)))))
def L_X9_digest_33 : Nat → St → Int → Int → Option Rt
  | 0, _, _, _ => none
  | n + 1, s, v1, v3 => S_X9_digest_33 (L_X9_digest_33 n) s v1 v3
set_option maxRecDepth 100000 in
set_option maxHeartbeats 4000000 in
theorem wS_X9_digest_33 {X : CX} {G : Ge} {Z : Rt} {rec33 : St → Int → Int → Option Rt} (hO : rr_OK X G cX9_digest 5 RX9 (some .long) 11 276) (hrec33 : ∀ (s : St) (v1 v3 : Int), rec33 s v1 v3 = some Z → rr_AT X G 5 2 Z 33 [(0, vr G 58), (1, vl v1), (3, vi v3)] [] s) (s : St) (v1 v3 : Int) (hf : S_X9_digest_33 rec33 s v1 v3 = some Z) : rr_AT X G 5 2 Z 33 [(0, vr G 58), (1, vl v1), (3, vi v3)] [] s := by
  unfold S_X9_digest_33 at hf
  refine at_iload_n hO 2 rfl rfl dX9_digest_33 34 rfl ?_
  refine at_iconst hO dX9_digest_34 35 rfl ?_
  obtain ⟨h1, hf⟩ := chk_some hf
  refine at_icmp_ge hO h1 (by decide) dX9_digest_35 57 rfl 38 rfl hf (fun hf => ?_) (fun hf => ?_)
  · refine at_iconst hO dX9_digest_57 58 rfl ?_
    refine at_istore_n hO (lv' := [(3, vi 0), (0, vr G 58), (1, vl v1)]) rfl (Nat.le_of_ble_eq_true rfl) rfl dX9_digest_58 59 rfl ?_
    exact at_sub (fun ls h => lv_sub h [1, 2, 0] rfl) (wL_X9_digest_59 hO FU s v1 0 hf)
  · refine at_ldc2_w (n := 31) hO lc_X9_250 (by decide) dX9_digest_38 41 rfl ?_
    refine at_lload_n hO 1 rfl rfl dX9_digest_41 42 rfl ?_
    refine at_lmul hO dX9_digest_42 43 rfl ?_
    refine at_aload_n hO 0 rfl rfl dX9_digest_43 44 rfl ?_
    refine at_iload_n hO 2 rfl rfl dX9_digest_44 45 rfl ?_
    refine at_callV1 (As := [vi v3]) (st := [vl (31 * v1)]) hO (c_X9_faultOf _ G hO.g s v3) mb_X9_faultOf mi_X9_faultOf lk_X9_89 rfl ⟨_, rfl, rfl⟩ rfl ⟨(Nat.le_of_ble_eq_true rfl), (Nat.le_of_ble_eq_true rfl)⟩ (Nat.le_of_ble_eq_true rfl) rfl dX9_digest_45 48 rfl hf (fun r2 s3 hf => ?_)
    obtain ⟨h4, hf⟩ := chk_some hf
    refine at_i2l hO h4 dX9_digest_48 49 rfl ?_
    refine at_ladd hO dX9_digest_49 50 rfl ?_
    refine at_lstore_n hO (lv' := [(1, vl ((31 * v1) + r2)), (0, vr G 58), (3, vi v3)]) rfl (Nat.le_of_ble_eq_true rfl) rfl dX9_digest_50 51 rfl ?_
    refine at_iinc hO (lv' := [(3, vi (v3 + 1)), (1, vl ((31 * v1) + r2)), (0, vr G 58)]) 2 rfl (Nat.le_of_ble_eq_true rfl) rfl dX9_digest_51 54 rfl ?_
    refine at_goto hO dX9_digest_54 33 rfl ?_
    exact at_sub (fun ls h => lv_sub h [2, 1, 0] rfl) (hrec33 s3 ((31 * v1) + r2) (v3 + 1) hf)
theorem wL_X9_digest_33 {X : CX} {G : Ge} {Z : Rt} (hO : rr_OK X G cX9_digest 5 RX9 (some .long) 11 276) : ∀ (n : Nat) (s : St) (v1 v3 : Int), L_X9_digest_33 n s v1 v3 = some Z → rr_AT X G 5 2 Z 33 [(0, vr G 58), (1, vl v1), (3, vi v3)] [] s := by
  intro n
  induction n with
  | zero =>
    intro s v1 v3 hf
    cases hf
  | succ n ih =>
    intro s v1 v3 hf
    exact wS_X9_digest_33 hO ih s v1 v3 hf
def S_X9_digest_6 (rec6 : St → Int → Int → Option Rt) (s : St) (v1 v3 : Int) : Option Rt := chk (in32 v3) ((if 8 ≤ v3 then L_X9_digest_33 FU s v1 0 else cll (f_X9_count s v3) (fun r2 s3 => chk (in32 r2) (rec6 s3 ((31 * v1) + r2) (v3 + 1)))))
def L_X9_digest_6 : Nat → St → Int → Int → Option Rt
  | 0, _, _, _ => none
  | n + 1, s, v1, v3 => S_X9_digest_6 (L_X9_digest_6 n) s v1 v3
set_option maxRecDepth 100000 in
set_option maxHeartbeats 4000000 in
theorem wS_X9_digest_6 {X : CX} {G : Ge} {Z : Rt} {rec6 : St → Int → Int → Option Rt} (hO : rr_OK X G cX9_digest 5 RX9 (some .long) 11 276) (hrec6 : ∀ (s : St) (v1 v3 : Int), rec6 s v1 v3 = some Z → rr_AT X G 5 2 Z 6 [(0, vr G 58), (1, vl v1), (3, vi v3)] [] s) (s : St) (v1 v3 : Int) (hf : S_X9_digest_6 rec6 s v1 v3 = some Z) : rr_AT X G 5 2 Z 6 [(0, vr G 58), (1, vl v1), (3, vi v3)] [] s := by
  unfold S_X9_digest_6 at hf
  refine at_iload_n hO 2 rfl rfl dX9_digest_6 7 rfl ?_
  refine at_bipush hO (by decide) dX9_digest_7 9 rfl ?_
  obtain ⟨h1, hf⟩ := chk_some hf
  refine at_icmp_ge hO h1 (by decide) dX9_digest_9 31 rfl 12 rfl hf (fun hf => ?_) (fun hf => ?_)
  · refine at_iconst hO dX9_digest_31 32 rfl ?_
    refine at_istore_n hO (lv' := [(3, vi 0), (0, vr G 58), (1, vl v1)]) rfl (Nat.le_of_ble_eq_true rfl) rfl dX9_digest_32 33 rfl ?_
    exact at_sub (fun ls h => lv_sub h [1, 2, 0] rfl) (wL_X9_digest_33 hO FU s v1 0 hf)
  · refine at_ldc2_w (n := 31) hO lc_X9_250 (by decide) dX9_digest_12 15 rfl ?_
    refine at_lload_n hO 1 rfl rfl dX9_digest_15 16 rfl ?_
    refine at_lmul hO dX9_digest_16 17 rfl ?_
    refine at_aload_n hO 0 rfl rfl dX9_digest_17 18 rfl ?_
    refine at_iload_n hO 2 rfl rfl dX9_digest_18 19 rfl ?_
    refine at_callV1 (As := [vi v3]) (st := [vl (31 * v1)]) hO (c_X9_count _ G hO.g s v3) mb_X9_count mi_X9_count lk_X9_252 rfl ⟨_, rfl, rfl⟩ rfl ⟨(Nat.le_of_ble_eq_true rfl), (Nat.le_of_ble_eq_true rfl)⟩ (Nat.le_of_ble_eq_true rfl) rfl dX9_digest_19 22 rfl hf (fun r2 s3 hf => ?_)
    obtain ⟨h4, hf⟩ := chk_some hf
    refine at_i2l hO h4 dX9_digest_22 23 rfl ?_
    refine at_ladd hO dX9_digest_23 24 rfl ?_
    refine at_lstore_n hO (lv' := [(1, vl ((31 * v1) + r2)), (0, vr G 58), (3, vi v3)]) rfl (Nat.le_of_ble_eq_true rfl) rfl dX9_digest_24 25 rfl ?_
    refine at_iinc hO (lv' := [(3, vi (v3 + 1)), (1, vl ((31 * v1) + r2)), (0, vr G 58)]) 2 rfl (Nat.le_of_ble_eq_true rfl) rfl dX9_digest_25 28 rfl ?_
    refine at_goto hO dX9_digest_28 6 rfl ?_
    exact at_sub (fun ls h => lv_sub h [2, 1, 0] rfl) (hrec6 s3 ((31 * v1) + r2) (v3 + 1) hf)
theorem wL_X9_digest_6 {X : CX} {G : Ge} {Z : Rt} (hO : rr_OK X G cX9_digest 5 RX9 (some .long) 11 276) : ∀ (n : Nat) (s : St) (v1 v3 : Int), L_X9_digest_6 n s v1 v3 = some Z → rr_AT X G 5 2 Z 6 [(0, vr G 58), (1, vl v1), (3, vi v3)] [] s := by
  intro n
  induction n with
  | zero =>
    intro s v1 v3 hf
    cases hf
  | succ n ih =>
    intro s v1 v3 hf
    exact wS_X9_digest_6 hO ih s v1 v3 hf
def f_X9_digest (s : St) : Option Rt := L_X9_digest_6 FU s 17 0
set_option maxRecDepth 100000 in
set_option maxHeartbeats 4000000 in
theorem c_X9_digest (l : Launch) (G : Ge) (hG : rr_GD G) (s : St) : rr_Ct l G yX9_digest cX9_digest 5 (some .long) 11 276 2 [vr G 58] s (f_X9_digest s ) := by
  refine rr_mk (lv := [(0, vr G 58)]) RX9 (by decide) rfl hG (Nat.le_of_ble_eq_true rfl) rfl ?_
  intro X Z hO hf
  unfold f_X9_digest at hf
  refine at_ldc2_w (n := 17) hO lc_X9_248 (by decide) dX9_digest_0 3 rfl ?_
  refine at_lstore_n hO (lv' := [(1, vl 17), (0, vr G 58)]) rfl (Nat.le_of_ble_eq_true rfl) rfl dX9_digest_3 4 rfl ?_
  refine at_iconst hO dX9_digest_4 5 rfl ?_
  refine at_istore_n hO (lv' := [(3, vi 0), (1, vl 17), (0, vr G 58)]) rfl (Nat.le_of_ble_eq_true rfl) rfl dX9_digest_5 6 rfl ?_
  exact at_sub (fun ls h => lv_sub h [2, 1, 0] rfl) (wL_X9_digest_6 hO FU s 17 0 hf)
