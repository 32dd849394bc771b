theorem w_L_act_487 {g : GC} {X : MX} {r : Int32} {S' : Mem} (h0 : LX RL cL_act 6 rl_act X) (hK : KW g (D1 g X) X) (fu : Nat) (x1 : Int32) (hE : E1 (some .int) r g S' 5 X) : ∀ (cn : Nat), cn + (0) ≤ 5 → ∀ (t0 : Int32) (S : Mem), f_L_act_487 fu x1 t0 S = some (r, S') → LQ X (D1 g X) 6 cn (pW g S) [] 487 [.int t0] := by
  intro cn hc t0 S h
  rw [f_L_act_487] at h
  exact q_iret h0 hE dL_act_487 (by omega) h
theorem w_L_act_482 {g : GC} {X : MX} {r : Int32} {S' : Mem} (h0 : LX RL cL_act 6 rl_act X) (hK : KW g (D1 g X) X) (fu : Nat) (x1 : Int32) (hE : E1 (some .int) r g S' 5 X) : ∀ (cn : Nat), cn + (5) ≤ 5 → ∀ (t0 : Int32) (t1 : Int32) (t2 : Int32) (S : Mem), f_L_act_482 fu x1 t0 t1 t2 S = some (r, S') → LQ X (D1 g X) 6 cn (pW g S) [] 482 [.int t0, .int t1, .int t2, .ref (wA (wC g) 7 0)] := by
  intro cn hc t0 t1 t2 S h
  rw [f_L_act_482] at h
  refine l_iconst (pc' := 483) h0 dL_act_482 ki_0 rfl ?_
  refine l_iconst (pc' := 484) h0 dL_act_483 ki_0 rfl ?_
  obtain ⟨r484, S484, h484, h⟩ := b2_some h
  refine q_call1H (n := 6) (pc' := 487) vl_410 vl_411 vl_27 vl_412 ⟨by decide +kernel, by decide +kernel, by decide +kernel⟩ [.ref (wA (wC g) 7 0), .int t2, .int t1, .int t0, .int 0, .int 0] [] h0 hK (stab_T g) (c_L_does g fu t2 t1 t0 0 0 S h484) rfl rfl dL_act_484 rfl (Nat.le_of_ble_eq_true rfl) ⟨rfl, rfl, (Nat.le_of_ble_eq_true rfl), (Nat.le_of_ble_eq_true rfl)⟩ ⟨by show (cn + 5) ≤ 5; omega, by show 6 * (cn + 5) ≤ 6 * 5; omega⟩ ?_
  show LQ X (D1 g X) 6 (cn + 5) (pW g S484) [] 487 [.int r484]
  exact w_L_act_487 h0 hK fu x1 hE (cn + 5) (by omega) r484 S484 h
theorem w_L_act_454 {g : GC} {X : MX} {r : Int32} {S' : Mem} (h0 : LX RL cL_act 6 rl_act X) (hK : KW g (D1 g X) X) (fu : Nat) (x1 : Int32) (hE : E1 (some .int) r g S' 5 X) : ∀ (cn : Nat), cn + (5) ≤ 5 → ∀ (x2 : Int32) (t0 : Int32) (t1 : Int32) (S : Mem), f_L_act_454 fu x1 x2 t0 t1 S = some (r, S') → LQ X (D1 g X) 6 cn (pW g S) [(1, .int x1), (2, .int x2)] 454 [.int t0, .int t1, .ref (wA (wC g) 7 0)] := by
  intro cn hc x2 t0 t1 S h
  rw [f_L_act_454] at h
  refine l_iload_n (pc' := 455) h0 1 dL_act_454 rfl rfl rfl ?_
  refine l_if_eq (pt := 470) (pf := 458) h0 dL_act_455 rfl rfl h (fun c455 h => ?_) (fun c455 h => ?_)
  · refine l_bipush (pc' := 472) h0 dL_act_470 kb_30 rfl ?_
    refine l_iload_n (pc' := 473) h0 0 dL_act_472 rfl rfl rfl ?_
    refine l_bipush (pc' := 475) h0 dL_act_473 kb_12 rfl ?_
    refine l_ishr (pc' := 476) h0 dL_act_475 rfl ?_
    refine l_bipush (pc' := 478) h0 dL_act_476 kb_31 rfl ?_
    obtain ⟨r478, h478, h⟩ := b1_some h
    refine q_callS (n := 2) (pc' := 481) vl_406 vl_407 vl_408 vl_27 ⟨by decide +kernel, by decide +kernel, by decide +kernel⟩ [.int (x1 >>> (12 &&& 31)), .int 31] [.int 30, .int t0, .int t1, .ref (wA (wC g) 7 0)] h0 hK (stab_T g) (c_L_low g fu (x1 >>> (12 &&& 31)) 31 S h478) rfl rfl dL_act_478 rfl (Nat.le_of_ble_eq_true rfl) ⟨rfl, rfl, (Nat.le_of_ble_eq_true rfl), (Nat.le_of_ble_eq_true rfl)⟩ ⟨by show cn ≤ 5; omega, by show 6 * cn ≤ 6 * 5; omega⟩ ?_
    show LQ X (D1 g X) 6 cn (pW g S) [(1, .int x1), (2, .int x2)] 481 [.int r478, .int 30, .int t0, .int t1, .ref (wA (wC g) 7 0)]
    refine l_iadd (pc' := 482) h0 dL_act_481 rfl ?_
    refine l_sub (L' := []) [] rfl ?_
    exact w_L_act_482 h0 hK fu x1 hE cn (by omega) (30 + r478) t0 t1 S h
  · refine l_iload_n (pc' := 459) h0 0 dL_act_458 rfl rfl rfl ?_
    refine l_bipush (pc' := 461) h0 dL_act_459 kb_12 rfl ?_
    refine l_ishr (pc' := 462) h0 dL_act_461 rfl ?_
    refine l_bipush (pc' := 464) h0 dL_act_462 kb_100 rfl ?_
    obtain ⟨r464, h464, h⟩ := b1_some h
    refine q_callS (n := 2) (pc' := 467) vl_406 vl_407 vl_408 vl_27 ⟨by decide +kernel, by decide +kernel, by decide +kernel⟩ [.int (x1 >>> (12 &&& 31)), .int 100] [.int t0, .int t1, .ref (wA (wC g) 7 0)] h0 hK (stab_T g) (c_L_low g fu (x1 >>> (12 &&& 31)) 100 S h464) rfl rfl dL_act_464 rfl (Nat.le_of_ble_eq_true rfl) ⟨rfl, rfl, (Nat.le_of_ble_eq_true rfl), (Nat.le_of_ble_eq_true rfl)⟩ ⟨by show cn ≤ 5; omega, by show 6 * cn ≤ 6 * 5; omega⟩ ?_
    show LQ X (D1 g X) 6 cn (pW g S) [(1, .int x1), (2, .int x2)] 467 [.int r464, .int t0, .int t1, .ref (wA (wC g) 7 0)]
    refine l_goto (pc' := 482) h0 dL_act_467 rfl ?_
    refine l_sub (L' := []) [] rfl ?_
    exact w_L_act_482 h0 hK fu x1 hE cn (by omega) r464 t0 t1 S h
theorem w_L_act_381 {g : GC} {X : MX} {r : Int32} {S' : Mem} (h0 : LX RL cL_act 6 rl_act X) (hK : KW g (D1 g X) X) (fu : Nat) (x1 : Int32) (hE : E1 (some .int) r g S' 5 X) : ∀ (cn : Nat), cn + (5) ≤ 5 → ∀ (t0 : Int32) (t1 : Int32) (t2 : Int32) (t3 : Int32) (S : Mem), f_L_act_381 fu x1 t0 t1 t2 t3 S = some (r, S') → LQ X (D1 g X) 6 cn (pW g S) [] 381 [.int t0, .int t1, .int t2, .int t3, .ref (wA (wC g) 7 0)] := by
  intro cn hc t0 t1 t2 t3 S h
  rw [f_L_act_381] at h
  obtain ⟨r381, h381, h⟩ := b1_some h
  refine q_callS (n := 2) (pc' := 384) vl_406 vl_407 vl_408 vl_27 ⟨by decide +kernel, by decide +kernel, by decide +kernel⟩ [.int t1, .int t0] [.int t2, .int t3, .ref (wA (wC g) 7 0)] h0 hK (stab_T g) (c_L_low g fu t1 t0 S h381) rfl rfl dL_act_381 rfl (Nat.le_of_ble_eq_true rfl) ⟨rfl, rfl, (Nat.le_of_ble_eq_true rfl), (Nat.le_of_ble_eq_true rfl)⟩ ⟨by show cn ≤ 5; omega, by show 6 * cn ≤ 6 * 5; omega⟩ ?_
  show LQ X (D1 g X) 6 cn (pW g S) [] 384 [.int r381, .int t2, .int t3, .ref (wA (wC g) 7 0)]
  refine l_iconst (pc' := 385) h0 dL_act_384 ki_0 rfl ?_
  refine l_iconst (pc' := 386) h0 dL_act_385 ki_0 rfl ?_
  obtain ⟨r386, S386, h386, h⟩ := b2_some h
  refine q_call1H (n := 6) (pc' := 389) vl_410 vl_411 vl_27 vl_412 ⟨by decide +kernel, by decide +kernel, by decide +kernel⟩ [.ref (wA (wC g) 7 0), .int t3, .int t2, .int r381, .int 0, .int 0] [] h0 hK (stab_T g) (c_L_does g fu t3 t2 r381 0 0 S h386) rfl rfl dL_act_386 rfl (Nat.le_of_ble_eq_true rfl) ⟨rfl, rfl, (Nat.le_of_ble_eq_true rfl), (Nat.le_of_ble_eq_true rfl)⟩ ⟨by show (cn + 5) ≤ 5; omega, by show 6 * (cn + 5) ≤ 6 * 5; omega⟩ ?_
  show LQ X (D1 g X) 6 (cn + 5) (pW g S386) [] 389 [.int r386]
  exact q_iret h0 hE dL_act_389 (by omega) h
theorem w_L_act_350 {g : GC} {X : MX} {r : Int32} {S' : Mem} (h0 : LX RL cL_act 6 rl_act X) (hK : KW g (D1 g X) X) (fu : Nat) (x1 : Int32) (hE : E1 (some .int) r g S' 5 X) : ∀ (cn : Nat), cn + (5) ≤ 5 → ∀ (t0 : Int32) (t1 : Int32) (S : Mem), f_L_act_350 fu x1 t0 t1 S = some (r, S') → LQ X (D1 g X) 6 cn (pW g S) [] 350 [.int t0, .int t1, .ref (wA (wC g) 7 0)] := by
  intro cn hc t0 t1 S h
  rw [f_L_act_350] at h
  refine l_iconst (pc' := 351) h0 dL_act_350 ki_0 rfl ?_
  refine l_iconst (pc' := 352) h0 dL_act_351 ki_0 rfl ?_
  refine l_iconst (pc' := 353) h0 dL_act_352 ki_0 rfl ?_
  obtain ⟨r353, S353, h353, h⟩ := b2_some h
  refine q_call1H (n := 6) (pc' := 356) vl_410 vl_411 vl_27 vl_412 ⟨by decide +kernel, by decide +kernel, by decide +kernel⟩ [.ref (wA (wC g) 7 0), .int t1, .int t0, .int 0, .int 0, .int 0] [] h0 hK (stab_T g) (c_L_does g fu t1 t0 0 0 0 S h353) rfl rfl dL_act_353 rfl (Nat.le_of_ble_eq_true rfl) ⟨rfl, rfl, (Nat.le_of_ble_eq_true rfl), (Nat.le_of_ble_eq_true rfl)⟩ ⟨by show (cn + 5) ≤ 5; omega, by show 6 * (cn + 5) ≤ 6 * 5; omega⟩ ?_
  show LQ X (D1 g X) 6 (cn + 5) (pW g S353) [] 356 [.int r353]
  exact q_iret h0 hE dL_act_356 (by omega) h
theorem w_L_act_346 {g : GC} {X : MX} {r : Int32} {S' : Mem} (h0 : LX RL cL_act 6 rl_act X) (hK : KW g (D1 g X) X) (fu : Nat) (x1 : Int32) (hE : E1 (some .int) r g S' 5 X) : ∀ (cn : Nat), cn + (5) ≤ 5 → ∀ (t0 : Int32) (t1 : Int32) (t2 : Int32) (t3 : Int32) (S : Mem), f_L_act_346 fu x1 t0 t1 t2 t3 S = some (r, S') → LQ X (D1 g X) 6 cn (pW g S) [] 346 [.int t0, .int t1, .int t2, .int t3, .ref (wA (wC g) 7 0)] := by
  intro cn hc t0 t1 t2 t3 S h
  rw [f_L_act_346] at h
  obtain ⟨r346, h346, h⟩ := b1_some h
  refine q_callS (n := 2) (pc' := 349) vl_406 vl_407 vl_408 vl_27 ⟨by decide +kernel, by decide +kernel, by decide +kernel⟩ [.int t1, .int t0] [.int t2, .int t3, .ref (wA (wC g) 7 0)] h0 hK (stab_T g) (c_L_low g fu t1 t0 S h346) rfl rfl dL_act_346 rfl (Nat.le_of_ble_eq_true rfl) ⟨rfl, rfl, (Nat.le_of_ble_eq_true rfl), (Nat.le_of_ble_eq_true rfl)⟩ ⟨by show cn ≤ 5; omega, by show 6 * cn ≤ 6 * 5; omega⟩ ?_
  show LQ X (D1 g X) 6 cn (pW g S) [] 349 [.int r346, .int t2, .int t3, .ref (wA (wC g) 7 0)]
  refine l_iadd (pc' := 350) h0 dL_act_349 rfl ?_
  exact w_L_act_350 h0 hK fu x1 hE cn (by omega) (t2 + r346) t3 S h
theorem w_L_act_296 {g : GC} {X : MX} {r : Int32} {S' : Mem} (h0 : LX RL cL_act 6 rl_act X) (hK : KW g (D1 g X) X) (fu : Nat) (x1 : Int32) (hE : E1 (some .int) r g S' 5 X) : ∀ (cn : Nat), cn + (5) ≤ 5 → ∀ (t0 : Int32) (t1 : Int32) (t2 : Int32) (t3 : Int32) (t4 : Int32) (t5 : Int32) (S : Mem), f_L_act_296 fu x1 t0 t1 t2 t3 t4 t5 S = some (r, S') → LQ X (D1 g X) 6 cn (pW g S) [] 296 [.int t0, .int t1, .int t2, .int t3, .int t4, .int t5, .ref (wA (wC g) 7 0)] := by
  intro cn hc t0 t1 t2 t3 t4 t5 S h
  rw [f_L_act_296] at h
  obtain ⟨r296, h296, h⟩ := b1_some h
  refine q_callS (n := 2) (pc' := 299) vl_406 vl_407 vl_408 vl_27 ⟨by decide +kernel, by decide +kernel, by decide +kernel⟩ [.int t1, .int t0] [.int t2, .int t3, .int t4, .int t5, .ref (wA (wC g) 7 0)] h0 hK (stab_T g) (c_L_low g fu t1 t0 S h296) rfl rfl dL_act_296 rfl (Nat.le_of_ble_eq_true rfl) ⟨rfl, rfl, (Nat.le_of_ble_eq_true rfl), (Nat.le_of_ble_eq_true rfl)⟩ ⟨by show cn ≤ 5; omega, by show 6 * cn ≤ 6 * 5; omega⟩ ?_
  show LQ X (D1 g X) 6 cn (pW g S) [] 299 [.int r296, .int t2, .int t3, .int t4, .int t5, .ref (wA (wC g) 7 0)]
  refine l_iadd (pc' := 300) h0 dL_act_299 rfl ?_
  refine l_iconst (pc' := 301) h0 dL_act_300 ki_0 rfl ?_
  obtain ⟨r301, S301, h301, h⟩ := b2_some h
  refine q_call1H (n := 6) (pc' := 304) vl_410 vl_411 vl_27 vl_412 ⟨by decide +kernel, by decide +kernel, by decide +kernel⟩ [.ref (wA (wC g) 7 0), .int t5, .int t4, .int t3, .int (t2 + r296), .int 0] [] h0 hK (stab_T g) (c_L_does g fu t5 t4 t3 (t2 + r296) 0 S h301) rfl rfl dL_act_301 rfl (Nat.le_of_ble_eq_true rfl) ⟨rfl, rfl, (Nat.le_of_ble_eq_true rfl), (Nat.le_of_ble_eq_true rfl)⟩ ⟨by show (cn + 5) ≤ 5; omega, by show 6 * (cn + 5) ≤ 6 * 5; omega⟩ ?_
  show LQ X (D1 g X) 6 (cn + 5) (pW g S301) [] 304 [.int r301]
  exact q_iret h0 hE dL_act_304 (by omega) h
theorem w_L_act_277 {g : GC} {X : MX} {r : Int32} {S' : Mem} (h0 : LX RL cL_act 6 rl_act X) (hK : KW g (D1 g X) X) (fu : Nat) (x1 : Int32) (hE : E1 (some .int) r g S' 5 X) : ∀ (cn : Nat), cn + (5) ≤ 5 → ∀ (x2 : Int32) (t0 : Int32) (t1 : Int32) (t2 : Int32) (t3 : Int32) (S : Mem), f_L_act_277 fu x1 x2 t0 t1 t2 t3 S = some (r, S') → LQ X (D1 g X) 6 cn (pW g S) [(1, .int x1), (2, .int x2)] 277 [.int t0, .int t1, .int t2, .int t3, .ref (wA (wC g) 7 0)] := by
  intro cn hc x2 t0 t1 t2 t3 S h
  rw [f_L_act_277] at h
  obtain ⟨r277, h277, h⟩ := b1_some h
  refine q_callS (n := 2) (pc' := 280) vl_406 vl_407 vl_408 vl_27 ⟨by decide +kernel, by decide +kernel, by decide +kernel⟩ [.int t1, .int t0] [.int t2, .int t3, .ref (wA (wC g) 7 0)] h0 hK (stab_T g) (c_L_low g fu t1 t0 S h277) rfl rfl dL_act_277 rfl (Nat.le_of_ble_eq_true rfl) ⟨rfl, rfl, (Nat.le_of_ble_eq_true rfl), (Nat.le_of_ble_eq_true rfl)⟩ ⟨by show cn ≤ 5; omega, by show 6 * cn ≤ 6 * 5; omega⟩ ?_
  show LQ X (D1 g X) 6 cn (pW g S) [(1, .int x1), (2, .int x2)] 280 [.int r277, .int t2, .int t3, .ref (wA (wC g) 7 0)]
  refine l_iconst (pc' := 281) h0 dL_act_280 ki_1 rfl ?_
  refine l_iload_n (pc' := 282) h0 0 dL_act_281 rfl rfl rfl ?_
  refine l_bipush (pc' := 284) h0 dL_act_282 kb_10 rfl ?_
  refine l_ishr (pc' := 285) h0 dL_act_284 rfl ?_
  refine l_iload_n (pc' := 286) h0 1 dL_act_285 rfl rfl rfl ?_
  refine l_if_eq (pt := 294) (pf := 289) h0 dL_act_286 rfl rfl h (fun c286 h => ?_) (fun c286 h => ?_)
  · refine l_bipush (pc' := 296) h0 dL_act_294 kb_12 rfl ?_
    refine l_sub (L' := []) [] rfl ?_
    exact w_L_act_296 h0 hK fu x1 hE cn (by omega) 12 (x1 >>> (10 &&& 31)) 1 r277 t2 t3 S h
  · refine l_bipush (pc' := 291) h0 dL_act_289 kb_45 rfl ?_
    refine l_goto (pc' := 296) h0 dL_act_291 rfl ?_
    refine l_sub (L' := []) [] rfl ?_
    exact w_L_act_296 h0 hK fu x1 hE cn (by omega) 45 (x1 >>> (10 &&& 31)) 1 r277 t2 t3 S h
theorem w_L_act_243 {g : GC} {X : MX} {r : Int32} {S' : Mem} (h0 : LX RL cL_act 6 rl_act X) (hK : KW g (D1 g X) X) (fu : Nat) (x1 : Int32) (hE : E1 (some .int) r g S' 5 X) : ∀ (cn : Nat), cn + (5) ≤ 5 → ∀ (t0 : Int32) (t1 : Int32) (t2 : Int32) (t3 : Int32) (S : Mem), f_L_act_243 fu x1 t0 t1 t2 t3 S = some (r, S') → LQ X (D1 g X) 6 cn (pW g S) [] 243 [.int t0, .int t1, .int t2, .int t3, .ref (wA (wC g) 7 0)] := by
  intro cn hc t0 t1 t2 t3 S h
  rw [f_L_act_243] at h
  obtain ⟨r243, h243, h⟩ := b1_some h
  refine q_callS (n := 2) (pc' := 246) vl_406 vl_407 vl_408 vl_27 ⟨by decide +kernel, by decide +kernel, by decide +kernel⟩ [.int t1, .int t0] [.int t2, .int t3, .ref (wA (wC g) 7 0)] h0 hK (stab_T g) (c_L_low g fu t1 t0 S h243) rfl rfl dL_act_243 rfl (Nat.le_of_ble_eq_true rfl) ⟨rfl, rfl, (Nat.le_of_ble_eq_true rfl), (Nat.le_of_ble_eq_true rfl)⟩ ⟨by show cn ≤ 5; omega, by show 6 * cn ≤ 6 * 5; omega⟩ ?_
  show LQ X (D1 g X) 6 cn (pW g S) [] 246 [.int r243, .int t2, .int t3, .ref (wA (wC g) 7 0)]
  refine l_iconst (pc' := 247) h0 dL_act_246 ki_0 rfl ?_
  refine l_iconst (pc' := 248) h0 dL_act_247 ki_0 rfl ?_
  obtain ⟨r248, S248, h248, h⟩ := b2_some h
  refine q_call1H (n := 6) (pc' := 251) vl_410 vl_411 vl_27 vl_412 ⟨by decide +kernel, by decide +kernel, by decide +kernel⟩ [.ref (wA (wC g) 7 0), .int t3, .int t2, .int r243, .int 0, .int 0] [] h0 hK (stab_T g) (c_L_does g fu t3 t2 r243 0 0 S h248) rfl rfl dL_act_248 rfl (Nat.le_of_ble_eq_true rfl) ⟨rfl, rfl, (Nat.le_of_ble_eq_true rfl), (Nat.le_of_ble_eq_true rfl)⟩ ⟨by show (cn + 5) ≤ 5; omega, by show 6 * (cn + 5) ≤ 6 * 5; omega⟩ ?_
  show LQ X (D1 g X) 6 (cn + 5) (pW g S248) [] 251 [.int r248]
  exact q_iret h0 hE dL_act_251 (by omega) h
theorem w_L_act_210 {g : GC} {X : MX} {r : Int32} {S' : Mem} (h0 : LX RL cL_act 6 rl_act X) (hK : KW g (D1 g X) X) (fu : Nat) (x1 : Int32) (hE : E1 (some .int) r g S' 5 X) : ∀ (cn : Nat), cn + (5) ≤ 5 → ∀ (t0 : Int32) (t1 : Int32) (t2 : Int32) (t3 : Int32) (t4 : Int32) (S : Mem), f_L_act_210 fu x1 t0 t1 t2 t3 t4 S = some (r, S') → LQ X (D1 g X) 6 cn (pW g S) [] 210 [.int t0, .int t1, .int t2, .int t3, .int t4, .ref (wA (wC g) 7 0)] := by
  intro cn hc t0 t1 t2 t3 t4 S h
  rw [f_L_act_210] at h
  obtain ⟨r210, h210, h⟩ := b1_some h
  refine q_callS (n := 2) (pc' := 213) vl_406 vl_407 vl_408 vl_27 ⟨by decide +kernel, by decide +kernel, by decide +kernel⟩ [.int t1, .int t0] [.int t2, .int t3, .int t4, .ref (wA (wC g) 7 0)] h0 hK (stab_T g) (c_L_low g fu t1 t0 S h210) rfl rfl dL_act_210 rfl (Nat.le_of_ble_eq_true rfl) ⟨rfl, rfl, (Nat.le_of_ble_eq_true rfl), (Nat.le_of_ble_eq_true rfl)⟩ ⟨by show cn ≤ 5; omega, by show 6 * cn ≤ 6 * 5; omega⟩ ?_
  show LQ X (D1 g X) 6 cn (pW g S) [] 213 [.int r210, .int t2, .int t3, .int t4, .ref (wA (wC g) 7 0)]
  refine l_iconst (pc' := 214) h0 dL_act_213 ki_0 rfl ?_
  obtain ⟨r214, S214, h214, h⟩ := b2_some h
  refine q_call1H (n := 6) (pc' := 217) vl_410 vl_411 vl_27 vl_412 ⟨by decide +kernel, by decide +kernel, by decide +kernel⟩ [.ref (wA (wC g) 7 0), .int t4, .int t3, .int t2, .int r210, .int 0] [] h0 hK (stab_T g) (c_L_does g fu t4 t3 t2 r210 0 S h214) rfl rfl dL_act_214 rfl (Nat.le_of_ble_eq_true rfl) ⟨rfl, rfl, (Nat.le_of_ble_eq_true rfl), (Nat.le_of_ble_eq_true rfl)⟩ ⟨by show (cn + 5) ≤ 5; omega, by show 6 * (cn + 5) ≤ 6 * 5; omega⟩ ?_
  show LQ X (D1 g X) 6 (cn + 5) (pW g S214) [] 217 [.int r214]
  exact q_iret h0 hE dL_act_217 (by omega) h
theorem w_L_act_166 {g : GC} {X : MX} {r : Int32} {S' : Mem} (h0 : LX RL cL_act 6 rl_act X) (hK : KW g (D1 g X) X) (fu : Nat) (x1 : Int32) (hE : E1 (some .int) r g S' 5 X) : ∀ (cn : Nat), cn + (5) ≤ 5 → ∀ (t0 : Int32) (t1 : Int32) (t2 : Int32) (t3 : Int32) (t4 : Int32) (t5 : Int32) (S : Mem), f_L_act_166 fu x1 t0 t1 t2 t3 t4 t5 S = some (r, S') → LQ X (D1 g X) 6 cn (pW g S) [] 166 [.int t0, .int t1, .int t2, .int t3, .int t4, .int t5, .ref (wA (wC g) 7 0)] := by
  intro cn hc t0 t1 t2 t3 t4 t5 S h
  rw [f_L_act_166] at h
  obtain ⟨r166, h166, h⟩ := b1_some h
  refine q_callS (n := 2) (pc' := 169) vl_406 vl_407 vl_408 vl_27 ⟨by decide +kernel, by decide +kernel, by decide +kernel⟩ [.int t1, .int t0] [.int t2, .int t3, .int t4, .int t5, .ref (wA (wC g) 7 0)] h0 hK (stab_T g) (c_L_low g fu t1 t0 S h166) rfl rfl dL_act_166 rfl (Nat.le_of_ble_eq_true rfl) ⟨rfl, rfl, (Nat.le_of_ble_eq_true rfl), (Nat.le_of_ble_eq_true rfl)⟩ ⟨by show cn ≤ 5; omega, by show 6 * cn ≤ 6 * 5; omega⟩ ?_
  show LQ X (D1 g X) 6 cn (pW g S) [] 169 [.int r166, .int t2, .int t3, .int t4, .int t5, .ref (wA (wC g) 7 0)]
  refine l_iconst (pc' := 170) h0 dL_act_169 ki_1 rfl ?_
  refine l_isub (pc' := 171) h0 dL_act_170 rfl ?_
  obtain ⟨r171, S171, h171, h⟩ := b2_some h
  refine q_call1H (n := 6) (pc' := 174) vl_410 vl_411 vl_27 vl_412 ⟨by decide +kernel, by decide +kernel, by decide +kernel⟩ [.ref (wA (wC g) 7 0), .int t5, .int t4, .int t3, .int t2, .int (r166 - 1)] [] h0 hK (stab_T g) (c_L_does g fu t5 t4 t3 t2 (r166 - 1) S h171) rfl rfl dL_act_171 rfl (Nat.le_of_ble_eq_true rfl) ⟨rfl, rfl, (Nat.le_of_ble_eq_true rfl), (Nat.le_of_ble_eq_true rfl)⟩ ⟨by show (cn + 5) ≤ 5; omega, by show 6 * (cn + 5) ≤ 6 * 5; omega⟩ ?_
  show LQ X (D1 g X) 6 (cn + 5) (pW g S171) [] 174 [.int r171]
  exact q_iret h0 hE dL_act_174 (by omega) h
theorem w_L_act_140 {g : GC} {X : MX} {r : Int32} {S' : Mem} (h0 : LX RL cL_act 6 rl_act X) (hK : KW g (D1 g X) X) (fu : Nat) (x1 : Int32) (hE : E1 (some .int) r g S' 5 X) : ∀ (cn : Nat), cn + (5) ≤ 5 → ∀ (x2 : Int32) (t0 : Int32) (t1 : Int32) (t2 : Int32) (t3 : Int32) (S : Mem), f_L_act_140 fu x1 x2 t0 t1 t2 t3 S = some (r, S') → LQ X (D1 g X) 6 cn (pW g S) [(1, .int x1), (2, .int x2)] 140 [.int t0, .int t1, .int t2, .int t3, .ref (wA (wC g) 7 0)] := by
  intro cn hc x2 t0 t1 t2 t3 S h
  rw [f_L_act_140] at h
  obtain ⟨r140, h140, h⟩ := b1_some h
  refine q_callS (n := 2) (pc' := 143) vl_406 vl_407 vl_408 vl_27 ⟨by decide +kernel, by decide +kernel, by decide +kernel⟩ [.int t1, .int t0] [.int t2, .int t3, .ref (wA (wC g) 7 0)] h0 hK (stab_T g) (c_L_low g fu t1 t0 S h140) rfl rfl dL_act_140 rfl (Nat.le_of_ble_eq_true rfl) ⟨rfl, rfl, (Nat.le_of_ble_eq_true rfl), (Nat.le_of_ble_eq_true rfl)⟩ ⟨by show cn ≤ 5; omega, by show 6 * cn ≤ 6 * 5; omega⟩ ?_
  show LQ X (D1 g X) 6 cn (pW g S) [(1, .int x1), (2, .int x2)] 143 [.int r140, .int t2, .int t3, .ref (wA (wC g) 7 0)]
  refine l_iload_n (pc' := 144) h0 0 dL_act_143 rfl rfl rfl ?_
  refine l_bipush (pc' := 146) h0 dL_act_144 kb_9 rfl ?_
  refine l_ishr (pc' := 147) h0 dL_act_146 rfl ?_
  refine l_iconst (pc' := 148) h0 dL_act_147 ki_4 rfl ?_
  obtain ⟨r148, h148, h⟩ := b1_some h
  refine q_callS (n := 2) (pc' := 151) vl_406 vl_407 vl_408 vl_27 ⟨by decide +kernel, by decide +kernel, by decide +kernel⟩ [.int (x1 >>> (9 &&& 31)), .int 4] [.int r140, .int t2, .int t3, .ref (wA (wC g) 7 0)] h0 hK (stab_T g) (c_L_low g fu (x1 >>> (9 &&& 31)) 4 S h148) rfl rfl dL_act_148 rfl (Nat.le_of_ble_eq_true rfl) ⟨rfl, rfl, (Nat.le_of_ble_eq_true rfl), (Nat.le_of_ble_eq_true rfl)⟩ ⟨by show cn ≤ 5; omega, by show 6 * cn ≤ 6 * 5; omega⟩ ?_
  show LQ X (D1 g X) 6 cn (pW g S) [(1, .int x1), (2, .int x2)] 151 [.int r148, .int r140, .int t2, .int t3, .ref (wA (wC g) 7 0)]
  refine l_iload_n (pc' := 152) h0 0 dL_act_151 rfl rfl rfl ?_
  refine l_bipush (pc' := 154) h0 dL_act_152 kb_11 rfl ?_
  refine l_ishr (pc' := 155) h0 dL_act_154 rfl ?_
  refine l_iload_n (pc' := 156) h0 1 dL_act_155 rfl rfl rfl ?_
  refine l_if_eq (pt := 164) (pf := 159) h0 dL_act_156 rfl rfl h (fun c156 h => ?_) (fun c156 h => ?_)
  · refine l_bipush (pc' := 166) h0 dL_act_164 kb_11 rfl ?_
    refine l_sub (L' := []) [] rfl ?_
    exact w_L_act_166 h0 hK fu x1 hE cn (by omega) 11 (x1 >>> (11 &&& 31)) r148 r140 t2 t3 S h
  · refine l_bipush (pc' := 161) h0 dL_act_159 kb_13 rfl ?_
    refine l_goto (pc' := 166) h0 dL_act_161 rfl ?_
    refine l_sub (L' := []) [] rfl ?_
    exact w_L_act_166 h0 hK fu x1 hE cn (by omega) 13 (x1 >>> (11 &&& 31)) r148 r140 t2 t3 S h
theorem w_L_act_113 {g : GC} {X : MX} {r : Int32} {S' : Mem} (h0 : LX RL cL_act 6 rl_act X) (hK : KW g (D1 g X) X) (fu : Nat) (x1 : Int32) (hE : E1 (some .int) r g S' 5 X) : ∀ (cn : Nat), cn + (5) ≤ 5 → ∀ (t0 : Int32) (t1 : Int32) (t2 : Int32) (t3 : Int32) (t4 : Int32) (S : Mem), f_L_act_113 fu x1 t0 t1 t2 t3 t4 S = some (r, S') → LQ X (D1 g X) 6 cn (pW g S) [] 113 [.int t0, .int t1, .int t2, .int t3, .int t4, .ref (wA (wC g) 7 0)] := by
  intro cn hc t0 t1 t2 t3 t4 S h
  rw [f_L_act_113] at h
  obtain ⟨r113, S113, h113, h⟩ := b2_some h
  refine q_call1H (n := 6) (pc' := 116) vl_410 vl_411 vl_27 vl_412 ⟨by decide +kernel, by decide +kernel, by decide +kernel⟩ [.ref (wA (wC g) 7 0), .int t4, .int t3, .int t2, .int t1, .int t0] [] h0 hK (stab_T g) (c_L_does g fu t4 t3 t2 t1 t0 S h113) rfl rfl dL_act_113 rfl (Nat.le_of_ble_eq_true rfl) ⟨rfl, rfl, (Nat.le_of_ble_eq_true rfl), (Nat.le_of_ble_eq_true rfl)⟩ ⟨by show (cn + 5) ≤ 5; omega, by show 6 * (cn + 5) ≤ 6 * 5; omega⟩ ?_
  show LQ X (D1 g X) 6 (cn + 5) (pW g S113) [] 116 [.int r113]
  exact q_iret h0 hE dL_act_116 (by omega) h
theorem w_L_act_76 {g : GC} {X : MX} {r : Int32} {S' : Mem} (h0 : LX RL cL_act 6 rl_act X) (hK : KW g (D1 g X) X) (fu : Nat) (x1 : Int32) (hE : E1 (some .int) r g S' 5 X) : ∀ (cn : Nat), cn + (5) ≤ 5 → ∀ (x4 : Int32) (t0 : Int32) (S : Mem), f_L_act_76 fu x1 x4 t0 S = some (r, S') → LQ X (D1 g X) 6 cn (pW g S) [(0, .ref (wA (wC g) 7 0)), (1, .int x1), (4, .int x4)] 76 [.int t0] := by
  intro cn hc x4 t0 S h
  rw [f_L_act_76] at h
  refine l_istore (pc' := 78) (L' := [(5, .int t0), (0, .ref (wA (wC g) 7 0)), (1, .int x1), (4, .int x4)]) h0 dL_act_76 (Nat.le_of_ble_eq_true rfl) rfl rfl ?_
  refine l_aload_n (pc' := 79) h0 1 dL_act_78 rfl rfl rfl ?_
  refine l_iconst (pc' := 80) h0 dL_act_79 ki_0 rfl ?_
  refine l_iload (pc' := 82) h0 3 dL_act_80 rfl rfl ?_
  refine l_iconst (pc' := 83) h0 dL_act_82 ki_1 rfl ?_
  refine l_iload_n (pc' := 84) h0 2 dL_act_83 rfl rfl rfl ?_
  refine l_bipush (pc' := 86) h0 dL_act_84 kb_7 rfl ?_
  refine l_ishr (pc' := 87) h0 dL_act_86 rfl ?_
  refine l_bipush (pc' := 89) h0 dL_act_87 kb_15 rfl ?_
  obtain ⟨r89, h89, h⟩ := b1_some h
  refine q_callS (n := 2) (pc' := 92) vl_406 vl_407 vl_408 vl_27 ⟨by decide +kernel, by decide +kernel, by decide +kernel⟩ [.int (x1 >>> (7 &&& 31)), .int 15] [.int 1, .int x4, .int 0, .ref (wA (wC g) 7 0)] h0 hK (stab_T g) (c_L_low g fu (x1 >>> (7 &&& 31)) 15 S h89) rfl rfl dL_act_89 rfl (Nat.le_of_ble_eq_true rfl) ⟨rfl, rfl, (Nat.le_of_ble_eq_true rfl), (Nat.le_of_ble_eq_true rfl)⟩ ⟨by show cn ≤ 5; omega, by show 6 * cn ≤ 6 * 5; omega⟩ ?_
  show LQ X (D1 g X) 6 cn (pW g S) [(5, .int t0), (0, .ref (wA (wC g) 7 0)), (1, .int x1), (4, .int x4)] 92 [.int r89, .int 1, .int x4, .int 0, .ref (wA (wC g) 7 0)]
  refine l_iadd (pc' := 93) h0 dL_act_92 rfl ?_
  refine l_iload (pc' := 95) h0 0 dL_act_93 rfl rfl ?_
  refine l_iload (pc' := 97) h0 0 dL_act_95 rfl rfl ?_
  refine l_if_ne (pt := 104) (pf := 100) h0 dL_act_97 rfl rfl h (fun c97 h => ?_) (fun c97 h => ?_)
  · refine l_iload_n (pc' := 105) h0 2 dL_act_104 rfl rfl rfl ?_
    refine l_bipush (pc' := 107) h0 dL_act_105 kb_13 rfl ?_
    refine l_ishr (pc' := 108) h0 dL_act_107 rfl ?_
    refine l_bipush (pc' := 110) h0 dL_act_108 kb_16 rfl ?_
    obtain ⟨r110, h110, h⟩ := b1_some h
    refine q_callS (n := 2) (pc' := 113) vl_406 vl_407 vl_408 vl_27 ⟨by decide +kernel, by decide +kernel, by decide +kernel⟩ [.int (x1 >>> (13 &&& 31)), .int 16] [.int t0, .int (1 + r89), .int x4, .int 0, .ref (wA (wC g) 7 0)] h0 hK (stab_T g) (c_L_low g fu (x1 >>> (13 &&& 31)) 16 S h110) rfl rfl dL_act_110 rfl (Nat.le_of_ble_eq_true rfl) ⟨rfl, rfl, (Nat.le_of_ble_eq_true rfl), (Nat.le_of_ble_eq_true rfl)⟩ ⟨by show cn ≤ 5; omega, by show 6 * cn ≤ 6 * 5; omega⟩ ?_
    show LQ X (D1 g X) 6 cn (pW g S) [(5, .int t0), (0, .ref (wA (wC g) 7 0)), (1, .int x1), (4, .int x4)] 113 [.int r110, .int t0, .int (1 + r89), .int x4, .int 0, .ref (wA (wC g) 7 0)]
    refine l_sub (L' := []) [] rfl ?_
    exact w_L_act_113 h0 hK fu x1 hE cn (by omega) r110 t0 (1 + r89) x4 0 S h
  · refine l_iconst (pc' := 101) h0 dL_act_100 ki_0 rfl ?_
    refine l_goto (pc' := 113) h0 dL_act_101 rfl ?_
    refine l_sub (L' := []) [] rfl ?_
    exact w_L_act_113 h0 hK fu x1 hE cn (by omega) 0 t0 (1 + r89) x4 0 S h
theorem w_L_act_41 {g : GC} {X : MX} {r : Int32} {S' : Mem} (h0 : LX RL cL_act 6 rl_act X) (hK : KW g (D1 g X) X) (fu : Nat) (x1 : Int32) (hE : E1 (some .int) r g S' 5 X) : ∀ (cn : Nat), cn + (5) ≤ 5 → ∀ (x2 : Int32) (x3 : Int32) (t0 : Int32) (t1 : Int32) (S : Mem), f_L_act_41 fu x1 x2 x3 t0 t1 S = some (r, S') → LQ X (D1 g X) 6 cn (pW g S) [(0, .ref (wA (wC g) 7 0)), (1, .int x1), (2, .int x2), (3, .int x3)] 41 [.int t0, .int t1] := by
  intro cn hc x2 x3 t0 t1 S h
  rw [f_L_act_41] at h
  obtain ⟨r41, h41, h⟩ := b1_some h
  refine q_callS (n := 2) (pc' := 44) vl_406 vl_407 vl_408 vl_27 ⟨by decide +kernel, by decide +kernel, by decide +kernel⟩ [.int t1, .int t0] [] h0 hK (stab_T g) (c_L_low g fu t1 t0 S h41) rfl rfl dL_act_41 rfl (Nat.le_of_ble_eq_true rfl) ⟨rfl, rfl, (Nat.le_of_ble_eq_true rfl), (Nat.le_of_ble_eq_true rfl)⟩ ⟨by show cn ≤ 5; omega, by show 6 * cn ≤ 6 * 5; omega⟩ ?_
  show LQ X (D1 g X) 6 cn (pW g S) [(0, .ref (wA (wC g) 7 0)), (1, .int x1), (2, .int x2), (3, .int x3)] 44 [.int r41]
  refine l_istore (pc' := 46) (L' := [(4, .int r41), (0, .ref (wA (wC g) 7 0)), (1, .int x1), (2, .int x2), (3, .int x3)]) h0 dL_act_44 (Nat.le_of_ble_eq_true rfl) rfl rfl ?_
  refine l_iload_n (pc' := 47) h0 4 dL_act_46 rfl rfl rfl ?_
  refine l_iconst (pc' := 48) h0 dL_act_47 ki_4 rfl ?_
  refine l_ic_ge (pt := 117) (pf := 51) h0 dL_act_48 rfl rfl h (fun c48 h => ?_) (fun c48 h => ?_)
  · refine l_iload_n (pc' := 118) h0 4 dL_act_117 rfl rfl rfl ?_
    refine l_bipush (pc' := 120) h0 dL_act_118 kb_8 rfl ?_
    refine l_ic_ge (pt := 175) (pf := 123) h0 dL_act_120 rfl rfl h (fun c120 h => ?_) (fun c120 h => ?_)
    · refine l_iload_n (pc' := 176) h0 4 dL_act_175 rfl rfl rfl ?_
      refine l_bipush (pc' := 178) h0 dL_act_176 kb_13 rfl ?_
      refine l_ic_ge (pt := 218) (pf := 181) h0 dL_act_178 rfl rfl h (fun c178 h => ?_) (fun c178 h => ?_)
      · refine l_iload_n (pc' := 219) h0 4 dL_act_218 rfl rfl rfl ?_
        refine l_bipush (pc' := 221) h0 dL_act_219 kb_16 rfl ?_
        refine l_ic_ge (pt := 252) (pf := 224) h0 dL_act_221 rfl rfl h (fun c221 h => ?_) (fun c221 h => ?_)
        · refine l_iload_n (pc' := 253) h0 4 dL_act_252 rfl rfl rfl ?_
          refine l_bipush (pc' := 255) h0 dL_act_253 kb_18 rfl ?_
          refine l_ic_ge (pt := 305) (pf := 258) h0 dL_act_255 rfl rfl h (fun c255 h => ?_) (fun c255 h => ?_)
          · refine l_iload_n (pc' := 306) h0 4 dL_act_305 rfl rfl rfl ?_
            refine l_bipush (pc' := 308) h0 dL_act_306 kb_26 rfl ?_
            refine l_ic_ge (pt := 357) (pf := 311) h0 dL_act_308 rfl rfl h (fun c308 h => ?_) (fun c308 h => ?_)
            · refine l_iload_n (pc' := 358) h0 4 dL_act_357 rfl rfl rfl ?_
              refine l_bipush (pc' := 360) h0 dL_act_358 kb_30 rfl ?_
              refine l_ic_ge (pt := 390) (pf := 363) h0 dL_act_360 rfl rfl h (fun c360 h => ?_) (fun c360 h => ?_)
              · refine l_iload_n (pc' := 391) h0 4 dL_act_390 rfl rfl rfl ?_
                refine l_bipush (pc' := 393) h0 dL_act_391 kb_30 rfl ?_
                refine l_ic_ne (pt := 409) (pf := 396) h0 dL_act_393 rfl rfl h (fun c393 h => ?_) (fun c393 h => ?_)
                · refine l_iload_n (pc' := 410) h0 2 dL_act_409 rfl rfl rfl ?_
                  refine l_bipush (pc' := 412) h0 dL_act_410 kb_8 rfl ?_
                  refine l_ishr (pc' := 413) h0 dL_act_412 rfl ?_
                  refine l_iconst (pc' := 414) h0 dL_act_413 ki_1 rfl ?_
                  refine l_iand (pc' := 415) h0 dL_act_414 rfl ?_
                  refine l_if_ne (pt := 425) (pf := 418) h0 dL_act_415 rfl rfl h (fun c415 h => ?_) (fun c415 h => ?_)
                  · refine l_aload_n (pc' := 426) h0 1 dL_act_425 rfl rfl rfl ?_
                    refine l_bipush (pc' := 428) h0 dL_act_426 kb_8 rfl ?_
                    refine l_iload_n (pc' := 429) h0 3 dL_act_428 rfl rfl rfl ?_
                    refine l_if_eq (pt := 444) (pf := 432) h0 dL_act_429 rfl rfl h (fun c429 h => ?_) (fun c429 h => ?_)
                    · refine l_iconst (pc' := 445) h0 dL_act_444 ki_2 rfl ?_
                      refine l_iload_n (pc' := 446) h0 2 dL_act_445 rfl rfl rfl ?_
                      refine l_bipush (pc' := 448) h0 dL_act_446 kb_9 rfl ?_
                      refine l_ishr (pc' := 449) h0 dL_act_448 rfl ?_
                      refine l_iconst (pc' := 450) h0 dL_act_449 ki_3 rfl ?_
                      obtain ⟨r450, h450, h⟩ := b1_some h
                      refine q_callS (n := 2) (pc' := 453) vl_406 vl_407 vl_408 vl_27 ⟨by decide +kernel, by decide +kernel, by decide +kernel⟩ [.int (x1 >>> (9 &&& 31)), .int 3] [.int 2, .int 8, .ref (wA (wC g) 7 0)] h0 hK (stab_T g) (c_L_low g fu (x1 >>> (9 &&& 31)) 3 S h450) rfl rfl dL_act_450 rfl (Nat.le_of_ble_eq_true rfl) ⟨rfl, rfl, (Nat.le_of_ble_eq_true rfl), (Nat.le_of_ble_eq_true rfl)⟩ ⟨by show cn ≤ 5; omega, by show 6 * cn ≤ 6 * 5; omega⟩ ?_
                      show LQ X (D1 g X) 6 cn (pW g S) [(4, .int r41), (0, .ref (wA (wC g) 7 0)), (1, .int x1), (2, .int x2), (3, .int x3)] 453 [.int r450, .int 2, .int 8, .ref (wA (wC g) 7 0)]
                      refine l_iadd (pc' := 454) h0 dL_act_453 rfl ?_
                      refine l_sub (L' := [(1, .int x1), (2, .int x2)]) [2, 3] rfl ?_
                      exact w_L_act_454 h0 hK fu x1 hE cn (by omega) x2 (2 + r450) 8 S h
                    · refine l_iload_n (pc' := 433) h0 2 dL_act_432 rfl rfl rfl ?_
                      refine l_bipush (pc' := 435) h0 dL_act_433 kb_9 rfl ?_
                      refine l_ishr (pc' := 436) h0 dL_act_435 rfl ?_
                      refine l_bipush (pc' := 438) h0 dL_act_436 kb_8 rfl ?_
                      obtain ⟨r438, h438, h⟩ := b1_some h
                      refine q_callS (n := 2) (pc' := 441) vl_406 vl_407 vl_408 vl_27 ⟨by decide +kernel, by decide +kernel, by decide +kernel⟩ [.int (x1 >>> (9 &&& 31)), .int 8] [.int 8, .ref (wA (wC g) 7 0)] h0 hK (stab_T g) (c_L_low g fu (x1 >>> (9 &&& 31)) 8 S h438) rfl rfl dL_act_438 rfl (Nat.le_of_ble_eq_true rfl) ⟨rfl, rfl, (Nat.le_of_ble_eq_true rfl), (Nat.le_of_ble_eq_true rfl)⟩ ⟨by show cn ≤ 5; omega, by show 6 * cn ≤ 6 * 5; omega⟩ ?_
                      show LQ X (D1 g X) 6 cn (pW g S) [(4, .int r41), (0, .ref (wA (wC g) 7 0)), (1, .int x1), (2, .int x2), (3, .int x3)] 441 [.int r438, .int 8, .ref (wA (wC g) 7 0)]
                      refine l_goto (pc' := 454) h0 dL_act_441 rfl ?_
                      refine l_sub (L' := [(1, .int x1), (2, .int x2)]) [2, 3] rfl ?_
                      exact w_L_act_454 h0 hK fu x1 hE cn (by omega) x2 r438 8 S h
                  · refine l_aload_n (pc' := 419) h0 1 dL_act_418 rfl rfl rfl ?_
                    obtain ⟨r419, h419, h⟩ := b1_some h
                    refine q_callV (n := 0) (pc' := 422) vl_734 vl_735 vl_736 vl_737 vl_28 ⟨by decide +kernel, by decide +kernel, by decide +kernel⟩ [] [] h0 hK (stab_T g) (c_X7_clock g fu S h419) rfl rfl dL_act_419 rfl (Nat.le_of_ble_eq_true rfl) ⟨rfl, rfl, (Nat.le_of_ble_eq_true rfl), (Nat.le_of_ble_eq_true rfl)⟩ ⟨by show cn ≤ 5; omega, by show 6 * cn ≤ 6 * 5; omega⟩ ?_
                    show LQ X (D1 g X) 6 cn (pW g S) [(4, .int r41), (0, .ref (wA (wC g) 7 0)), (1, .int x1), (2, .int x2), (3, .int x3)] 422 [.int r419]
                    refine l_goto (pc' := 487) h0 dL_act_422 rfl ?_
                    refine l_sub (L' := []) [] rfl ?_
                    exact w_L_act_487 h0 hK fu x1 hE cn (by omega) r419 S h
                · refine l_aload_n (pc' := 397) h0 1 dL_act_396 rfl rfl rfl ?_
                  refine l_bipush (pc' := 399) h0 dL_act_397 kb_7 rfl ?_
                  refine l_iconst (pc' := 400) h0 dL_act_399 ki_0 rfl ?_
                  refine l_iconst (pc' := 401) h0 dL_act_400 ki_0 rfl ?_
                  refine l_iconst (pc' := 402) h0 dL_act_401 ki_0 rfl ?_
                  refine l_iconst (pc' := 403) h0 dL_act_402 ki_0 rfl ?_
                  obtain ⟨r403, S403, h403, h⟩ := b2_some h
                  refine q_call1H (n := 6) (pc' := 406) vl_410 vl_411 vl_27 vl_412 ⟨by decide +kernel, by decide +kernel, by decide +kernel⟩ [.ref (wA (wC g) 7 0), .int 7, .int 0, .int 0, .int 0, .int 0] [] h0 hK (stab_T g) (c_L_does g fu 7 0 0 0 0 S h403) rfl rfl dL_act_403 rfl (Nat.le_of_ble_eq_true rfl) ⟨rfl, rfl, (Nat.le_of_ble_eq_true rfl), (Nat.le_of_ble_eq_true rfl)⟩ ⟨by show (cn + 5) ≤ 5; omega, by show 6 * (cn + 5) ≤ 6 * 5; omega⟩ ?_
                  show LQ X (D1 g X) 6 (cn + 5) (pW g S403) [(4, .int r41), (0, .ref (wA (wC g) 7 0)), (1, .int x1), (2, .int x2), (3, .int x3)] 406 [.int r403]
                  refine l_goto (pc' := 487) h0 dL_act_406 rfl ?_
                  refine l_sub (L' := []) [] rfl ?_
                  exact w_L_act_487 h0 hK fu x1 hE (cn + 5) (by omega) r403 S403 h
              · refine l_aload_n (pc' := 364) h0 1 dL_act_363 rfl rfl rfl ?_
                refine l_bipush (pc' := 366) h0 dL_act_364 kb_6 rfl ?_
                refine l_iload (pc' := 368) h0 0 dL_act_366 rfl rfl ?_
                refine l_iload_n (pc' := 369) h0 2 dL_act_368 rfl rfl rfl ?_
                refine l_bipush (pc' := 371) h0 dL_act_369 kb_7 rfl ?_
                refine l_ishr (pc' := 372) h0 dL_act_371 rfl ?_
                refine l_iload_n (pc' := 373) h0 3 dL_act_372 rfl rfl rfl ?_
                refine l_if_eq (pt := 380) (pf := 376) h0 dL_act_373 rfl rfl h (fun c373 h => ?_) (fun c373 h => ?_)
                · refine l_iconst (pc' := 381) h0 dL_act_380 ki_4 rfl ?_
                  refine l_sub (L' := []) [] rfl ?_
                  exact w_L_act_381 h0 hK fu x1 hE cn (by omega) 4 (x1 >>> (7 &&& 31)) r41 6 S h
                · refine l_iconst (pc' := 377) h0 dL_act_376 ki_5 rfl ?_
                  refine l_goto (pc' := 381) h0 dL_act_377 rfl ?_
                  refine l_sub (L' := []) [] rfl ?_
                  exact w_L_act_381 h0 hK fu x1 hE cn (by omega) 5 (x1 >>> (7 &&& 31)) r41 6 S h
            · refine l_aload_n (pc' := 312) h0 1 dL_act_311 rfl rfl rfl ?_
              refine l_iconst (pc' := 313) h0 dL_act_312 ki_5 rfl ?_
              refine l_iload_n (pc' := 314) h0 3 dL_act_313 rfl rfl rfl ?_
              refine l_if_eq (pt := 329) (pf := 317) h0 dL_act_314 rfl rfl h (fun c314 h => ?_) (fun c314 h => ?_)
              · refine l_iconst (pc' := 330) h0 dL_act_329 ki_1 rfl ?_
                refine l_iload_n (pc' := 331) h0 2 dL_act_330 rfl rfl rfl ?_
                refine l_iconst (pc' := 332) h0 dL_act_331 ki_5 rfl ?_
                refine l_ishr (pc' := 333) h0 dL_act_332 rfl ?_
                refine l_iload_n (pc' := 334) h0 4 dL_act_333 rfl rfl rfl ?_
                refine l_bipush (pc' := 336) h0 dL_act_334 kb_20 rfl ?_
                refine l_ic_ge (pt := 344) (pf := 339) h0 dL_act_336 rfl rfl h (fun c336 h => ?_) (fun c336 h => ?_)
                · refine l_bipush (pc' := 346) h0 dL_act_344 kb_15 rfl ?_
                  refine l_sub (L' := []) [] rfl ?_
                  exact w_L_act_346 h0 hK fu x1 hE cn (by omega) 15 (x1 >>> (5 &&& 31)) 1 5 S h
                · refine l_bipush (pc' := 341) h0 dL_act_339 kb_120 rfl ?_
                  refine l_goto (pc' := 346) h0 dL_act_341 rfl ?_
                  refine l_sub (L' := []) [] rfl ?_
                  exact w_L_act_346 h0 hK fu x1 hE cn (by omega) 120 (x1 >>> (5 &&& 31)) 1 5 S h
              · refine l_iload_n (pc' := 318) h0 2 dL_act_317 rfl rfl rfl ?_
                refine l_iconst (pc' := 319) h0 dL_act_318 ki_5 rfl ?_
                refine l_ishr (pc' := 320) h0 dL_act_319 rfl ?_
                refine l_sipush (pc' := 323) h0 dL_act_320 ks_700 rfl ?_
                obtain ⟨r323, h323, h⟩ := b1_some h
                refine q_callS (n := 2) (pc' := 326) vl_406 vl_407 vl_408 vl_27 ⟨by decide +kernel, by decide +kernel, by decide +kernel⟩ [.int (x1 >>> (5 &&& 31)), .int 700] [.int 5, .ref (wA (wC g) 7 0)] h0 hK (stab_T g) (c_L_low g fu (x1 >>> (5 &&& 31)) 700 S h323) rfl rfl dL_act_323 rfl (Nat.le_of_ble_eq_true rfl) ⟨rfl, rfl, (Nat.le_of_ble_eq_true rfl), (Nat.le_of_ble_eq_true rfl)⟩ ⟨by show cn ≤ 5; omega, by show 6 * cn ≤ 6 * 5; omega⟩ ?_
                show LQ X (D1 g X) 6 cn (pW g S) [(4, .int r41), (0, .ref (wA (wC g) 7 0)), (1, .int x1), (2, .int x2), (3, .int x3)] 326 [.int r323, .int 5, .ref (wA (wC g) 7 0)]
                refine l_goto (pc' := 350) h0 dL_act_326 rfl ?_
                refine l_sub (L' := []) [] rfl ?_
                exact w_L_act_350 h0 hK fu x1 hE cn (by omega) r323 5 S h
          · refine l_aload_n (pc' := 259) h0 1 dL_act_258 rfl rfl rfl ?_
            refine l_iconst (pc' := 260) h0 dL_act_259 ki_4 rfl ?_
            refine l_iload (pc' := 262) h0 0 dL_act_260 rfl rfl ?_
            refine l_iload_n (pc' := 263) h0 2 dL_act_262 rfl rfl rfl ?_
            refine l_bipush (pc' := 265) h0 dL_act_263 kb_7 rfl ?_
            refine l_ishr (pc' := 266) h0 dL_act_265 rfl ?_
            refine l_iload_n (pc' := 267) h0 3 dL_act_266 rfl rfl rfl ?_
            refine l_if_eq (pt := 275) (pf := 270) h0 dL_act_267 rfl rfl h (fun c267 h => ?_) (fun c267 h => ?_)
            · refine l_bipush (pc' := 277) h0 dL_act_275 kb_40 rfl ?_
              refine l_sub (L' := [(1, .int x1), (2, .int x2)]) [2, 3] rfl ?_
              exact w_L_act_277 h0 hK fu x1 hE cn (by omega) x2 40 (x1 >>> (7 &&& 31)) r41 4 S h
            · refine l_bipush (pc' := 272) h0 dL_act_270 kb_70 rfl ?_
              refine l_goto (pc' := 277) h0 dL_act_272 rfl ?_
              refine l_sub (L' := [(1, .int x1), (2, .int x2)]) [2, 3] rfl ?_
              exact w_L_act_277 h0 hK fu x1 hE cn (by omega) x2 70 (x1 >>> (7 &&& 31)) r41 4 S h
        · refine l_aload_n (pc' := 225) h0 1 dL_act_224 rfl rfl rfl ?_
          refine l_iconst (pc' := 226) h0 dL_act_225 ki_3 rfl ?_
          refine l_iload (pc' := 228) h0 0 dL_act_226 rfl rfl ?_
          refine l_iload_n (pc' := 229) h0 2 dL_act_228 rfl rfl rfl ?_
          refine l_bipush (pc' := 231) h0 dL_act_229 kb_7 rfl ?_
          refine l_ishr (pc' := 232) h0 dL_act_231 rfl ?_
          refine l_iload_n (pc' := 233) h0 3 dL_act_232 rfl rfl rfl ?_
          refine l_if_eq (pt := 241) (pf := 236) h0 dL_act_233 rfl rfl h (fun c233 h => ?_) (fun c233 h => ?_)
          · refine l_bipush (pc' := 243) h0 dL_act_241 kb_30 rfl ?_
            refine l_sub (L' := []) [] rfl ?_
            exact w_L_act_243 h0 hK fu x1 hE cn (by omega) 30 (x1 >>> (7 &&& 31)) r41 3 S h
          · refine l_bipush (pc' := 238) h0 dL_act_236 kb_95 rfl ?_
            refine l_goto (pc' := 243) h0 dL_act_238 rfl ?_
            refine l_sub (L' := []) [] rfl ?_
            exact w_L_act_243 h0 hK fu x1 hE cn (by omega) 95 (x1 >>> (7 &&& 31)) r41 3 S h
      · refine l_aload_n (pc' := 182) h0 1 dL_act_181 rfl rfl rfl ?_
        refine l_iconst (pc' := 183) h0 dL_act_182 ki_2 rfl ?_
        refine l_iload (pc' := 185) h0 0 dL_act_183 rfl rfl ?_
        refine l_iload_n (pc' := 186) h0 2 dL_act_185 rfl rfl rfl ?_
        refine l_bipush (pc' := 188) h0 dL_act_186 kb_7 rfl ?_
        refine l_ishr (pc' := 189) h0 dL_act_188 rfl ?_
        refine l_iconst (pc' := 190) h0 dL_act_189 ki_4 rfl ?_
        obtain ⟨r190, h190, h⟩ := b1_some h
        refine q_callS (n := 2) (pc' := 193) vl_406 vl_407 vl_408 vl_27 ⟨by decide +kernel, by decide +kernel, by decide +kernel⟩ [.int (x1 >>> (7 &&& 31)), .int 4] [.int r41, .int 2, .ref (wA (wC g) 7 0)] h0 hK (stab_T g) (c_L_low g fu (x1 >>> (7 &&& 31)) 4 S h190) rfl rfl dL_act_190 rfl (Nat.le_of_ble_eq_true rfl) ⟨rfl, rfl, (Nat.le_of_ble_eq_true rfl), (Nat.le_of_ble_eq_true rfl)⟩ ⟨by show cn ≤ 5; omega, by show 6 * cn ≤ 6 * 5; omega⟩ ?_
        show LQ X (D1 g X) 6 cn (pW g S) [(4, .int r41), (0, .ref (wA (wC g) 7 0)), (1, .int x1), (2, .int x2), (3, .int x3)] 193 [.int r190, .int r41, .int 2, .ref (wA (wC g) 7 0)]
        refine l_iload_n (pc' := 194) h0 2 dL_act_193 rfl rfl rfl ?_
        refine l_bipush (pc' := 196) h0 dL_act_194 kb_9 rfl ?_
        refine l_ishr (pc' := 197) h0 dL_act_196 rfl ?_
        refine l_iload_n (pc' := 198) h0 3 dL_act_197 rfl rfl rfl ?_
        refine l_if_eq (pt := 207) (pf := 201) h0 dL_act_198 rfl rfl h (fun c198 h => ?_) (fun c198 h => ?_)
        · refine l_sipush (pc' := 210) h0 dL_act_207 ks_1801 rfl ?_
          refine l_sub (L' := []) [] rfl ?_
          exact w_L_act_210 h0 hK fu x1 hE cn (by omega) 1801 (x1 >>> (9 &&& 31)) r190 r41 2 S h
        · refine l_sipush (pc' := 204) h0 dL_act_201 ks_2000 rfl ?_
          refine l_goto (pc' := 210) h0 dL_act_204 rfl ?_
          refine l_sub (L' := []) [] rfl ?_
          exact w_L_act_210 h0 hK fu x1 hE cn (by omega) 2000 (x1 >>> (9 &&& 31)) r190 r41 2 S h
    · refine l_aload_n (pc' := 124) h0 1 dL_act_123 rfl rfl rfl ?_
      refine l_iconst (pc' := 125) h0 dL_act_124 ki_1 rfl ?_
      refine l_iload (pc' := 127) h0 0 dL_act_125 rfl rfl ?_
      refine l_iload_n (pc' := 128) h0 2 dL_act_127 rfl rfl rfl ?_
      refine l_bipush (pc' := 130) h0 dL_act_128 kb_7 rfl ?_
      refine l_ishr (pc' := 131) h0 dL_act_130 rfl ?_
      refine l_iload_n (pc' := 132) h0 3 dL_act_131 rfl rfl rfl ?_
      refine l_if_eq (pt := 139) (pf := 135) h0 dL_act_132 rfl rfl h (fun c132 h => ?_) (fun c132 h => ?_)
      · refine l_iconst (pc' := 140) h0 dL_act_139 ki_4 rfl ?_
        refine l_sub (L' := [(1, .int x1), (2, .int x2)]) [2, 3] rfl ?_
        exact w_L_act_140 h0 hK fu x1 hE cn (by omega) x2 4 (x1 >>> (7 &&& 31)) r41 1 S h
      · refine l_iconst (pc' := 136) h0 dL_act_135 ki_5 rfl ?_
        refine l_goto (pc' := 140) h0 dL_act_136 rfl ?_
        refine l_sub (L' := [(1, .int x1), (2, .int x2)]) [2, 3] rfl ?_
        exact w_L_act_140 h0 hK fu x1 hE cn (by omega) x2 5 (x1 >>> (7 &&& 31)) r41 1 S h
  · refine l_iload_n (pc' := 52) h0 3 dL_act_51 rfl rfl rfl ?_
    refine l_if_eq (pt := 67) (pf := 55) h0 dL_act_52 rfl rfl h (fun c52 h => ?_) (fun c52 h => ?_)
    · refine l_iload_n (pc' := 68) h0 2 dL_act_67 rfl rfl rfl ?_
      refine l_bipush (pc' := 70) h0 dL_act_68 kb_10 rfl ?_
      refine l_ishr (pc' := 71) h0 dL_act_70 rfl ?_
      refine l_bipush (pc' := 73) h0 dL_act_71 kb_16 rfl ?_
      obtain ⟨r73, h73, h⟩ := b1_some h
      refine q_callS (n := 2) (pc' := 76) vl_406 vl_407 vl_408 vl_27 ⟨by decide +kernel, by decide +kernel, by decide +kernel⟩ [.int (x1 >>> (10 &&& 31)), .int 16] [] h0 hK (stab_T g) (c_L_low g fu (x1 >>> (10 &&& 31)) 16 S h73) rfl rfl dL_act_73 rfl (Nat.le_of_ble_eq_true rfl) ⟨rfl, rfl, (Nat.le_of_ble_eq_true rfl), (Nat.le_of_ble_eq_true rfl)⟩ ⟨by show cn ≤ 5; omega, by show 6 * cn ≤ 6 * 5; omega⟩ ?_
      show LQ X (D1 g X) 6 cn (pW g S) [(4, .int r41), (0, .ref (wA (wC g) 7 0)), (1, .int x1), (2, .int x2), (3, .int x3)] 76 [.int r73]
      refine l_sub (L' := [(0, .ref (wA (wC g) 7 0)), (1, .int x1), (4, .int r41)]) [1, 2, 0] rfl ?_
      exact w_L_act_76 h0 hK fu x1 hE cn (by omega) r41 r73 S h
    · refine l_iload_n (pc' := 56) h0 2 dL_act_55 rfl rfl rfl ?_
      refine l_bipush (pc' := 58) h0 dL_act_56 kb_10 rfl ?_
      refine l_ishr (pc' := 59) h0 dL_act_58 rfl ?_
      refine l_bipush (pc' := 61) h0 dL_act_59 kb_18 rfl ?_
      obtain ⟨r61, h61, h⟩ := b1_some h
      refine q_callS (n := 2) (pc' := 64) vl_406 vl_407 vl_408 vl_27 ⟨by decide +kernel, by decide +kernel, by decide +kernel⟩ [.int (x1 >>> (10 &&& 31)), .int 18] [] h0 hK (stab_T g) (c_L_low g fu (x1 >>> (10 &&& 31)) 18 S h61) rfl rfl dL_act_61 rfl (Nat.le_of_ble_eq_true rfl) ⟨rfl, rfl, (Nat.le_of_ble_eq_true rfl), (Nat.le_of_ble_eq_true rfl)⟩ ⟨by show cn ≤ 5; omega, by show 6 * cn ≤ 6 * 5; omega⟩ ?_
      show LQ X (D1 g X) 6 cn (pW g S) [(4, .int r41), (0, .ref (wA (wC g) 7 0)), (1, .int x1), (2, .int x2), (3, .int x3)] 64 [.int r61]
      refine l_goto (pc' := 76) h0 dL_act_64 rfl ?_
      refine l_sub (L' := [(0, .ref (wA (wC g) 7 0)), (1, .int x1), (4, .int r41)]) [1, 2, 0] rfl ?_
      exact w_L_act_76 h0 hK fu x1 hE cn (by omega) r41 r61 S h
theorem w_L_act_17 {g : GC} {X : MX} {r : Int32} {S' : Mem} (h0 : LX RL cL_act 6 rl_act X) (hK : KW g (D1 g X) X) (fu : Nat) (x1 : Int32) (hE : E1 (some .int) r g S' 5 X) : ∀ (cn : Nat), cn + (5) ≤ 5 → ∀ (t0 : Int32) (S : Mem), f_L_act_17 fu x1 t0 S = some (r, S') → LQ X (D1 g X) 6 cn (pW g S) [(0, .ref (wA (wC g) 7 0)), (1, .int x1)] 17 [.int t0] := by
  intro cn hc t0 S h
  rw [f_L_act_17] at h
  refine l_istore_n (pc' := 18) (L' := [(2, .int t0), (0, .ref (wA (wC g) 7 0)), (1, .int x1)]) h0 dL_act_17 rfl (Nat.le_of_ble_eq_true rfl) rfl rfl ?_
  refine l_iload_n (pc' := 19) h0 2 dL_act_18 rfl rfl rfl ?_
  refine l_bipush (pc' := 21) h0 dL_act_19 kb_32 rfl ?_
  obtain ⟨r21, h21, h⟩ := b1_some h
  refine q_callS (n := 2) (pc' := 24) vl_406 vl_407 vl_408 vl_27 ⟨by decide +kernel, by decide +kernel, by decide +kernel⟩ [.int x1, .int 32] [] h0 hK (stab_T g) (c_L_low g fu x1 32 S h21) rfl rfl dL_act_21 rfl (Nat.le_of_ble_eq_true rfl) ⟨rfl, rfl, (Nat.le_of_ble_eq_true rfl), (Nat.le_of_ble_eq_true rfl)⟩ ⟨by show cn ≤ 5; omega, by show 6 * cn ≤ 6 * 5; omega⟩ ?_
  show LQ X (D1 g X) 6 cn (pW g S) [(2, .int t0), (0, .ref (wA (wC g) 7 0)), (1, .int x1)] 24 [.int r21]
  refine l_istore_n (pc' := 25) (L' := [(3, .int r21), (2, .int t0), (0, .ref (wA (wC g) 7 0)), (1, .int x1)]) h0 dL_act_24 rfl (Nat.le_of_ble_eq_true rfl) rfl rfl ?_
  refine l_iload_n (pc' := 26) h0 3 dL_act_25 rfl rfl rfl ?_
  refine l_iconst (pc' := 27) h0 dL_act_26 ki_4 rfl ?_
  refine l_ishr (pc' := 28) h0 dL_act_27 rfl ?_
  refine l_iload_n (pc' := 29) h0 1 dL_act_28 rfl rfl rfl ?_
  refine l_if_eq (pt := 37) (pf := 32) h0 dL_act_29 rfl rfl h (fun c29 h => ?_) (fun c29 h => ?_)
  · refine l_aload_n (pc' := 38) h0 2 dL_act_37 rfl rfl rfl ?_
    obtain ⟨r38, h38, h⟩ := b1_some h
    refine q_callV (n := 0) (pc' := 41) vl_399 vl_400 vl_401 vl_402 vl_28 ⟨by decide +kernel, by decide +kernel, by decide +kernel⟩ [] [.int (x1 >>> (4 &&& 31))] h0 hK (stab_T g) (c_X7_junctions g fu S h38) rfl rfl dL_act_38 rfl (Nat.le_of_ble_eq_true rfl) ⟨rfl, rfl, (Nat.le_of_ble_eq_true rfl), (Nat.le_of_ble_eq_true rfl)⟩ ⟨by show cn ≤ 5; omega, by show 6 * cn ≤ 6 * 5; omega⟩ ?_
    show LQ X (D1 g X) 6 cn (pW g S) [(3, .int r21), (2, .int t0), (0, .ref (wA (wC g) 7 0)), (1, .int x1)] 41 [.int r38, .int (x1 >>> (4 &&& 31))]
    refine l_sub (L' := [(0, .ref (wA (wC g) 7 0)), (1, .int x1), (2, .int t0), (3, .int r21)]) [2, 3, 1, 0] rfl ?_
    exact w_L_act_41 h0 hK fu x1 hE cn (by omega) t0 r21 r38 (x1 >>> (4 &&& 31)) S h
  · refine l_bipush (pc' := 34) h0 dL_act_32 kb_7 rfl ?_
    refine l_goto (pc' := 41) h0 dL_act_34 rfl ?_
    refine l_sub (L' := [(0, .ref (wA (wC g) 7 0)), (1, .int x1), (2, .int t0), (3, .int r21)]) [2, 3, 1, 0] rfl ?_
    exact w_L_act_41 h0 hK fu x1 hE cn (by omega) t0 r21 7 (x1 >>> (4 &&& 31)) S h
theorem c_L_act (g : GC) (fu : Nat) (x1 : Int32) (S : Mem) {r : Int32} {S' : Mem} (h : f_L_act fu x1 S = some (r, S')) : ct1 yL_act (.code yL_act cL_act 6 (some .int)) rl_act 5 g [.ref (wA (wC g) 7 0), .int x1] S r S' := by
  refine ct1_of (own := RL) (L := [(0, .ref (wA (wC g) 7 0)), (1, .int x1)]) (by decide +kernel) rfl (Nat.le_of_ble_eq_true rfl) rfl (fun X h0 hK hE => ?_)
  have hc : 0 + 5 ≤ 5 := (Nat.le_of_ble_eq_true rfl)
  rw [f_L_act] at h
  refine l_iload_n (pc' := 1) h0 1 dL_act_0 rfl rfl rfl ?_
  refine l_bipush (pc' := 3) h0 dL_act_1 kb_24 rfl ?_
  refine l_ishr (pc' := 4) h0 dL_act_3 rfl ?_
  refine l_bipush (pc' := 6) h0 dL_act_4 kb_8 rfl ?_
  obtain ⟨r6, h6, h⟩ := b1_some h
  refine q_callS (n := 2) (pc' := 9) vl_406 vl_407 vl_408 vl_27 ⟨by decide +kernel, by decide +kernel, by decide +kernel⟩ [.int (x1 >>> (24 &&& 31)), .int 8] [] h0 hK (stab_T g) (c_L_low g fu (x1 >>> (24 &&& 31)) 8 S h6) rfl rfl dL_act_6 rfl (Nat.le_of_ble_eq_true rfl) ⟨rfl, rfl, (Nat.le_of_ble_eq_true rfl), (Nat.le_of_ble_eq_true rfl)⟩ ⟨by show 0 ≤ 5; omega, by show 6 * 0 ≤ 6 * 5; omega⟩ ?_
  show LQ X (D1 g X) 6 0 (pW g S) [(0, .ref (wA (wC g) 7 0)), (1, .int x1)] 9 [.int r6]
  refine l_if_ne (pt := 16) (pf := 12) h0 dL_act_9 rfl rfl h (fun c9 h => ?_) (fun c9 h => ?_)
  · refine l_iconst (pc' := 17) h0 dL_act_16 ki_0 rfl ?_
    exact w_L_act_17 h0 hK fu x1 hE 0 (by omega) 0 S h
  · refine l_iconst (pc' := 13) h0 dL_act_12 ki_1 rfl ?_
    refine l_goto (pc' := 17) h0 dL_act_13 rfl ?_
    exact w_L_act_17 h0 hK fu x1 hE 0 (by omega) 1 S h
theorem w_L_cycle_4 {g : GC} {X : MX} {r : Int32} (h0 : LX RL cL_cycle 4 rl_cycle X) (hK : KW g (D1 g X) X) (fu : Nat) (x1 : Int32) (S : Mem) (hE : E1 (some .int) r g S 39 X) : ∀ (n : Nat) (cn : Nat), cn + (n * 6 + 3) ≤ 39 → ∀ (x2 : Int32) (x3 : Int32), f_L_cycle_4 fu x1 S n x2 x3 = some r → LQ X (D1 g X) 4 cn (pW g S) [(0, .ref (wA (wC g) 7 0)), (1, .int x1), (2, .int x2), (3, .int x3)] 4 [] := by
  intro n
  induction n with
  | zero =>
    intro cn hc x2 x3 h
    exact nomatch (show none = _ from h)
  | succ n ih =>
    intro cn hc x2 x3 h
    rw [f_L_cycle_4] at h
    refine l_aload_n (pc' := 5) h0 0 dL_cycle_4 rfl rfl rfl ?_
    refine l_iload_n (pc' := 6) h0 1 dL_cycle_5 rfl rfl rfl ?_
    refine l_iload_n (pc' := 7) h0 3 dL_cycle_6 rfl rfl rfl ?_
    obtain ⟨r7, h7, h⟩ := b1_some h
    refine q_call1H (n := 3) (pc' := 10) vl_785 vl_786 vl_27 vl_787 ⟨by decide +kernel, by decide +kernel, by decide +kernel⟩ [.ref (wA (wC g) 7 0), .int x1, .int x3] [] h0 hK (stab_T g) (c_L_green g fu x1 x3 S h7) rfl rfl dL_cycle_7 rfl (Nat.le_of_ble_eq_true rfl) ⟨rfl, rfl, (Nat.le_of_ble_eq_true rfl), (Nat.le_of_ble_eq_true rfl)⟩ ⟨by show (cn + 3) ≤ 39; omega, by show 6 * (cn + 3) ≤ 6 * 39; omega⟩ ?_
    show LQ X (D1 g X) 4 (cn + 3) (pW g S) [(0, .ref (wA (wC g) 7 0)), (1, .int x1), (2, .int x2), (3, .int x3)] 10 [.int r7]
    refine l_if_lt (pt := 35) (pf := 13) h0 dL_cycle_10 rfl rfl h (fun c10 h => ?_) (fun c10 h => ?_)
    · refine l_iload_n (pc' := 36) h0 2 dL_cycle_35 rfl rfl rfl ?_
      exact q_iretR h0 hE dL_cycle_36 (by omega) h
    · refine l_iload_n (pc' := 14) h0 2 dL_cycle_13 rfl rfl rfl ?_
      refine l_aload_n (pc' := 15) h0 0 dL_cycle_14 rfl rfl rfl ?_
      refine l_iload_n (pc' := 16) h0 1 dL_cycle_15 rfl rfl rfl ?_
      refine l_iload_n (pc' := 17) h0 3 dL_cycle_16 rfl rfl rfl ?_
      obtain ⟨r17, h17, h⟩ := b1_some h
      refine q_call1H (n := 3) (pc' := 20) vl_785 vl_786 vl_27 vl_787 ⟨by decide +kernel, by decide +kernel, by decide +kernel⟩ [.ref (wA (wC g) 7 0), .int x1, .int x3] [.int x2] h0 hK (stab_T g) (c_L_green g fu x1 x3 S h17) rfl rfl dL_cycle_17 rfl (Nat.le_of_ble_eq_true rfl) ⟨rfl, rfl, (Nat.le_of_ble_eq_true rfl), (Nat.le_of_ble_eq_true rfl)⟩ ⟨by show ((cn + 3) + 3) ≤ 39; omega, by show 6 * ((cn + 3) + 3) ≤ 6 * 39; omega⟩ ?_
      show LQ X (D1 g X) 4 ((cn + 3) + 3) (pW g S) [(0, .ref (wA (wC g) 7 0)), (1, .int x1), (2, .int x2), (3, .int x3)] 20 [.int r17, .int x2]
      refine l_aload_n (pc' := 21) h0 0 dL_cycle_20 rfl rfl rfl ?_
      refine l_iload_n (pc' := 22) h0 1 dL_cycle_21 rfl rfl rfl ?_
      refine l_iload_n (pc' := 23) h0 3 dL_cycle_22 rfl rfl rfl ?_
      obtain ⟨r23, h23, h⟩ := b1_some h
      refine q_callV (n := 2) (pc' := 26) vl_797 vl_798 vl_799 vl_800 vl_28 ⟨by decide +kernel, by decide +kernel, by decide +kernel⟩ [.int x1, .int x3] [.int r17, .int x2] h0 hK (stab_T g) (c_X7_clearing g fu x1 x3 S h23) rfl rfl dL_cycle_23 rfl (Nat.le_of_ble_eq_true rfl) ⟨rfl, rfl, (Nat.le_of_ble_eq_true rfl), (Nat.le_of_ble_eq_true rfl)⟩ ⟨by show ((cn + 3) + 3) ≤ 39; omega, by show 6 * ((cn + 3) + 3) ≤ 6 * 39; omega⟩ ?_
      show LQ X (D1 g X) 4 ((cn + 3) + 3) (pW g S) [(0, .ref (wA (wC g) 7 0)), (1, .int x1), (2, .int x2), (3, .int x3)] 26 [.int r23, .int r17, .int x2]
      refine l_iadd (pc' := 27) h0 dL_cycle_26 rfl ?_
      refine l_iadd (pc' := 28) h0 dL_cycle_27 rfl ?_
      refine l_istore_n (pc' := 29) (L' := [(2, .int (x2 + (r17 + r23))), (0, .ref (wA (wC g) 7 0)), (1, .int x1), (3, .int x3)]) h0 dL_cycle_28 rfl (Nat.le_of_ble_eq_true rfl) rfl rfl ?_
      refine l_iinc (pc' := 32) (L' := [(3, .int (x3 + 1)), (2, .int (x2 + (r17 + r23))), (0, .ref (wA (wC g) 7 0)), (1, .int x1)]) h0 3 dL_cycle_29 rfl ki_1 (Nat.le_of_ble_eq_true rfl) rfl rfl ?_
      refine l_goto (pc' := 4) h0 dL_cycle_32 rfl ?_
      refine l_sub (L' := [(0, .ref (wA (wC g) 7 0)), (1, .int x1), (2, .int (x2 + (r17 + r23))), (3, .int (x3 + 1))]) [2, 3, 1, 0] rfl ?_
      exact ih ((cn + 3) + 3) (by omega) (x2 + (r17 + r23)) (x3 + 1) h
theorem c_L_cycle (g : GC) (fu : Nat) (x1 : Int32) (S : Mem) {r : Int32} (h : f_L_cycle fu x1 S = some r) : ct1 yL_cycle (.code yL_cycle cL_cycle 4 (some .int)) rl_cycle 39 g [.ref (wA (wC g) 7 0), .int x1] S r S := by
  refine ct1_of (own := RL) (L := [(0, .ref (wA (wC g) 7 0)), (1, .int x1)]) (by decide +kernel) rfl (Nat.le_of_ble_eq_true rfl) rfl (fun X h0 hK hE => ?_)
  have hc : 0 + 39 ≤ 39 := (Nat.le_of_ble_eq_true rfl)
  rw [f_L_cycle] at h
  refine l_iconst (pc' := 1) h0 dL_cycle_0 ki_0 rfl ?_
  refine l_istore_n (pc' := 2) (L' := [(2, .int 0), (0, .ref (wA (wC g) 7 0)), (1, .int x1)]) h0 dL_cycle_1 rfl (Nat.le_of_ble_eq_true rfl) rfl rfl ?_
  refine l_iconst (pc' := 3) h0 dL_cycle_2 ki_0 rfl ?_
  refine l_istore_n (pc' := 4) (L' := [(3, .int 0), (2, .int 0), (0, .ref (wA (wC g) 7 0)), (1, .int x1)]) h0 dL_cycle_3 rfl (Nat.le_of_ble_eq_true rfl) rfl rfl ?_
  refine l_sub (L' := [(0, .ref (wA (wC g) 7 0)), (1, .int x1), (2, .int 0), (3, .int 0)]) [2, 3, 1, 0] rfl ?_
  exact w_L_cycle_4 h0 hK fu x1 S hE 6 0 (by omega) 0 0 h
