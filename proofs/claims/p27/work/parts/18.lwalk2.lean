theorem w_L_arePlansSo_416 {g : GC} {X : MX} {r : Int32} {S' : Mem} (h0 : LX RL cL_arePlansSo 10 rl_arePlansSo X) (hK : KW g (D1 g X) X) (fu : Nat) (x1 : Int32) (hE : E1 (some .boolean) r g S' 548 X) : ∀ (cn : Nat), cn + (0) ≤ 548 → ∀ (t0 : Int32) (S : Mem), f_L_arePlansSo_416 fu x1 t0 S = some (r, S') → LQ X (D1 g X) 10 cn (pW g S) [] 416 [.int t0] := by
  intro cn hc t0 S h
  rw [f_L_arePlansSo_416] at h
  exact q_zret h0 hE dL_arePlansSo_416 (by omega) h
theorem w_L_arePlansSo_415 {g : GC} {X : MX} {r : Int32} {S' : Mem} (h0 : LX RL cL_arePlansSo 10 rl_arePlansSo X) (hK : KW g (D1 g X) X) (fu : Nat) (x1 : Int32) (hE : E1 (some .boolean) r g S' 548 X) : ∀ (cn : Nat), cn + (0) ≤ 548 → ∀ (S : Mem), f_L_arePlansSo_415 fu x1 S = some (r, S') → LQ X (D1 g X) 10 cn (pW g S) [] 415 [] := by
  intro cn hc S h
  rw [f_L_arePlansSo_415] at h
  refine l_iconst (pc' := 416) h0 dL_arePlansSo_415 ki_0 rfl ?_
  exact w_L_arePlansSo_416 h0 hK fu x1 hE cn (by omega) 0 S h
theorem w_L_arePlansSo_408 {g : GC} {X : MX} {r : Int32} {S' : Mem} (h0 : LX RL cL_arePlansSo 10 rl_arePlansSo X) (hK : KW g (D1 g X) X) (fu : Nat) (x1 : Int32) (hE : E1 (some .boolean) r g S' 548 X) : ∀ (cn : Nat), cn + (0) ≤ 548 → ∀ (t0 : Int32) (t1 : Int32) (S : Mem), f_L_arePlansSo_408 fu x1 t0 t1 S = some (r, S') → LQ X (D1 g X) 10 cn (pW g S) [] 408 [.int t0, .int t1] := by
  intro cn hc t0 t1 S h
  rw [f_L_arePlansSo_408] at h
  refine l_ic_ne (pt := 415) (pf := 411) h0 dL_arePlansSo_408 rfl rfl h (fun c408 h => ?_) (fun c408 h => ?_)
  · exact w_L_arePlansSo_415 h0 hK fu x1 hE cn (by omega) S h
  · refine l_iconst (pc' := 412) h0 dL_arePlansSo_411 ki_1 rfl ?_
    refine l_goto (pc' := 416) h0 dL_arePlansSo_412 rfl ?_
    exact w_L_arePlansSo_416 h0 hK fu x1 hE cn (by omega) 1 S h
theorem w_L_arePlansSo_398 {g : GC} {X : MX} {r : Int32} {S' : Mem} (h0 : LX RL cL_arePlansSo 10 rl_arePlansSo X) (hK : KW g (D1 g X) X) (fu : Nat) (x1 : Int32) (hE : E1 (some .boolean) r g S' 548 X) : ∀ (cn : Nat), cn + (0) ≤ 548 → ∀ (x5 : Int32) (t0 : Int32) (S : Mem), f_L_arePlansSo_398 fu x1 x5 t0 S = some (r, S') → LQ X (D1 g X) 10 cn (pW g S) [(5, .int x5)] 398 [.int t0] := by
  intro cn hc x5 t0 S h
  rw [f_L_arePlansSo_398] at h
  refine l_iload (pc' := 400) h0 0 dL_arePlansSo_398 rfl rfl ?_
  refine l_if_ge (pt := 407) (pf := 403) h0 dL_arePlansSo_400 rfl rfl h (fun c400 h => ?_) (fun c400 h => ?_)
  · refine l_iconst (pc' := 408) h0 dL_arePlansSo_407 ki_0 rfl ?_
    refine l_sub (L' := []) [] rfl ?_
    exact w_L_arePlansSo_408 h0 hK fu x1 hE cn (by omega) 0 t0 S h
  · refine l_iconst (pc' := 404) h0 dL_arePlansSo_403 ki_1 rfl ?_
    refine l_goto (pc' := 408) h0 dL_arePlansSo_404 rfl ?_
    refine l_sub (L' := []) [] rfl ?_
    exact w_L_arePlansSo_408 h0 hK fu x1 hE cn (by omega) 1 t0 S h
theorem w_L_arePlansSo_388 {g : GC} {X : MX} {r : Int32} {S' : Mem} (h0 : LX RL cL_arePlansSo 10 rl_arePlansSo X) (hK : KW g (D1 g X) X) (fu : Nat) (x1 : Int32) (hE : E1 (some .boolean) r g S' 548 X) : ∀ (cn : Nat), cn + (0) ≤ 548 → ∀ (x4 : Int32) (x5 : Int32) (S : Mem), f_L_arePlansSo_388 fu x1 x4 x5 S = some (r, S') → LQ X (D1 g X) 10 cn (pW g S) [(4, .int x4), (5, .int x5)] 388 [] := by
  intro cn hc x4 x5 S h
  rw [f_L_arePlansSo_388] at h
  refine l_iload (pc' := 390) h0 0 dL_arePlansSo_388 rfl rfl ?_
  refine l_if_ge (pt := 397) (pf := 393) h0 dL_arePlansSo_390 rfl rfl h (fun c390 h => ?_) (fun c390 h => ?_)
  · refine l_iconst (pc' := 398) h0 dL_arePlansSo_397 ki_0 rfl ?_
    refine l_sub (L' := [(5, .int x5)]) [1] rfl ?_
    exact w_L_arePlansSo_398 h0 hK fu x1 hE cn (by omega) x5 0 S h
  · refine l_iconst (pc' := 394) h0 dL_arePlansSo_393 ki_1 rfl ?_
    refine l_goto (pc' := 398) h0 dL_arePlansSo_394 rfl ?_
    refine l_sub (L' := [(5, .int x5)]) [1] rfl ?_
    exact w_L_arePlansSo_398 h0 hK fu x1 hE cn (by omega) x5 1 S h
theorem w_L_arePlansSo_348 {g : GC} {X : MX} {r : Int32} {S' : Mem} (h0 : LX RL cL_arePlansSo 10 rl_arePlansSo X) (hK : KW g (D1 g X) X) (fu : Nat) (x1 : Int32) (hE : E1 (some .boolean) r g S' 548 X) : ∀ (cn : Nat), cn + (2) ≤ 548 → ∀ (x2 : Int32) (x3 : Int32) (S : Mem), f_L_arePlansSo_348 fu x1 x2 x3 S = some (r, S') → LQ X (D1 g X) 10 cn (pW g S) [(0, .ref (wA (wC g) 7 0)), (2, .int x2), (3, .int x3)] 348 [] := by
  intro cn hc x2 x3 S h
  rw [f_L_arePlansSo_348] at h
  refine l_aload_n (pc' := 349) h0 0 dL_arePlansSo_348 rfl rfl rfl ?_
  refine l_iconst (pc' := 350) h0 dL_arePlansSo_349 ki_1 rfl ?_
  obtain ⟨r350, S350, h350, h⟩ := b2_some h
  refine q_call1H (n := 2) (pc' := 353) vl_749 vl_750 vl_27 vl_751 ⟨by decide +kernel, by decide +kernel, by decide +kernel⟩ [.ref (wA (wC g) 7 0), .int 1] [] h0 hK (stab_T g) (c_L_band g fu 1 S h350) rfl rfl dL_arePlansSo_350 rfl (Nat.le_of_ble_eq_true rfl) ⟨rfl, rfl, (Nat.le_of_ble_eq_true rfl), (Nat.le_of_ble_eq_true rfl)⟩ ⟨by show (cn + 1) ≤ 548; omega, by show 6 * (cn + 1) ≤ 6 * 548; omega⟩ ?_
  show LQ X (D1 g X) 10 (cn + 1) (pW g S350) [(0, .ref (wA (wC g) 7 0)), (2, .int x2), (3, .int x3)] 353 [.int r350]
  refine l_istore (pc' := 355) (L' := [(4, .int r350), (0, .ref (wA (wC g) 7 0)), (2, .int x2), (3, .int x3)]) h0 dL_arePlansSo_353 (Nat.le_of_ble_eq_true rfl) rfl rfl ?_
  refine l_aload_n (pc' := 356) h0 1 dL_arePlansSo_355 rfl rfl rfl ?_
  refine l_iconst (pc' := 357) h0 dL_arePlansSo_356 ki_0 rfl ?_
  obtain ⟨r357, S357, h357, h⟩ := b2_some h
  refine q_call1H (n := 2) (pc' := 360) vl_749 vl_750 vl_27 vl_751 ⟨by decide +kernel, by decide +kernel, by decide +kernel⟩ [.ref (wA (wC g) 7 0), .int 0] [] h0 hK (stab_T g) (c_L_band g fu 0 S350 h357) rfl rfl dL_arePlansSo_357 rfl (Nat.le_of_ble_eq_true rfl) ⟨rfl, rfl, (Nat.le_of_ble_eq_true rfl), (Nat.le_of_ble_eq_true rfl)⟩ ⟨by show ((cn + 1) + 1) ≤ 548; omega, by show 6 * ((cn + 1) + 1) ≤ 6 * 548; omega⟩ ?_
  show LQ X (D1 g X) 10 ((cn + 1) + 1) (pW g S357) [(4, .int r350), (0, .ref (wA (wC g) 7 0)), (2, .int x2), (3, .int x3)] 360 [.int r357]
  refine l_istore (pc' := 362) (L' := [(5, .int r357), (4, .int r350), (0, .ref (wA (wC g) 7 0)), (2, .int x2), (3, .int x3)]) h0 dL_arePlansSo_360 (Nat.le_of_ble_eq_true rfl) rfl rfl ?_
  refine l_iload_n (pc' := 363) h0 4 dL_arePlansSo_362 rfl rfl rfl ?_
  refine l_if_eq (pt := 415) (pf := 366) h0 dL_arePlansSo_363 rfl rfl h (fun c363 h => ?_) (fun c363 h => ?_)
  · refine l_sub (L' := []) [] rfl ?_
    exact w_L_arePlansSo_415 h0 hK fu x1 hE ((cn + 1) + 1) (by omega) S357 h
  · refine l_iload (pc' := 368) h0 1 dL_arePlansSo_366 rfl rfl ?_
    refine l_if_lt (pt := 388) (pf := 371) h0 dL_arePlansSo_368 rfl rfl h (fun c368 h => ?_) (fun c368 h => ?_)
    · refine l_sub (L' := [(4, .int r350), (5, .int r357)]) [1, 0] rfl ?_
      exact w_L_arePlansSo_388 h0 hK fu x1 hE ((cn + 1) + 1) (by omega) r350 r357 S357 h
    · refine l_iload (pc' := 373) h0 1 dL_arePlansSo_371 rfl rfl ?_
      refine l_iload_n (pc' := 374) h0 3 dL_arePlansSo_373 rfl rfl rfl ?_
      refine l_ic_gt (pt := 415) (pf := 377) h0 dL_arePlansSo_374 rfl rfl h (fun c374 h => ?_) (fun c374 h => ?_)
      · refine l_sub (L' := []) [] rfl ?_
        exact w_L_arePlansSo_415 h0 hK fu x1 hE ((cn + 1) + 1) (by omega) S357 h
      · refine l_iload (pc' := 379) h0 0 dL_arePlansSo_377 rfl rfl ?_
        refine l_if_lt (pt := 415) (pf := 382) h0 dL_arePlansSo_379 rfl rfl h (fun c379 h => ?_) (fun c379 h => ?_)
        · refine l_sub (L' := []) [] rfl ?_
          exact w_L_arePlansSo_415 h0 hK fu x1 hE ((cn + 1) + 1) (by omega) S357 h
        · refine l_iload (pc' := 384) h0 0 dL_arePlansSo_382 rfl rfl ?_
          refine l_iload_n (pc' := 385) h0 3 dL_arePlansSo_384 rfl rfl rfl ?_
          refine l_ic_gt (pt := 415) (pf := 388) h0 dL_arePlansSo_385 rfl rfl h (fun c385 h => ?_) (fun c385 h => ?_)
          · refine l_sub (L' := []) [] rfl ?_
            exact w_L_arePlansSo_415 h0 hK fu x1 hE ((cn + 1) + 1) (by omega) S357 h
          · refine l_sub (L' := [(4, .int r350), (5, .int r357)]) [1, 0] rfl ?_
            exact w_L_arePlansSo_388 h0 hK fu x1 hE ((cn + 1) + 1) (by omega) r350 r357 S357 h
theorem w_L_arePlansSo_342 {g : GC} {X : MX} {r : Int32} {S' : Mem} (h0 : LX RL cL_arePlansSo 10 rl_arePlansSo X) (hK : KW g (D1 g X) X) (fu : Nat) (x1 : Int32) (hE : E1 (some .boolean) r g S' 548 X) (K7 : Int32 → Int32 → Int32 → Mem → Option (Int32 × Mem)) (cK : Nat) (kK7 : ∀ (cn : Nat), cn + cK ≤ 548 → ∀ (x2 : Int32) (x3 : Int32) (x4 : Int32) (S : Mem), K7 x2 x3 x4 S = some (r, S') → LQ X (D1 g X) 10 cn (pW g S) [(0, .ref (wA (wC g) 7 0)), (1, .int x1), (2, .int x2), (3, .int x3), (4, .int x4)] 7 []) : ∀ (cn : Nat), cn + (0 + cK) ≤ 548 → ∀ (x2 : Int32) (x3 : Int32) (x4 : Int32) (S : Mem), f_L_arePlansSo_342 fu K7 x1 x2 x3 x4 S = some (r, S') → LQ X (D1 g X) 10 cn (pW g S) [(0, .ref (wA (wC g) 7 0)), (1, .int x1), (2, .int x2), (3, .int x3), (4, .int x4)] 342 [] := by
  intro cn hc x2 x3 x4 S h
  rw [f_L_arePlansSo_342] at h
  refine l_iinc (pc' := 345) (L' := [(4, .int (x4 + 1)), (0, .ref (wA (wC g) 7 0)), (1, .int x1), (2, .int x2), (3, .int x3)]) h0 4 dL_arePlansSo_342 rfl ki_1 (Nat.le_of_ble_eq_true rfl) rfl rfl ?_
  refine l_goto (pc' := 7) h0 dL_arePlansSo_345 rfl ?_
  refine l_sub (L' := [(0, .ref (wA (wC g) 7 0)), (1, .int x1), (2, .int x2), (3, .int x3), (4, .int (x4 + 1))]) [1, 2, 3, 4, 0] rfl ?_
  exact kK7 cn (by omega) x2 x3 (x4 + 1) S h
theorem w_L_arePlansSo_341 {g : GC} {X : MX} {r : Int32} {S' : Mem} (h0 : LX RL cL_arePlansSo 10 rl_arePlansSo X) (hK : KW g (D1 g X) X) (fu : Nat) (x1 : Int32) (hE : E1 (some .boolean) r g S' 548 X) (K7 : Int32 → Int32 → Int32 → Mem → Option (Int32 × Mem)) (cK : Nat) (kK7 : ∀ (cn : Nat), cn + cK ≤ 548 → ∀ (x2 : Int32) (x3 : Int32) (x4 : Int32) (S : Mem), K7 x2 x3 x4 S = some (r, S') → LQ X (D1 g X) 10 cn (pW g S) [(0, .ref (wA (wC g) 7 0)), (1, .int x1), (2, .int x2), (3, .int x3), (4, .int x4)] 7 []) : ∀ (cn : Nat), cn + (0 + cK) ≤ 548 → ∀ (x2 : Int32) (x4 : Int32) (t0 : Int32) (S : Mem), f_L_arePlansSo_341 fu K7 x1 x2 x4 t0 S = some (r, S') → LQ X (D1 g X) 10 cn (pW g S) [(0, .ref (wA (wC g) 7 0)), (1, .int x1), (2, .int x2), (4, .int x4)] 341 [.int t0] := by
  intro cn hc x2 x4 t0 S h
  rw [f_L_arePlansSo_341] at h
  refine l_istore_n (pc' := 342) (L' := [(3, .int t0), (0, .ref (wA (wC g) 7 0)), (1, .int x1), (2, .int x2), (4, .int x4)]) h0 dL_arePlansSo_341 rfl (Nat.le_of_ble_eq_true rfl) rfl rfl ?_
  refine l_sub (L' := [(0, .ref (wA (wC g) 7 0)), (1, .int x1), (2, .int x2), (3, .int t0), (4, .int x4)]) [1, 2, 3, 0, 4] rfl ?_
  exact w_L_arePlansSo_342 h0 hK fu x1 hE K7 cK kK7 cn (by omega) x2 t0 x4 S h
theorem w_L_arePlansSo_340 {g : GC} {X : MX} {r : Int32} {S' : Mem} (h0 : LX RL cL_arePlansSo 10 rl_arePlansSo X) (hK : KW g (D1 g X) X) (fu : Nat) (x1 : Int32) (hE : E1 (some .boolean) r g S' 548 X) (K7 : Int32 → Int32 → Int32 → Mem → Option (Int32 × Mem)) (cK : Nat) (kK7 : ∀ (cn : Nat), cn + cK ≤ 548 → ∀ (x2 : Int32) (x3 : Int32) (x4 : Int32) (S : Mem), K7 x2 x3 x4 S = some (r, S') → LQ X (D1 g X) 10 cn (pW g S) [(0, .ref (wA (wC g) 7 0)), (1, .int x1), (2, .int x2), (3, .int x3), (4, .int x4)] 7 []) : ∀ (cn : Nat), cn + (0 + cK) ≤ 548 → ∀ (x2 : Int32) (x4 : Int32) (S : Mem), f_L_arePlansSo_340 fu K7 x1 x2 x4 S = some (r, S') → LQ X (D1 g X) 10 cn (pW g S) [(0, .ref (wA (wC g) 7 0)), (1, .int x1), (2, .int x2), (4, .int x4)] 340 [] := by
  intro cn hc x2 x4 S h
  rw [f_L_arePlansSo_340] at h
  refine l_iconst (pc' := 341) h0 dL_arePlansSo_340 ki_0 rfl ?_
  exact w_L_arePlansSo_341 h0 hK fu x1 hE K7 cK kK7 cn (by omega) x2 x4 0 S h
theorem w_L_arePlansSo_295 {g : GC} {X : MX} {r : Int32} {S' : Mem} (h0 : LX RL cL_arePlansSo 10 rl_arePlansSo X) (hK : KW g (D1 g X) X) (fu : Nat) (x1 : Int32) (hE : E1 (some .boolean) r g S' 548 X) (K250 : Int32 → Int32 → Int32 → Int32 → Int32 → Int32 → Int32 → Mem → Option (Int32 × Mem)) (cK : Nat) (kK250 : ∀ (cn : Nat), cn + cK ≤ 548 → ∀ (x2 : Int32) (x3 : Int32) (x4 : Int32) (x5 : Int32) (x6 : Int32) (x7 : Int32) (x8 : Int32) (S : Mem), K250 x2 x3 x4 x5 x6 x7 x8 S = some (r, S') → LQ X (D1 g X) 10 cn (pW g S) [(0, .ref (wA (wC g) 7 0)), (1, .int x1), (2, .int x2), (3, .int x3), (4, .int x4), (5, .int x5), (6, .int x6), (7, .int x7), (8, .int x8)] 250 []) : ∀ (cn : Nat), cn + (0 + cK) ≤ 548 → ∀ (x2 : Int32) (x4 : Int32) (x5 : Int32) (x6 : Int32) (x7 : Int32) (x8 : Int32) (t0 : Int32) (S : Mem), f_L_arePlansSo_295 fu K250 x1 x2 x4 x5 x6 x7 x8 t0 S = some (r, S') → LQ X (D1 g X) 10 cn (pW g S) [(0, .ref (wA (wC g) 7 0)), (1, .int x1), (2, .int x2), (4, .int x4), (5, .int x5), (6, .int x6), (7, .int x7), (8, .int x8)] 295 [.int t0] := by
  intro cn hc x2 x4 x5 x6 x7 x8 t0 S h
  rw [f_L_arePlansSo_295] at h
  refine l_istore_n (pc' := 296) (L' := [(3, .int t0), (0, .ref (wA (wC g) 7 0)), (1, .int x1), (2, .int x2), (4, .int x4), (5, .int x5), (6, .int x6), (7, .int x7), (8, .int x8)]) h0 dL_arePlansSo_295 rfl (Nat.le_of_ble_eq_true rfl) rfl rfl ?_
  refine l_iinc (pc' := 299) (L' := [(8, .int (x8 + 1)), (3, .int t0), (0, .ref (wA (wC g) 7 0)), (1, .int x1), (2, .int x2), (4, .int x4), (5, .int x5), (6, .int x6), (7, .int x7)]) h0 8 dL_arePlansSo_296 rfl ki_1 (Nat.le_of_ble_eq_true rfl) rfl rfl ?_
  refine l_goto (pc' := 250) h0 dL_arePlansSo_299 rfl ?_
  refine l_sub (L' := [(0, .ref (wA (wC g) 7 0)), (1, .int x1), (2, .int x2), (3, .int t0), (4, .int x4), (5, .int x5), (6, .int x6), (7, .int x7), (8, .int (x8 + 1))]) [2, 3, 4, 1, 5, 6, 7, 8, 0] rfl ?_
  exact kK250 cn (by omega) x2 t0 x4 x5 x6 x7 (x8 + 1) S h
theorem w_L_arePlansSo_294 {g : GC} {X : MX} {r : Int32} {S' : Mem} (h0 : LX RL cL_arePlansSo 10 rl_arePlansSo X) (hK : KW g (D1 g X) X) (fu : Nat) (x1 : Int32) (hE : E1 (some .boolean) r g S' 548 X) (K250 : Int32 → Int32 → Int32 → Int32 → Int32 → Int32 → Int32 → Mem → Option (Int32 × Mem)) (cK : Nat) (kK250 : ∀ (cn : Nat), cn + cK ≤ 548 → ∀ (x2 : Int32) (x3 : Int32) (x4 : Int32) (x5 : Int32) (x6 : Int32) (x7 : Int32) (x8 : Int32) (S : Mem), K250 x2 x3 x4 x5 x6 x7 x8 S = some (r, S') → LQ X (D1 g X) 10 cn (pW g S) [(0, .ref (wA (wC g) 7 0)), (1, .int x1), (2, .int x2), (3, .int x3), (4, .int x4), (5, .int x5), (6, .int x6), (7, .int x7), (8, .int x8)] 250 []) : ∀ (cn : Nat), cn + (0 + cK) ≤ 548 → ∀ (x2 : Int32) (x4 : Int32) (x5 : Int32) (x6 : Int32) (x7 : Int32) (x8 : Int32) (S : Mem), f_L_arePlansSo_294 fu K250 x1 x2 x4 x5 x6 x7 x8 S = some (r, S') → LQ X (D1 g X) 10 cn (pW g S) [(0, .ref (wA (wC g) 7 0)), (1, .int x1), (2, .int x2), (4, .int x4), (5, .int x5), (6, .int x6), (7, .int x7), (8, .int x8)] 294 [] := by
  intro cn hc x2 x4 x5 x6 x7 x8 S h
  rw [f_L_arePlansSo_294] at h
  refine l_iconst (pc' := 295) h0 dL_arePlansSo_294 ki_0 rfl ?_
  exact w_L_arePlansSo_295 h0 hK fu x1 hE K250 cK kK250 cn (by omega) x2 x4 x5 x6 x7 x8 0 S h
theorem w_L_arePlansSo_250 {g : GC} {X : MX} {r : Int32} {S' : Mem} (h0 : LX RL cL_arePlansSo 10 rl_arePlansSo X) (hK : KW g (D1 g X) X) (fu : Nat) (x1 : Int32) (hE : E1 (some .boolean) r g S' 548 X) (K7 : Int32 → Int32 → Int32 → Mem → Option (Int32 × Mem)) (cK : Nat) (kK7 : ∀ (cn : Nat), cn + cK ≤ 548 → ∀ (x2 : Int32) (x3 : Int32) (x4 : Int32) (S : Mem), K7 x2 x3 x4 S = some (r, S') → LQ X (D1 g X) 10 cn (pW g S) [(0, .ref (wA (wC g) 7 0)), (1, .int x1), (2, .int x2), (3, .int x3), (4, .int x4)] 7 []) : ∀ (n : Nat) (cn : Nat), cn + (n * 6 + 3 + cK) ≤ 548 → ∀ (x2 : Int32) (x3 : Int32) (x4 : Int32) (x5 : Int32) (x6 : Int32) (x7 : Int32) (x8 : Int32) (S : Mem), f_L_arePlansSo_250 fu K7 x1 n x2 x3 x4 x5 x6 x7 x8 S = some (r, S') → LQ X (D1 g X) 10 cn (pW g S) [(0, .ref (wA (wC g) 7 0)), (1, .int x1), (2, .int x2), (3, .int x3), (4, .int x4), (5, .int x5), (6, .int x6), (7, .int x7), (8, .int x8)] 250 [] := by
  intro n
  induction n with
  | zero =>
    intro cn hc x2 x3 x4 x5 x6 x7 x8 S h
    exact nomatch (show none = _ from h)
  | succ n ih =>
    intro cn hc x2 x3 x4 x5 x6 x7 x8 S h
    rw [f_L_arePlansSo_250] at h
    refine l_aload_n (pc' := 251) h0 0 dL_arePlansSo_250 rfl rfl rfl ?_
    refine l_iload (pc' := 253) h0 4 dL_arePlansSo_251 rfl rfl ?_
    refine l_iload (pc' := 255) h0 8 dL_arePlansSo_253 rfl rfl ?_
    obtain ⟨r255, h255, h⟩ := b1_some h
    refine q_call1H (n := 3) (pc' := 258) vl_785 vl_786 vl_27 vl_787 ⟨by decide +kernel, by decide +kernel, by decide +kernel⟩ [.ref (wA (wC g) 7 0), .int x4, .int x8] [] h0 hK (stab_T g) (c_L_green g fu x4 x8 S h255) rfl rfl dL_arePlansSo_255 rfl (Nat.le_of_ble_eq_true rfl) ⟨rfl, rfl, (Nat.le_of_ble_eq_true rfl), (Nat.le_of_ble_eq_true rfl)⟩ ⟨by show (cn + 3) ≤ 548; omega, by show 6 * (cn + 3) ≤ 6 * 548; omega⟩ ?_
    show LQ X (D1 g X) 10 (cn + 3) (pW g S) [(0, .ref (wA (wC g) 7 0)), (1, .int x1), (2, .int x2), (3, .int x3), (4, .int x4), (5, .int x5), (6, .int x6), (7, .int x7), (8, .int x8)] 258 [.int r255]
    refine l_if_lt (pt := 302) (pf := 261) h0 dL_arePlansSo_258 rfl rfl h (fun c258 h => ?_) (fun c258 h => ?_)
    · refine l_iload_n (pc' := 303) h0 3 dL_arePlansSo_302 rfl rfl rfl ?_
      refine l_if_eq (pt := 340) (pf := 306) h0 dL_arePlansSo_303 rfl rfl h (fun c303 h => ?_) (fun c303 h => ?_)
      · refine l_sub (L' := [(0, .ref (wA (wC g) 7 0)), (1, .int x1), (2, .int x2), (4, .int x4)]) [0, 1, 2, 4] rfl ?_
        exact w_L_arePlansSo_340 h0 hK fu x1 hE K7 cK kK7 (cn + 3) (by omega) x2 x4 S h
      · refine l_iload (pc' := 308) h0 6 dL_arePlansSo_306 rfl rfl ?_
        refine l_iload (pc' := 310) h0 5 dL_arePlansSo_308 rfl rfl ?_
        refine l_iload (pc' := 312) h0 7 dL_arePlansSo_310 rfl rfl ?_
        refine l_isub (pc' := 313) h0 dL_arePlansSo_312 rfl ?_
        refine l_ic_ne (pt := 340) (pf := 316) h0 dL_arePlansSo_313 rfl rfl h (fun c313 h => ?_) (fun c313 h => ?_)
        · refine l_sub (L' := [(0, .ref (wA (wC g) 7 0)), (1, .int x1), (2, .int x2), (4, .int x4)]) [0, 1, 2, 4] rfl ?_
          exact w_L_arePlansSo_340 h0 hK fu x1 hE K7 cK kK7 (cn + 3) (by omega) x2 x4 S h
        · refine l_aload_n (pc' := 317) h0 0 dL_arePlansSo_316 rfl rfl rfl ?_
          refine l_iload (pc' := 319) h0 4 dL_arePlansSo_317 rfl rfl ?_
          obtain ⟨r319, h319, h⟩ := b1_some h
          refine q_callV (n := 1) (pc' := 322) vl_818 vl_819 vl_820 vl_821 vl_28 ⟨by decide +kernel, by decide +kernel, by decide +kernel⟩ [.int x4] [] h0 hK (stab_T g) (c_X7_breaches g fu x4 S h319) rfl rfl dL_arePlansSo_319 rfl (Nat.le_of_ble_eq_true rfl) ⟨rfl, rfl, (Nat.le_of_ble_eq_true rfl), (Nat.le_of_ble_eq_true rfl)⟩ ⟨by show (cn + 3) ≤ 548; omega, by show 6 * (cn + 3) ≤ 6 * 548; omega⟩ ?_
          show LQ X (D1 g X) 10 (cn + 3) (pW g S) [(0, .ref (wA (wC g) 7 0)), (1, .int x1), (2, .int x2), (3, .int x3), (4, .int x4), (5, .int x5), (6, .int x6), (7, .int x7), (8, .int x8)] 322 [.int r319]
          refine l_if_lt (pt := 340) (pf := 325) h0 dL_arePlansSo_322 rfl rfl h (fun c322 h => ?_) (fun c322 h => ?_)
          · refine l_sub (L' := [(0, .ref (wA (wC g) 7 0)), (1, .int x1), (2, .int x2), (4, .int x4)]) [0, 1, 2, 4] rfl ?_
            exact w_L_arePlansSo_340 h0 hK fu x1 hE K7 cK kK7 (cn + 3) (by omega) x2 x4 S h
          · refine l_aload_n (pc' := 326) h0 0 dL_arePlansSo_325 rfl rfl rfl ?_
            refine l_iload (pc' := 328) h0 4 dL_arePlansSo_326 rfl rfl ?_
            obtain ⟨r328, h328, h⟩ := b1_some h
            refine q_callV (n := 1) (pc' := 331) vl_818 vl_819 vl_820 vl_821 vl_28 ⟨by decide +kernel, by decide +kernel, by decide +kernel⟩ [.int x4] [] h0 hK (stab_T g) (c_X7_breaches g fu x4 S h328) rfl rfl dL_arePlansSo_328 rfl (Nat.le_of_ble_eq_true rfl) ⟨rfl, rfl, (Nat.le_of_ble_eq_true rfl), (Nat.le_of_ble_eq_true rfl)⟩ ⟨by show (cn + 3) ≤ 548; omega, by show 6 * (cn + 3) ≤ 6 * 548; omega⟩ ?_
            show LQ X (D1 g X) 10 (cn + 3) (pW g S) [(0, .ref (wA (wC g) 7 0)), (1, .int x1), (2, .int x2), (3, .int x3), (4, .int x4), (5, .int x5), (6, .int x6), (7, .int x7), (8, .int x8)] 331 [.int r328]
            refine l_iload (pc' := 333) h0 5 dL_arePlansSo_331 rfl rfl ?_
            refine l_ic_gt (pt := 340) (pf := 336) h0 dL_arePlansSo_333 rfl rfl h (fun c333 h => ?_) (fun c333 h => ?_)
            · refine l_sub (L' := [(0, .ref (wA (wC g) 7 0)), (1, .int x1), (2, .int x2), (4, .int x4)]) [0, 1, 2, 4] rfl ?_
              exact w_L_arePlansSo_340 h0 hK fu x1 hE K7 cK kK7 (cn + 3) (by omega) x2 x4 S h
            · refine l_iconst (pc' := 337) h0 dL_arePlansSo_336 ki_1 rfl ?_
              refine l_goto (pc' := 341) h0 dL_arePlansSo_337 rfl ?_
              refine l_sub (L' := [(0, .ref (wA (wC g) 7 0)), (1, .int x1), (2, .int x2), (4, .int x4)]) [0, 1, 2, 4] rfl ?_
              exact w_L_arePlansSo_341 h0 hK fu x1 hE K7 cK kK7 (cn + 3) (by omega) x2 x4 1 S h
    · refine l_iload (pc' := 263) h0 7 dL_arePlansSo_261 rfl rfl ?_
      refine l_aload_n (pc' := 264) h0 0 dL_arePlansSo_263 rfl rfl rfl ?_
      refine l_iload (pc' := 266) h0 4 dL_arePlansSo_264 rfl rfl ?_
      refine l_iload (pc' := 268) h0 8 dL_arePlansSo_266 rfl rfl ?_
      obtain ⟨r268, h268, h⟩ := b1_some h
      refine q_callV (n := 2) (pc' := 271) vl_797 vl_798 vl_799 vl_800 vl_28 ⟨by decide +kernel, by decide +kernel, by decide +kernel⟩ [.int x4, .int x8] [.int x7] h0 hK (stab_T g) (c_X7_clearing g fu x4 x8 S h268) rfl rfl dL_arePlansSo_268 rfl (Nat.le_of_ble_eq_true rfl) ⟨rfl, rfl, (Nat.le_of_ble_eq_true rfl), (Nat.le_of_ble_eq_true rfl)⟩ ⟨by show (cn + 3) ≤ 548; omega, by show 6 * (cn + 3) ≤ 6 * 548; omega⟩ ?_
      show LQ X (D1 g X) 10 (cn + 3) (pW g S) [(0, .ref (wA (wC g) 7 0)), (1, .int x1), (2, .int x2), (3, .int x3), (4, .int x4), (5, .int x5), (6, .int x6), (7, .int x7), (8, .int x8)] 271 [.int r268, .int x7]
      refine l_iadd (pc' := 272) h0 dL_arePlansSo_271 rfl ?_
      refine l_istore (pc' := 274) (L' := [(7, .int (x7 + r268)), (0, .ref (wA (wC g) 7 0)), (1, .int x1), (2, .int x2), (3, .int x3), (4, .int x4), (5, .int x5), (6, .int x6), (8, .int x8)]) h0 dL_arePlansSo_272 (Nat.le_of_ble_eq_true rfl) rfl rfl ?_
      refine l_iload_n (pc' := 275) h0 4 dL_arePlansSo_274 rfl rfl rfl ?_
      refine l_if_eq (pt := 294) (pf := 278) h0 dL_arePlansSo_275 rfl rfl h (fun c275 h => ?_) (fun c275 h => ?_)
      · refine l_sub (L' := [(0, .ref (wA (wC g) 7 0)), (1, .int x1), (2, .int x2), (4, .int x4), (5, .int x5), (6, .int x6), (7, .int (x7 + r268)), (8, .int x8)]) [1, 2, 3, 5, 6, 7, 0, 8] rfl ?_
        exact w_L_arePlansSo_294 h0 hK fu x1 hE (f_L_arePlansSo_250 fu K7 x1 n) (n * 6 + 3 + cK) ih (cn + 3) (by omega) x2 x4 x5 x6 (x7 + r268) x8 S h
      · refine l_aload_n (pc' := 279) h0 1 dL_arePlansSo_278 rfl rfl rfl ?_
        refine l_iload (pc' := 281) h0 5 dL_arePlansSo_279 rfl rfl ?_
        refine l_iload (pc' := 283) h0 8 dL_arePlansSo_281 rfl rfl ?_
        obtain ⟨r283, h283, h⟩ := b1_some h
        refine q_call1H (n := 3) (pc' := 286) vl_785 vl_786 vl_27 vl_787 ⟨by decide +kernel, by decide +kernel, by decide +kernel⟩ [.ref (wA (wC g) 7 0), .int x4, .int x8] [] h0 hK (stab_T g) (c_L_green g fu x4 x8 S h283) rfl rfl dL_arePlansSo_283 rfl (Nat.le_of_ble_eq_true rfl) ⟨rfl, rfl, (Nat.le_of_ble_eq_true rfl), (Nat.le_of_ble_eq_true rfl)⟩ ⟨by show ((cn + 3) + 3) ≤ 548; omega, by show 6 * ((cn + 3) + 3) ≤ 6 * 548; omega⟩ ?_
        show LQ X (D1 g X) 10 ((cn + 3) + 3) (pW g S) [(7, .int (x7 + r268)), (0, .ref (wA (wC g) 7 0)), (1, .int x1), (2, .int x2), (3, .int x3), (4, .int x4), (5, .int x5), (6, .int x6), (8, .int x8)] 286 [.int r283]
        refine l_iconst (pc' := 287) h0 dL_arePlansSo_286 ki_5 rfl ?_
        refine l_ic_lt (pt := 294) (pf := 290) h0 dL_arePlansSo_287 rfl rfl h (fun c287 h => ?_) (fun c287 h => ?_)
        · refine l_sub (L' := [(0, .ref (wA (wC g) 7 0)), (1, .int x1), (2, .int x2), (4, .int x4), (5, .int x5), (6, .int x6), (7, .int (x7 + r268)), (8, .int x8)]) [1, 2, 3, 5, 6, 7, 0, 8] rfl ?_
          exact w_L_arePlansSo_294 h0 hK fu x1 hE (f_L_arePlansSo_250 fu K7 x1 n) (n * 6 + 3 + cK) ih ((cn + 3) + 3) (by omega) x2 x4 x5 x6 (x7 + r268) x8 S h
        · refine l_iconst (pc' := 291) h0 dL_arePlansSo_290 ki_1 rfl ?_
          refine l_goto (pc' := 295) h0 dL_arePlansSo_291 rfl ?_
          refine l_sub (L' := [(0, .ref (wA (wC g) 7 0)), (1, .int x1), (2, .int x2), (4, .int x4), (5, .int x5), (6, .int x6), (7, .int (x7 + r268)), (8, .int x8)]) [1, 2, 3, 5, 6, 7, 0, 8] rfl ?_
          exact w_L_arePlansSo_295 h0 hK fu x1 hE (f_L_arePlansSo_250 fu K7 x1 n) (n * 6 + 3 + cK) ih ((cn + 3) + 3) (by omega) x2 x4 x5 x6 (x7 + r268) x8 1 S h
theorem w_L_arePlansSo_244 {g : GC} {X : MX} {r : Int32} {S' : Mem} (h0 : LX RL cL_arePlansSo 10 rl_arePlansSo X) (hK : KW g (D1 g X) X) (fu : Nat) (x1 : Int32) (hE : E1 (some .boolean) r g S' 548 X) (K7 : Int32 → Int32 → Int32 → Mem → Option (Int32 × Mem)) (cK : Nat) (kK7 : ∀ (cn : Nat), cn + cK ≤ 548 → ∀ (x2 : Int32) (x3 : Int32) (x4 : Int32) (S : Mem), K7 x2 x3 x4 S = some (r, S') → LQ X (D1 g X) 10 cn (pW g S) [(0, .ref (wA (wC g) 7 0)), (1, .int x1), (2, .int x2), (3, .int x3), (4, .int x4)] 7 []) : ∀ (cn : Nat), cn + (39 + cK) ≤ 548 → ∀ (x2 : Int32) (x3 : Int32) (x4 : Int32) (x5 : Int32) (x6 : Int32) (S : Mem), f_L_arePlansSo_244 fu K7 x1 x2 x3 x4 x5 x6 S = some (r, S') → LQ X (D1 g X) 10 cn (pW g S) [(0, .ref (wA (wC g) 7 0)), (1, .int x1), (2, .int x2), (3, .int x3), (4, .int x4), (5, .int x5), (6, .int x6)] 244 [] := by
  intro cn hc x2 x3 x4 x5 x6 S h
  rw [f_L_arePlansSo_244] at h
  refine l_iconst (pc' := 245) h0 dL_arePlansSo_244 ki_0 rfl ?_
  refine l_istore (pc' := 247) (L' := [(7, .int 0), (0, .ref (wA (wC g) 7 0)), (1, .int x1), (2, .int x2), (3, .int x3), (4, .int x4), (5, .int x5), (6, .int x6)]) h0 dL_arePlansSo_245 (Nat.le_of_ble_eq_true rfl) rfl rfl ?_
  refine l_iconst (pc' := 248) h0 dL_arePlansSo_247 ki_0 rfl ?_
  refine l_istore (pc' := 250) (L' := [(8, .int 0), (7, .int 0), (0, .ref (wA (wC g) 7 0)), (1, .int x1), (2, .int x2), (3, .int x3), (4, .int x4), (5, .int x5), (6, .int x6)]) h0 dL_arePlansSo_248 (Nat.le_of_ble_eq_true rfl) rfl rfl ?_
  refine l_sub (L' := [(0, .ref (wA (wC g) 7 0)), (1, .int x1), (2, .int x2), (3, .int x3), (4, .int x4), (5, .int x5), (6, .int x6), (7, .int 0), (8, .int 0)]) [2, 3, 4, 5, 6, 7, 8, 1, 0] rfl ?_
  exact w_L_arePlansSo_250 h0 hK fu x1 hE K7 cK kK7 6 cn (by omega) x2 x3 x4 x5 x6 0 0 S h
theorem w_L_arePlansSo_235 {g : GC} {X : MX} {r : Int32} {S' : Mem} (h0 : LX RL cL_arePlansSo 10 rl_arePlansSo X) (hK : KW g (D1 g X) X) (fu : Nat) (x1 : Int32) (hE : E1 (some .boolean) r g S' 548 X) (K129 : Int32 → Int32 → Int32 → Int32 → Int32 → Int32 → Mem → Option (Int32 × Mem)) (cK : Nat) (kK129 : ∀ (cn : Nat), cn + cK ≤ 548 → ∀ (x2 : Int32) (x3 : Int32) (x4 : Int32) (x5 : Int32) (x6 : Int32) (x7 : Int32) (S : Mem), K129 x2 x3 x4 x5 x6 x7 S = some (r, S') → LQ X (D1 g X) 10 cn (pW g S) [(0, .ref (wA (wC g) 7 0)), (1, .int x1), (2, .int x2), (3, .int x3), (4, .int x4), (5, .int x5), (6, .int x6), (7, .int x7)] 129 []) : ∀ (cn : Nat), cn + (0 + cK) ≤ 548 → ∀ (x2 : Int32) (x3 : Int32) (x4 : Int32) (x5 : Int32) (x7 : Int32) (t0 : Int32) (t1 : Int32) (S : Mem), f_L_arePlansSo_235 fu K129 x1 x2 x3 x4 x5 x7 t0 t1 S = some (r, S') → LQ X (D1 g X) 10 cn (pW g S) [(0, .ref (wA (wC g) 7 0)), (1, .int x1), (2, .int x2), (3, .int x3), (4, .int x4), (5, .int x5), (7, .int x7)] 235 [.int t0, .int t1] := by
  intro cn hc x2 x3 x4 x5 x7 t0 t1 S h
  rw [f_L_arePlansSo_235] at h
  refine l_iadd (pc' := 236) h0 dL_arePlansSo_235 rfl ?_
  refine l_istore (pc' := 238) (L' := [(6, .int (t1 + t0)), (0, .ref (wA (wC g) 7 0)), (1, .int x1), (2, .int x2), (3, .int x3), (4, .int x4), (5, .int x5), (7, .int x7)]) h0 dL_arePlansSo_236 (Nat.le_of_ble_eq_true rfl) rfl rfl ?_
  refine l_iinc (pc' := 241) (L' := [(7, .int (x7 + 1)), (6, .int (t1 + t0)), (0, .ref (wA (wC g) 7 0)), (1, .int x1), (2, .int x2), (3, .int x3), (4, .int x4), (5, .int x5)]) h0 7 dL_arePlansSo_238 rfl ki_1 (Nat.le_of_ble_eq_true rfl) rfl rfl ?_
  refine l_goto (pc' := 129) h0 dL_arePlansSo_241 rfl ?_
  refine l_sub (L' := [(0, .ref (wA (wC g) 7 0)), (1, .int x1), (2, .int x2), (3, .int x3), (4, .int x4), (5, .int x5), (6, .int (t1 + t0)), (7, .int (x7 + 1))]) [2, 3, 4, 5, 6, 7, 1, 0] rfl ?_
  exact kK129 cn (by omega) x2 x3 x4 x5 (t1 + t0) (x7 + 1) S h
theorem w_L_arePlansSo_222 {g : GC} {X : MX} {r : Int32} {S' : Mem} (h0 : LX RL cL_arePlansSo 10 rl_arePlansSo X) (hK : KW g (D1 g X) X) (fu : Nat) (x1 : Int32) (hE : E1 (some .boolean) r g S' 548 X) (K129 : Int32 → Int32 → Int32 → Int32 → Int32 → Int32 → Mem → Option (Int32 × Mem)) (cK : Nat) (kK129 : ∀ (cn : Nat), cn + cK ≤ 548 → ∀ (x2 : Int32) (x3 : Int32) (x4 : Int32) (x5 : Int32) (x6 : Int32) (x7 : Int32) (S : Mem), K129 x2 x3 x4 x5 x6 x7 S = some (r, S') → LQ X (D1 g X) 10 cn (pW g S) [(0, .ref (wA (wC g) 7 0)), (1, .int x1), (2, .int x2), (3, .int x3), (4, .int x4), (5, .int x5), (6, .int x6), (7, .int x7)] 129 []) : ∀ (cn : Nat), cn + (0 + cK) ≤ 548 → ∀ (x2 : Int32) (x4 : Int32) (x5 : Int32) (x6 : Int32) (x7 : Int32) (x8 : Int32) (t0 : Int32) (S : Mem), f_L_arePlansSo_222 fu K129 x1 x2 x4 x5 x6 x7 x8 t0 S = some (r, S') → LQ X (D1 g X) 10 cn (pW g S) [(0, .ref (wA (wC g) 7 0)), (1, .int x1), (2, .int x2), (4, .int x4), (5, .int x5), (6, .int x6), (7, .int x7), (8, .int x8)] 222 [.int t0] := by
  intro cn hc x2 x4 x5 x6 x7 x8 t0 S h
  rw [f_L_arePlansSo_222] at h
  refine l_istore_n (pc' := 223) (L' := [(3, .int t0), (0, .ref (wA (wC g) 7 0)), (1, .int x1), (2, .int x2), (4, .int x4), (5, .int x5), (6, .int x6), (7, .int x7), (8, .int x8)]) h0 dL_arePlansSo_222 rfl (Nat.le_of_ble_eq_true rfl) rfl rfl ?_
  refine l_iload (pc' := 225) h0 6 dL_arePlansSo_223 rfl rfl ?_
  refine l_iload (pc' := 227) h0 8 dL_arePlansSo_225 rfl rfl ?_
  refine l_if_le (pt := 234) (pf := 230) h0 dL_arePlansSo_227 rfl rfl h (fun c227 h => ?_) (fun c227 h => ?_)
  · refine l_iconst (pc' := 235) h0 dL_arePlansSo_234 ki_0 rfl ?_
    refine l_sub (L' := [(0, .ref (wA (wC g) 7 0)), (1, .int x1), (2, .int x2), (3, .int t0), (4, .int x4), (5, .int x5), (7, .int x7)]) [1, 2, 3, 0, 4, 5, 7] rfl ?_
    exact w_L_arePlansSo_235 h0 hK fu x1 hE K129 cK kK129 cn (by omega) x2 t0 x4 x5 x7 0 x6 S h
  · refine l_iconst (pc' := 231) h0 dL_arePlansSo_230 ki_1 rfl ?_
    refine l_goto (pc' := 235) h0 dL_arePlansSo_231 rfl ?_
    refine l_sub (L' := [(0, .ref (wA (wC g) 7 0)), (1, .int x1), (2, .int x2), (3, .int t0), (4, .int x4), (5, .int x5), (7, .int x7)]) [1, 2, 3, 0, 4, 5, 7] rfl ?_
    exact w_L_arePlansSo_235 h0 hK fu x1 hE K129 cK kK129 cn (by omega) x2 t0 x4 x5 x7 1 x6 S h
theorem w_L_arePlansSo_174 {g : GC} {X : MX} {r : Int32} {S' : Mem} (h0 : LX RL cL_arePlansSo 10 rl_arePlansSo X) (hK : KW g (D1 g X) X) (fu : Nat) (x1 : Int32) (hE : E1 (some .boolean) r g S' 548 X) (K146 : Int32 → Int32 → Int32 → Int32 → Int32 → Int32 → Int32 → Mem → Option (Int32 × Mem)) (cK : Nat) (kK146 : ∀ (cn : Nat), cn + cK ≤ 548 → ∀ (x2 : Int32) (x4 : Int32) (x5 : Int32) (x6 : Int32) (x7 : Int32) (x8 : Int32) (x9 : Int32) (S : Mem), K146 x2 x4 x5 x6 x7 x8 x9 S = some (r, S') → LQ X (D1 g X) 10 cn (pW g S) [(0, .ref (wA (wC g) 7 0)), (1, .int x1), (2, .int x2), (4, .int x4), (5, .int x5), (6, .int x6), (7, .int x7), (8, .int x8), (9, .int x9)] 146 []) : ∀ (cn : Nat), cn + (0 + cK) ≤ 548 → ∀ (x2 : Int32) (x4 : Int32) (x5 : Int32) (x6 : Int32) (x7 : Int32) (x9 : Int32) (t0 : Int32) (t1 : Int32) (S : Mem), f_L_arePlansSo_174 fu K146 x1 x2 x4 x5 x6 x7 x9 t0 t1 S = some (r, S') → LQ X (D1 g X) 10 cn (pW g S) [(0, .ref (wA (wC g) 7 0)), (1, .int x1), (2, .int x2), (4, .int x4), (5, .int x5), (6, .int x6), (7, .int x7), (9, .int x9)] 174 [.int t0, .int t1] := by
  intro cn hc x2 x4 x5 x6 x7 x9 t0 t1 S h
  rw [f_L_arePlansSo_174] at h
  refine l_iadd (pc' := 175) h0 dL_arePlansSo_174 rfl ?_
  refine l_istore (pc' := 177) (L' := [(8, .int (t1 + t0)), (0, .ref (wA (wC g) 7 0)), (1, .int x1), (2, .int x2), (4, .int x4), (5, .int x5), (6, .int x6), (7, .int x7), (9, .int x9)]) h0 dL_arePlansSo_175 (Nat.le_of_ble_eq_true rfl) rfl rfl ?_
  refine l_iinc (pc' := 180) (L' := [(9, .int (x9 + 1)), (8, .int (t1 + t0)), (0, .ref (wA (wC g) 7 0)), (1, .int x1), (2, .int x2), (4, .int x4), (5, .int x5), (6, .int x6), (7, .int x7)]) h0 8 dL_arePlansSo_177 rfl ki_1 (Nat.le_of_ble_eq_true rfl) rfl rfl ?_
  refine l_goto (pc' := 146) h0 dL_arePlansSo_180 rfl ?_
  refine l_sub (L' := [(0, .ref (wA (wC g) 7 0)), (1, .int x1), (2, .int x2), (4, .int x4), (5, .int x5), (6, .int x6), (7, .int x7), (8, .int (t1 + t0)), (9, .int (x9 + 1))]) [2, 3, 4, 5, 6, 7, 8, 1, 0] rfl ?_
  exact kK146 cn (by omega) x2 x4 x5 x6 x7 (t1 + t0) (x9 + 1) S h
theorem w_L_arePlansSo_146 {g : GC} {X : MX} {r : Int32} {S' : Mem} (h0 : LX RL cL_arePlansSo 10 rl_arePlansSo X) (hK : KW g (D1 g X) X) (fu : Nat) (x1 : Int32) (hE : E1 (some .boolean) r g S' 548 X) (K129 : Int32 → Int32 → Int32 → Int32 → Int32 → Int32 → Mem → Option (Int32 × Mem)) (cK : Nat) (kK129 : ∀ (cn : Nat), cn + cK ≤ 548 → ∀ (x2 : Int32) (x3 : Int32) (x4 : Int32) (x5 : Int32) (x6 : Int32) (x7 : Int32) (S : Mem), K129 x2 x3 x4 x5 x6 x7 S = some (r, S') → LQ X (D1 g X) 10 cn (pW g S) [(0, .ref (wA (wC g) 7 0)), (1, .int x1), (2, .int x2), (3, .int x3), (4, .int x4), (5, .int x5), (6, .int x6), (7, .int x7)] 129 []) : ∀ (n : Nat) (cn : Nat), cn + (n * 0 + 0 + cK) ≤ 548 → ∀ (x2 : Int32) (x4 : Int32) (x5 : Int32) (x6 : Int32) (x7 : Int32) (x8 : Int32) (x9 : Int32) (S : Mem), f_L_arePlansSo_146 fu K129 x1 n x2 x4 x5 x6 x7 x8 x9 S = some (r, S') → LQ X (D1 g X) 10 cn (pW g S) [(0, .ref (wA (wC g) 7 0)), (1, .int x1), (2, .int x2), (4, .int x4), (5, .int x5), (6, .int x6), (7, .int x7), (8, .int x8), (9, .int x9)] 146 [] := by
  intro n
  induction n with
  | zero =>
    intro cn hc x2 x4 x5 x6 x7 x8 x9 S h
    exact nomatch (show none = _ from h)
  | succ n ih =>
    intro cn hc x2 x4 x5 x6 x7 x8 x9 S h
    rw [f_L_arePlansSo_146] at h
    refine l_iload (pc' := 148) h0 8 dL_arePlansSo_146 rfl rfl ?_
    refine l_iconst (pc' := 149) h0 dL_arePlansSo_148 ki_4 rfl ?_
    refine l_ic_ge (pt := 183) (pf := 152) h0 dL_arePlansSo_149 rfl rfl h (fun c149 h => ?_) (fun c149 h => ?_)
    · refine l_aload_n (pc' := 184) h0 0 dL_arePlansSo_183 rfl rfl rfl ?_
      refine l_iload (pc' := 186) h0 3 dL_arePlansSo_184 rfl rfl ?_
      refine l_iload (pc' := 188) h0 6 dL_arePlansSo_186 rfl rfl ?_
      refine l_iconst (pc' := 189) h0 dL_arePlansSo_188 ki_4 rfl ?_
      refine l_irem (pc' := 190) h0 dL_arePlansSo_189 rfl h (fun h => ?_)
      refine l_iload_n (pc' := 191) h0 1 dL_arePlansSo_190 rfl rfl rfl ?_
      refine l_iload (pc' := 193) h0 6 dL_arePlansSo_191 rfl rfl ?_
      refine l_iadd (pc' := 194) h0 dL_arePlansSo_193 rfl ?_
      obtain ⟨r194, h194, h⟩ := b1_some h
      refine q_callV (n := 3) (pc' := 197) vl_807 vl_808 vl_809 vl_810 vl_28 ⟨by decide +kernel, by decide +kernel, by decide +kernel⟩ [.int x4, .int (x7 - x7 / 4 * 4), .int (x1 + x7)] [] h0 hK (stab_T g) (c_X7_isGreen g fu x4 (x7 - x7 / 4 * 4) (x1 + x7) S h194) rfl rfl dL_arePlansSo_194 rfl (Nat.le_of_ble_eq_true rfl) ⟨rfl, rfl, (Nat.le_of_ble_eq_true rfl), (Nat.le_of_ble_eq_true rfl)⟩ ⟨by show cn ≤ 548; omega, by show 6 * cn ≤ 6 * 548; omega⟩ ?_
      show LQ X (D1 g X) 10 cn (pW g S) [(0, .ref (wA (wC g) 7 0)), (1, .int x1), (2, .int x2), (4, .int x4), (5, .int x5), (6, .int x6), (7, .int x7), (8, .int x8), (9, .int x9)] 197 [.int r194]
      refine l_aload_n (pc' := 198) h0 0 dL_arePlansSo_197 rfl rfl rfl ?_
      refine l_iload (pc' := 200) h0 3 dL_arePlansSo_198 rfl rfl ?_
      refine l_iload (pc' := 202) h0 6 dL_arePlansSo_200 rfl rfl ?_
      refine l_iconst (pc' := 203) h0 dL_arePlansSo_202 ki_4 rfl ?_
      refine l_irem (pc' := 204) h0 dL_arePlansSo_203 rfl h (fun h => ?_)
      refine l_iload_n (pc' := 205) h0 1 dL_arePlansSo_204 rfl rfl rfl ?_
      refine l_iload (pc' := 207) h0 6 dL_arePlansSo_205 rfl rfl ?_
      refine l_iadd (pc' := 208) h0 dL_arePlansSo_207 rfl ?_
      refine l_iload (pc' := 210) h0 4 dL_arePlansSo_208 rfl rfl ?_
      refine l_iadd (pc' := 211) h0 dL_arePlansSo_210 rfl ?_
      obtain ⟨r211, h211, h⟩ := b1_some h
      refine q_callV (n := 3) (pc' := 214) vl_807 vl_808 vl_809 vl_810 vl_28 ⟨by decide +kernel, by decide +kernel, by decide +kernel⟩ [.int x4, .int (x7 - x7 / 4 * 4), .int ((x1 + x7) + x5)] [.int r194] h0 hK (stab_T g) (c_X7_isGreen g fu x4 (x7 - x7 / 4 * 4) ((x1 + x7) + x5) S h211) rfl rfl dL_arePlansSo_211 rfl (Nat.le_of_ble_eq_true rfl) ⟨rfl, rfl, (Nat.le_of_ble_eq_true rfl), (Nat.le_of_ble_eq_true rfl)⟩ ⟨by show cn ≤ 548; omega, by show 6 * cn ≤ 6 * 548; omega⟩ ?_
      show LQ X (D1 g X) 10 cn (pW g S) [(0, .ref (wA (wC g) 7 0)), (1, .int x1), (2, .int x2), (4, .int x4), (5, .int x5), (6, .int x6), (7, .int x7), (8, .int x8), (9, .int x9)] 214 [.int r211, .int r194]
      refine l_ic_ne (pt := 221) (pf := 217) h0 dL_arePlansSo_214 rfl rfl h (fun c214 h => ?_) (fun c214 h => ?_)
      · refine l_iconst (pc' := 222) h0 dL_arePlansSo_221 ki_0 rfl ?_
        refine l_sub (L' := [(0, .ref (wA (wC g) 7 0)), (1, .int x1), (2, .int x2), (4, .int x4), (5, .int x5), (6, .int x6), (7, .int x7), (8, .int x8)]) [0, 1, 2, 3, 4, 5, 6, 7] rfl ?_
        exact w_L_arePlansSo_222 h0 hK fu x1 hE K129 cK kK129 cn (by omega) x2 x4 x5 x6 x7 x8 0 S h
      · refine l_iconst (pc' := 218) h0 dL_arePlansSo_217 ki_1 rfl ?_
        refine l_goto (pc' := 222) h0 dL_arePlansSo_218 rfl ?_
        refine l_sub (L' := [(0, .ref (wA (wC g) 7 0)), (1, .int x1), (2, .int x2), (4, .int x4), (5, .int x5), (6, .int x6), (7, .int x7), (8, .int x8)]) [0, 1, 2, 3, 4, 5, 6, 7] rfl ?_
        exact w_L_arePlansSo_222 h0 hK fu x1 hE K129 cK kK129 cn (by omega) x2 x4 x5 x6 x7 x8 1 S h
    · refine l_iload (pc' := 154) h0 7 dL_arePlansSo_152 rfl rfl ?_
      refine l_aload_n (pc' := 155) h0 0 dL_arePlansSo_154 rfl rfl rfl ?_
      refine l_iload (pc' := 157) h0 3 dL_arePlansSo_155 rfl rfl ?_
      refine l_iload (pc' := 159) h0 8 dL_arePlansSo_157 rfl rfl ?_
      refine l_iload_n (pc' := 160) h0 1 dL_arePlansSo_159 rfl rfl rfl ?_
      refine l_iload (pc' := 162) h0 6 dL_arePlansSo_160 rfl rfl ?_
      refine l_iadd (pc' := 163) h0 dL_arePlansSo_162 rfl ?_
      obtain ⟨r163, h163, h⟩ := b1_some h
      refine q_callV (n := 3) (pc' := 166) vl_807 vl_808 vl_809 vl_810 vl_28 ⟨by decide +kernel, by decide +kernel, by decide +kernel⟩ [.int x4, .int x9, .int (x1 + x7)] [.int x8] h0 hK (stab_T g) (c_X7_isGreen g fu x4 x9 (x1 + x7) S h163) rfl rfl dL_arePlansSo_163 rfl (Nat.le_of_ble_eq_true rfl) ⟨rfl, rfl, (Nat.le_of_ble_eq_true rfl), (Nat.le_of_ble_eq_true rfl)⟩ ⟨by show cn ≤ 548; omega, by show 6 * cn ≤ 6 * 548; omega⟩ ?_
      show LQ X (D1 g X) 10 cn (pW g S) [(0, .ref (wA (wC g) 7 0)), (1, .int x1), (2, .int x2), (4, .int x4), (5, .int x5), (6, .int x6), (7, .int x7), (8, .int x8), (9, .int x9)] 166 [.int r163, .int x8]
      refine l_if_eq (pt := 173) (pf := 169) h0 dL_arePlansSo_166 rfl rfl h (fun c166 h => ?_) (fun c166 h => ?_)
      · refine l_iconst (pc' := 174) h0 dL_arePlansSo_173 ki_0 rfl ?_
        refine l_sub (L' := [(0, .ref (wA (wC g) 7 0)), (1, .int x1), (2, .int x2), (4, .int x4), (5, .int x5), (6, .int x6), (7, .int x7), (9, .int x9)]) [0, 1, 2, 3, 4, 5, 6, 8] rfl ?_
        exact w_L_arePlansSo_174 h0 hK fu x1 hE (f_L_arePlansSo_146 fu K129 x1 n) (n * 0 + 0 + cK) ih cn (by omega) x2 x4 x5 x6 x7 x9 0 x8 S h
      · refine l_iconst (pc' := 170) h0 dL_arePlansSo_169 ki_1 rfl ?_
        refine l_goto (pc' := 174) h0 dL_arePlansSo_170 rfl ?_
        refine l_sub (L' := [(0, .ref (wA (wC g) 7 0)), (1, .int x1), (2, .int x2), (4, .int x4), (5, .int x5), (6, .int x6), (7, .int x7), (9, .int x9)]) [0, 1, 2, 3, 4, 5, 6, 8] rfl ?_
        exact w_L_arePlansSo_174 h0 hK fu x1 hE (f_L_arePlansSo_146 fu K129 x1 n) (n * 0 + 0 + cK) ih cn (by omega) x2 x4 x5 x6 x7 x9 1 x8 S h
theorem w_L_arePlansSo_129 {g : GC} {X : MX} {r : Int32} {S' : Mem} (h0 : LX RL cL_arePlansSo 10 rl_arePlansSo X) (hK : KW g (D1 g X) X) (fu : Nat) (x1 : Int32) (hE : E1 (some .boolean) r g S' 548 X) (K7 : Int32 → Int32 → Int32 → Mem → Option (Int32 × Mem)) (cK : Nat) (kK7 : ∀ (cn : Nat), cn + cK ≤ 548 → ∀ (x2 : Int32) (x3 : Int32) (x4 : Int32) (S : Mem), K7 x2 x3 x4 S = some (r, S') → LQ X (D1 g X) 10 cn (pW g S) [(0, .ref (wA (wC g) 7 0)), (1, .int x1), (2, .int x2), (3, .int x3), (4, .int x4)] 7 []) : ∀ (n : Nat) (cn : Nat), cn + (n * 0 + 39 + cK) ≤ 548 → ∀ (x2 : Int32) (x3 : Int32) (x4 : Int32) (x5 : Int32) (x6 : Int32) (x7 : Int32) (S : Mem), f_L_arePlansSo_129 fu K7 x1 n x2 x3 x4 x5 x6 x7 S = some (r, S') → LQ X (D1 g X) 10 cn (pW g S) [(0, .ref (wA (wC g) 7 0)), (1, .int x1), (2, .int x2), (3, .int x3), (4, .int x4), (5, .int x5), (6, .int x6), (7, .int x7)] 129 [] := by
  intro n
  induction n with
  | zero =>
    intro cn hc x2 x3 x4 x5 x6 x7 S h
    exact nomatch (show none = _ from h)
  | succ n ih =>
    intro cn hc x2 x3 x4 x5 x6 x7 S h
    rw [f_L_arePlansSo_129] at h
    refine l_iload (pc' := 131) h0 7 dL_arePlansSo_129 rfl rfl ?_
    refine l_iload (pc' := 133) h0 5 dL_arePlansSo_131 rfl rfl ?_
    refine l_ic_ge (pt := 244) (pf := 136) h0 dL_arePlansSo_133 rfl rfl h (fun c133 h => ?_) (fun c133 h => ?_)
    · refine l_sub (L' := [(0, .ref (wA (wC g) 7 0)), (1, .int x1), (2, .int x2), (3, .int x3), (4, .int x4), (5, .int x5), (6, .int x6)]) [0, 1, 2, 3, 4, 5, 6] rfl ?_
      exact w_L_arePlansSo_244 h0 hK fu x1 hE K7 cK kK7 cn (by omega) x2 x3 x4 x5 x6 S h
    · refine l_iload_n (pc' := 137) h0 3 dL_arePlansSo_136 rfl rfl rfl ?_
      refine l_if_eq (pt := 244) (pf := 140) h0 dL_arePlansSo_137 rfl rfl h (fun c137 h => ?_) (fun c137 h => ?_)
      · refine l_sub (L' := [(0, .ref (wA (wC g) 7 0)), (1, .int x1), (2, .int x2), (3, .int x3), (4, .int x4), (5, .int x5), (6, .int x6)]) [0, 1, 2, 3, 4, 5, 6] rfl ?_
        exact w_L_arePlansSo_244 h0 hK fu x1 hE K7 cK kK7 cn (by omega) x2 x3 x4 x5 x6 S h
      · refine l_iconst (pc' := 141) h0 dL_arePlansSo_140 ki_0 rfl ?_
        refine l_istore (pc' := 143) (L' := [(8, .int 0), (0, .ref (wA (wC g) 7 0)), (1, .int x1), (2, .int x2), (3, .int x3), (4, .int x4), (5, .int x5), (6, .int x6), (7, .int x7)]) h0 dL_arePlansSo_141 (Nat.le_of_ble_eq_true rfl) rfl rfl ?_
        refine l_iconst (pc' := 144) h0 dL_arePlansSo_143 ki_0 rfl ?_
        refine l_istore (pc' := 146) (L' := [(9, .int 0), (8, .int 0), (0, .ref (wA (wC g) 7 0)), (1, .int x1), (2, .int x2), (3, .int x3), (4, .int x4), (5, .int x5), (6, .int x6), (7, .int x7)]) h0 dL_arePlansSo_144 (Nat.le_of_ble_eq_true rfl) rfl rfl ?_
        refine l_sub (L' := [(0, .ref (wA (wC g) 7 0)), (1, .int x1), (2, .int x2), (4, .int x4), (5, .int x5), (6, .int x6), (7, .int x7), (8, .int 0), (9, .int 0)]) [2, 3, 4, 6, 7, 8, 9, 1, 0] rfl ?_
        exact w_L_arePlansSo_146 h0 hK fu x1 hE (f_L_arePlansSo_129 fu K7 x1 n) (n * 0 + 39 + cK) ih 6 cn (by omega) x2 x4 x5 x6 x7 0 0 S h
theorem w_L_arePlansSo_113 {g : GC} {X : MX} {r : Int32} {S' : Mem} (h0 : LX RL cL_arePlansSo 10 rl_arePlansSo X) (hK : KW g (D1 g X) X) (fu : Nat) (x1 : Int32) (hE : E1 (some .boolean) r g S' 548 X) (K7 : Int32 → Int32 → Int32 → Mem → Option (Int32 × Mem)) (cK : Nat) (kK7 : ∀ (cn : Nat), cn + cK ≤ 548 → ∀ (x2 : Int32) (x3 : Int32) (x4 : Int32) (S : Mem), K7 x2 x3 x4 S = some (r, S') → LQ X (D1 g X) 10 cn (pW g S) [(0, .ref (wA (wC g) 7 0)), (1, .int x1), (2, .int x2), (3, .int x3), (4, .int x4)] 7 []) : ∀ (cn : Nat), cn + (39 + cK) ≤ 548 → ∀ (x3 : Int32) (x4 : Int32) (x5 : Int32) (t0 : Int32) (S : Mem), f_L_arePlansSo_113 fu K7 x1 x3 x4 x5 t0 S = some (r, S') → LQ X (D1 g X) 10 cn (pW g S) [(0, .ref (wA (wC g) 7 0)), (1, .int x1), (3, .int x3), (4, .int x4), (5, .int x5)] 113 [.int t0] := by
  intro cn hc x3 x4 x5 t0 S h
  rw [f_L_arePlansSo_113] at h
  refine l_istore_n (pc' := 114) (L' := [(2, .int t0), (0, .ref (wA (wC g) 7 0)), (1, .int x1), (3, .int x3), (4, .int x4), (5, .int x5)]) h0 dL_arePlansSo_113 rfl (Nat.le_of_ble_eq_true rfl) rfl rfl ?_
  refine l_iload (pc' := 116) h0 5 dL_arePlansSo_114 rfl rfl ?_
  refine l_if_le (pt := 342) (pf := 119) h0 dL_arePlansSo_116 rfl rfl h (fun c116 h => ?_) (fun c116 h => ?_)
  · refine l_sub (L' := [(0, .ref (wA (wC g) 7 0)), (1, .int x1), (2, .int t0), (3, .int x3), (4, .int x4)]) [1, 2, 0, 3, 4] rfl ?_
    exact w_L_arePlansSo_342 h0 hK fu x1 hE K7 cK kK7 cn (by omega) t0 x3 x4 S h
  · refine l_iload_n (pc' := 120) h0 3 dL_arePlansSo_119 rfl rfl rfl ?_
    refine l_if_eq (pt := 342) (pf := 123) h0 dL_arePlansSo_120 rfl rfl h (fun c120 h => ?_) (fun c120 h => ?_)
    · refine l_sub (L' := [(0, .ref (wA (wC g) 7 0)), (1, .int x1), (2, .int t0), (3, .int x3), (4, .int x4)]) [1, 2, 0, 3, 4] rfl ?_
      exact w_L_arePlansSo_342 h0 hK fu x1 hE K7 cK kK7 cn (by omega) t0 x3 x4 S h
    · refine l_iconst (pc' := 124) h0 dL_arePlansSo_123 ki_0 rfl ?_
      refine l_istore (pc' := 126) (L' := [(6, .int 0), (2, .int t0), (0, .ref (wA (wC g) 7 0)), (1, .int x1), (3, .int x3), (4, .int x4), (5, .int x5)]) h0 dL_arePlansSo_124 (Nat.le_of_ble_eq_true rfl) rfl rfl ?_
      refine l_iconst (pc' := 127) h0 dL_arePlansSo_126 ki_0 rfl ?_
      refine l_istore (pc' := 129) (L' := [(7, .int 0), (6, .int 0), (2, .int t0), (0, .ref (wA (wC g) 7 0)), (1, .int x1), (3, .int x3), (4, .int x4), (5, .int x5)]) h0 dL_arePlansSo_127 (Nat.le_of_ble_eq_true rfl) rfl rfl ?_
      refine l_sub (L' := [(0, .ref (wA (wC g) 7 0)), (1, .int x1), (2, .int t0), (3, .int x3), (4, .int x4), (5, .int x5), (6, .int 0), (7, .int 0)]) [3, 4, 2, 5, 6, 7, 1, 0] rfl ?_
      exact w_L_arePlansSo_129 h0 hK fu x1 hE K7 cK kK7 92 cn (by omega) t0 x3 x4 x5 0 0 S h
theorem w_L_arePlansSo_101 {g : GC} {X : MX} {r : Int32} {S' : Mem} (h0 : LX RL cL_arePlansSo 10 rl_arePlansSo X) (hK : KW g (D1 g X) X) (fu : Nat) (x1 : Int32) (hE : E1 (some .boolean) r g S' 548 X) (K7 : Int32 → Int32 → Int32 → Mem → Option (Int32 × Mem)) (cK : Nat) (kK7 : ∀ (cn : Nat), cn + cK ≤ 548 → ∀ (x2 : Int32) (x3 : Int32) (x4 : Int32) (S : Mem), K7 x2 x3 x4 S = some (r, S') → LQ X (D1 g X) 10 cn (pW g S) [(0, .ref (wA (wC g) 7 0)), (1, .int x1), (2, .int x2), (3, .int x3), (4, .int x4)] 7 []) : ∀ (cn : Nat), cn + (39 + cK) ≤ 548 → ∀ (x2 : Int32) (x4 : Int32) (x5 : Int32) (t0 : Int32) (S : Mem), f_L_arePlansSo_101 fu K7 x1 x2 x4 x5 t0 S = some (r, S') → LQ X (D1 g X) 10 cn (pW g S) [(0, .ref (wA (wC g) 7 0)), (1, .int x1), (2, .int x2), (4, .int x4), (5, .int x5)] 101 [.int t0] := by
  intro cn hc x2 x4 x5 t0 S h
  rw [f_L_arePlansSo_101] at h
  refine l_istore_n (pc' := 102) (L' := [(3, .int t0), (0, .ref (wA (wC g) 7 0)), (1, .int x1), (2, .int x2), (4, .int x4), (5, .int x5)]) h0 dL_arePlansSo_101 rfl (Nat.le_of_ble_eq_true rfl) rfl rfl ?_
  refine l_iload (pc' := 104) h0 5 dL_arePlansSo_102 rfl rfl ?_
  refine l_if_le (pt := 112) (pf := 107) h0 dL_arePlansSo_104 rfl rfl h (fun c104 h => ?_) (fun c104 h => ?_)
  · refine l_iload_n (pc' := 113) h0 3 dL_arePlansSo_112 rfl rfl rfl ?_
    refine l_sub (L' := [(0, .ref (wA (wC g) 7 0)), (1, .int x1), (3, .int t0), (4, .int x4), (5, .int x5)]) [1, 2, 0, 4, 5] rfl ?_
    exact w_L_arePlansSo_113 h0 hK fu x1 hE K7 cK kK7 cn (by omega) t0 x4 x5 x2 S h
  · refine l_iload (pc' := 109) h0 5 dL_arePlansSo_107 rfl rfl ?_
    refine l_goto (pc' := 113) h0 dL_arePlansSo_109 rfl ?_
    refine l_sub (L' := [(0, .ref (wA (wC g) 7 0)), (1, .int x1), (3, .int t0), (4, .int x4), (5, .int x5)]) [1, 2, 0, 4, 5] rfl ?_
    exact w_L_arePlansSo_113 h0 hK fu x1 hE K7 cK kK7 cn (by omega) t0 x4 x5 x5 S h
theorem w_L_arePlansSo_100 {g : GC} {X : MX} {r : Int32} {S' : Mem} (h0 : LX RL cL_arePlansSo 10 rl_arePlansSo X) (hK : KW g (D1 g X) X) (fu : Nat) (x1 : Int32) (hE : E1 (some .boolean) r g S' 548 X) (K7 : Int32 → Int32 → Int32 → Mem → Option (Int32 × Mem)) (cK : Nat) (kK7 : ∀ (cn : Nat), cn + cK ≤ 548 → ∀ (x2 : Int32) (x3 : Int32) (x4 : Int32) (S : Mem), K7 x2 x3 x4 S = some (r, S') → LQ X (D1 g X) 10 cn (pW g S) [(0, .ref (wA (wC g) 7 0)), (1, .int x1), (2, .int x2), (3, .int x3), (4, .int x4)] 7 []) : ∀ (cn : Nat), cn + (39 + cK) ≤ 548 → ∀ (x2 : Int32) (x4 : Int32) (x5 : Int32) (S : Mem), f_L_arePlansSo_100 fu K7 x1 x2 x4 x5 S = some (r, S') → LQ X (D1 g X) 10 cn (pW g S) [(0, .ref (wA (wC g) 7 0)), (1, .int x1), (2, .int x2), (4, .int x4), (5, .int x5)] 100 [] := by
  intro cn hc x2 x4 x5 S h
  rw [f_L_arePlansSo_100] at h
  refine l_iconst (pc' := 101) h0 dL_arePlansSo_100 ki_0 rfl ?_
  exact w_L_arePlansSo_101 h0 hK fu x1 hE K7 cK kK7 cn (by omega) x2 x4 x5 0 S h
theorem w_L_arePlansSo_76 {g : GC} {X : MX} {r : Int32} {S' : Mem} (h0 : LX RL cL_arePlansSo 10 rl_arePlansSo X) (hK : KW g (D1 g X) X) (fu : Nat) (x1 : Int32) (hE : E1 (some .boolean) r g S' 548 X) (K7 : Int32 → Int32 → Int32 → Mem → Option (Int32 × Mem)) (cK : Nat) (kK7 : ∀ (cn : Nat), cn + cK ≤ 548 → ∀ (x2 : Int32) (x3 : Int32) (x4 : Int32) (S : Mem), K7 x2 x3 x4 S = some (r, S') → LQ X (D1 g X) 10 cn (pW g S) [(0, .ref (wA (wC g) 7 0)), (1, .int x1), (2, .int x2), (3, .int x3), (4, .int x4)] 7 []) : ∀ (cn : Nat), cn + (39 + cK) ≤ 548 → ∀ (x2 : Int32) (x4 : Int32) (x5 : Int32) (S : Mem), f_L_arePlansSo_76 fu K7 x1 x2 x4 x5 S = some (r, S') → LQ X (D1 g X) 10 cn (pW g S) [(0, .ref (wA (wC g) 7 0)), (1, .int x1), (2, .int x2), (4, .int x4), (5, .int x5)] 76 [] := by
  intro cn hc x2 x4 x5 S h
  rw [f_L_arePlansSo_76] at h
  refine l_aload_n (pc' := 77) h0 0 dL_arePlansSo_76 rfl rfl rfl ?_
  refine l_iload (pc' := 79) h0 3 dL_arePlansSo_77 rfl rfl ?_
  obtain ⟨r79, h79, h⟩ := b1_some h
  refine q_callV (n := 1) (pc' := 82) vl_765 vl_766 vl_767 vl_768 vl_28 ⟨by decide +kernel, by decide +kernel, by decide +kernel⟩ [.int x4] [] h0 hK (stab_T g) (c_X7_offset g fu x4 S h79) rfl rfl dL_arePlansSo_79 rfl (Nat.le_of_ble_eq_true rfl) ⟨rfl, rfl, (Nat.le_of_ble_eq_true rfl), (Nat.le_of_ble_eq_true rfl)⟩ ⟨by show cn ≤ 548; omega, by show 6 * cn ≤ 6 * 548; omega⟩ ?_
  show LQ X (D1 g X) 10 cn (pW g S) [(0, .ref (wA (wC g) 7 0)), (1, .int x1), (2, .int x2), (4, .int x4), (5, .int x5)] 82 [.int r79]
  refine l_if_lt (pt := 100) (pf := 85) h0 dL_arePlansSo_82 rfl rfl h (fun c82 h => ?_) (fun c82 h => ?_)
  · exact w_L_arePlansSo_100 h0 hK fu x1 hE K7 cK kK7 cn (by omega) x2 x4 x5 S h
  · refine l_aload_n (pc' := 86) h0 0 dL_arePlansSo_85 rfl rfl rfl ?_
    refine l_iload (pc' := 88) h0 3 dL_arePlansSo_86 rfl rfl ?_
    obtain ⟨r88, h88, h⟩ := b1_some h
    refine q_callV (n := 1) (pc' := 91) vl_765 vl_766 vl_767 vl_768 vl_28 ⟨by decide +kernel, by decide +kernel, by decide +kernel⟩ [.int x4] [] h0 hK (stab_T g) (c_X7_offset g fu x4 S h88) rfl rfl dL_arePlansSo_88 rfl (Nat.le_of_ble_eq_true rfl) ⟨rfl, rfl, (Nat.le_of_ble_eq_true rfl), (Nat.le_of_ble_eq_true rfl)⟩ ⟨by show cn ≤ 548; omega, by show 6 * cn ≤ 6 * 548; omega⟩ ?_
    show LQ X (D1 g X) 10 cn (pW g S) [(0, .ref (wA (wC g) 7 0)), (1, .int x1), (2, .int x2), (4, .int x4), (5, .int x5)] 91 [.int r88]
    refine l_bipush (pc' := 93) h0 dL_arePlansSo_91 kb_90 rfl ?_
    refine l_ic_ge (pt := 100) (pf := 96) h0 dL_arePlansSo_93 rfl rfl h (fun c93 h => ?_) (fun c93 h => ?_)
    · exact w_L_arePlansSo_100 h0 hK fu x1 hE K7 cK kK7 cn (by omega) x2 x4 x5 S h
    · refine l_iconst (pc' := 97) h0 dL_arePlansSo_96 ki_1 rfl ?_
      refine l_goto (pc' := 101) h0 dL_arePlansSo_97 rfl ?_
      exact w_L_arePlansSo_101 h0 hK fu x1 hE K7 cK kK7 cn (by omega) x2 x4 x5 1 S h
theorem w_L_arePlansSo_44 {g : GC} {X : MX} {r : Int32} {S' : Mem} (h0 : LX RL cL_arePlansSo 10 rl_arePlansSo X) (hK : KW g (D1 g X) X) (fu : Nat) (x1 : Int32) (hE : E1 (some .boolean) r g S' 548 X) (K7 : Int32 → Int32 → Int32 → Mem → Option (Int32 × Mem)) (cK : Nat) (kK7 : ∀ (cn : Nat), cn + cK ≤ 548 → ∀ (x2 : Int32) (x3 : Int32) (x4 : Int32) (S : Mem), K7 x2 x3 x4 S = some (r, S') → LQ X (D1 g X) 10 cn (pW g S) [(0, .ref (wA (wC g) 7 0)), (1, .int x1), (2, .int x2), (3, .int x3), (4, .int x4)] 7 []) : ∀ (cn : Nat), cn + (39 + cK) ≤ 548 → ∀ (x2 : Int32) (x4 : Int32) (x5 : Int32) (t0 : Int32) (t1 : Int32) (S : Mem), f_L_arePlansSo_44 fu K7 x1 x2 x4 x5 t0 t1 S = some (r, S') → LQ X (D1 g X) 10 cn (pW g S) [(0, .ref (wA (wC g) 7 0)), (1, .int x1), (2, .int x2), (4, .int x4), (5, .int x5)] 44 [.int t0, .int t1] := by
  intro cn hc x2 x4 x5 t0 t1 S h
  rw [f_L_arePlansSo_44] at h
  refine l_ic_ne (pt := 100) (pf := 47) h0 dL_arePlansSo_44 rfl rfl h (fun c44 h => ?_) (fun c44 h => ?_)
  · exact w_L_arePlansSo_100 h0 hK fu x1 hE K7 cK kK7 cn (by omega) x2 x4 x5 S h
  · refine l_iload (pc' := 49) h0 4 dL_arePlansSo_47 rfl rfl ?_
    refine l_if_eq (pt := 76) (pf := 52) h0 dL_arePlansSo_49 rfl rfl h (fun c49 h => ?_) (fun c49 h => ?_)
    · exact w_L_arePlansSo_76 h0 hK fu x1 hE K7 cK kK7 cn (by omega) x2 x4 x5 S h
    · refine l_iload (pc' := 54) h0 4 dL_arePlansSo_52 rfl rfl ?_
      refine l_bipush (pc' := 56) h0 dL_arePlansSo_54 kb_30 rfl ?_
      refine l_ic_lt (pt := 100) (pf := 59) h0 dL_arePlansSo_56 rfl rfl h (fun c56 h => ?_) (fun c56 h => ?_)
      · exact w_L_arePlansSo_100 h0 hK fu x1 hE K7 cK kK7 cn (by omega) x2 x4 x5 S h
      · refine l_iload (pc' := 61) h0 4 dL_arePlansSo_59 rfl rfl ?_
        refine l_bipush (pc' := 63) h0 dL_arePlansSo_61 kb_90 rfl ?_
        refine l_ic_gt (pt := 100) (pf := 66) h0 dL_arePlansSo_63 rfl rfl h (fun c63 h => ?_) (fun c63 h => ?_)
        · exact w_L_arePlansSo_100 h0 hK fu x1 hE K7 cK kK7 cn (by omega) x2 x4 x5 S h
        · refine l_iload_n (pc' := 67) h0 2 dL_arePlansSo_66 rfl rfl rfl ?_
          refine l_if_eq (pt := 76) (pf := 70) h0 dL_arePlansSo_67 rfl rfl h (fun c67 h => ?_) (fun c67 h => ?_)
          · exact w_L_arePlansSo_76 h0 hK fu x1 hE K7 cK kK7 cn (by omega) x2 x4 x5 S h
          · refine l_iload_n (pc' := 71) h0 2 dL_arePlansSo_70 rfl rfl rfl ?_
            refine l_iload (pc' := 73) h0 4 dL_arePlansSo_71 rfl rfl ?_
            refine l_ic_ne (pt := 100) (pf := 76) h0 dL_arePlansSo_73 rfl rfl h (fun c73 h => ?_) (fun c73 h => ?_)
            · exact w_L_arePlansSo_100 h0 hK fu x1 hE K7 cK kK7 cn (by omega) x2 x4 x5 S h
            · exact w_L_arePlansSo_76 h0 hK fu x1 hE K7 cK kK7 cn (by omega) x2 x4 x5 S h
theorem w_L_arePlansSo_7 {g : GC} {X : MX} {r : Int32} {S' : Mem} (h0 : LX RL cL_arePlansSo 10 rl_arePlansSo X) (hK : KW g (D1 g X) X) (fu : Nat) (x1 : Int32) (hE : E1 (some .boolean) r g S' 548 X) : ∀ (n : Nat) (cn : Nat), cn + (n * 78 + 2) ≤ 548 → ∀ (x2 : Int32) (x3 : Int32) (x4 : Int32) (S : Mem), f_L_arePlansSo_7 fu x1 n x2 x3 x4 S = some (r, S') → LQ X (D1 g X) 10 cn (pW g S) [(0, .ref (wA (wC g) 7 0)), (1, .int x1), (2, .int x2), (3, .int x3), (4, .int x4)] 7 [] := by
  intro n
  induction n with
  | zero =>
    intro cn hc x2 x3 x4 S h
    exact nomatch (show none = _ from h)
  | succ n ih =>
    intro cn hc x2 x3 x4 S h
    rw [f_L_arePlansSo_7] at h
    refine l_iload (pc' := 9) h0 4 dL_arePlansSo_7 rfl rfl ?_
    refine l_aload_n (pc' := 10) h0 0 dL_arePlansSo_9 rfl rfl rfl ?_
    obtain ⟨r10, h10, h⟩ := b1_some h
    refine q_callV (n := 0) (pc' := 13) vl_399 vl_400 vl_401 vl_402 vl_28 ⟨by decide +kernel, by decide +kernel, by decide +kernel⟩ [] [.int x4] h0 hK (stab_T g) (c_X7_junctions g fu S h10) rfl rfl dL_arePlansSo_10 rfl (Nat.le_of_ble_eq_true rfl) ⟨rfl, rfl, (Nat.le_of_ble_eq_true rfl), (Nat.le_of_ble_eq_true rfl)⟩ ⟨by show cn ≤ 548; omega, by show 6 * cn ≤ 6 * 548; omega⟩ ?_
    show LQ X (D1 g X) 10 cn (pW g S) [(0, .ref (wA (wC g) 7 0)), (1, .int x1), (2, .int x2), (3, .int x3), (4, .int x4)] 13 [.int r10, .int x4]
    refine l_ic_ge (pt := 348) (pf := 16) h0 dL_arePlansSo_13 rfl rfl h (fun c13 h => ?_) (fun c13 h => ?_)
    · refine l_sub (L' := [(0, .ref (wA (wC g) 7 0)), (2, .int x2), (3, .int x3)]) [0, 2, 3] rfl ?_
      exact w_L_arePlansSo_348 h0 hK fu x1 hE cn (by omega) x2 x3 S h
    · refine l_iload_n (pc' := 17) h0 3 dL_arePlansSo_16 rfl rfl rfl ?_
      refine l_if_eq (pt := 348) (pf := 20) h0 dL_arePlansSo_17 rfl rfl h (fun c17 h => ?_) (fun c17 h => ?_)
      · refine l_sub (L' := [(0, .ref (wA (wC g) 7 0)), (2, .int x2), (3, .int x3)]) [0, 2, 3] rfl ?_
        exact w_L_arePlansSo_348 h0 hK fu x1 hE cn (by omega) x2 x3 S h
      · refine l_aload_n (pc' := 21) h0 0 dL_arePlansSo_20 rfl rfl rfl ?_
        refine l_iload (pc' := 23) h0 4 dL_arePlansSo_21 rfl rfl ?_
        obtain ⟨r23, h23, h⟩ := b1_some h
        refine q_call1 (n := 2) (pc' := 26) vl_804 vl_805 vl_27 vl_806 ⟨by decide +kernel, by decide +kernel, by decide +kernel⟩ [.ref (wA (wC g) 7 0), .int x4] [] h0 hK (stab_T g) (c_L_cycle g fu x4 S h23) rfl rfl dL_arePlansSo_23 rfl (Nat.le_of_ble_eq_true rfl) ⟨rfl, rfl, (Nat.le_of_ble_eq_true rfl), (Nat.le_of_ble_eq_true rfl)⟩ ⟨by show (cn + 39) ≤ 548; omega, by show 6 * (cn + 39) ≤ 6 * 548; omega⟩ ?_
        show LQ X (D1 g X) 10 (cn + 39) (pW g S) [(0, .ref (wA (wC g) 7 0)), (1, .int x1), (2, .int x2), (3, .int x3), (4, .int x4)] 26 [.int r23]
        refine l_istore (pc' := 28) (L' := [(5, .int r23), (0, .ref (wA (wC g) 7 0)), (1, .int x1), (2, .int x2), (3, .int x3), (4, .int x4)]) h0 dL_arePlansSo_26 (Nat.le_of_ble_eq_true rfl) rfl rfl ?_
        refine l_aload_n (pc' := 29) h0 1 dL_arePlansSo_28 rfl rfl rfl ?_
        refine l_iload (pc' := 31) h0 5 dL_arePlansSo_29 rfl rfl ?_
        obtain ⟨r31, h31, h⟩ := b1_some h
        refine q_callV (n := 1) (pc' := 34) vl_761 vl_762 vl_763 vl_764 vl_28 ⟨by decide +kernel, by decide +kernel, by decide +kernel⟩ [.int x4] [] h0 hK (stab_T g) (c_X7_hasPlan g fu x4 S h31) rfl rfl dL_arePlansSo_31 rfl (Nat.le_of_ble_eq_true rfl) ⟨rfl, rfl, (Nat.le_of_ble_eq_true rfl), (Nat.le_of_ble_eq_true rfl)⟩ ⟨by show (cn + 39) ≤ 548; omega, by show 6 * (cn + 39) ≤ 6 * 548; omega⟩ ?_
        show LQ X (D1 g X) 10 (cn + 39) (pW g S) [(5, .int r23), (0, .ref (wA (wC g) 7 0)), (1, .int x1), (2, .int x2), (3, .int x3), (4, .int x4)] 34 [.int r31]
        refine l_iload (pc' := 36) h0 0 dL_arePlansSo_34 rfl rfl ?_
        refine l_if_le (pt := 43) (pf := 39) h0 dL_arePlansSo_36 rfl rfl h (fun c36 h => ?_) (fun c36 h => ?_)
        · refine l_iconst (pc' := 44) h0 dL_arePlansSo_43 ki_0 rfl ?_
          refine l_sub (L' := [(0, .ref (wA (wC g) 7 0)), (1, .int x1), (2, .int x2), (4, .int x4), (5, .int r23)]) [1, 2, 3, 5, 0] rfl ?_
          exact w_L_arePlansSo_44 h0 hK fu x1 hE (f_L_arePlansSo_7 fu x1 n) (n * 78 + 2) ih (cn + 39) (by omega) x2 x4 r23 0 r31 S h
        · refine l_iconst (pc' := 40) h0 dL_arePlansSo_39 ki_1 rfl ?_
          refine l_goto (pc' := 44) h0 dL_arePlansSo_40 rfl ?_
          refine l_sub (L' := [(0, .ref (wA (wC g) 7 0)), (1, .int x1), (2, .int x2), (4, .int x4), (5, .int r23)]) [1, 2, 3, 5, 0] rfl ?_
          exact w_L_arePlansSo_44 h0 hK fu x1 hE (f_L_arePlansSo_7 fu x1 n) (n * 78 + 2) ih (cn + 39) (by omega) x2 x4 r23 1 r31 S h
theorem c_L_arePlansSo (g : GC) (fu : Nat) (x1 : Int32) (S : Mem) {r : Int32} {S' : Mem} (h : f_L_arePlansSo fu x1 S = some (r, S')) : ct1 yL_arePlansSo (.code yL_arePlansSo cL_arePlansSo 10 (some .boolean)) rl_arePlansSo 548 g [.ref (wA (wC g) 7 0), .int x1] S r S' := by
  refine ct1_of (own := RL) (L := [(0, .ref (wA (wC g) 7 0)), (1, .int x1)]) (by decide +kernel) rfl (Nat.le_of_ble_eq_true rfl) rfl (fun X h0 hK hE => ?_)
  have hc : 0 + 548 ≤ 548 := (Nat.le_of_ble_eq_true rfl)
  rw [f_L_arePlansSo] at h
  refine l_iconst (pc' := 1) h0 dL_arePlansSo_0 ki_0 rfl ?_
  refine l_istore_n (pc' := 2) (L' := [(2, .int 0), (0, .ref (wA (wC g) 7 0)), (1, .int x1)]) h0 dL_arePlansSo_1 rfl (Nat.le_of_ble_eq_true rfl) rfl rfl ?_
  refine l_iconst (pc' := 3) h0 dL_arePlansSo_2 ki_1 rfl ?_
  refine l_istore_n (pc' := 4) (L' := [(3, .int 1), (2, .int 0), (0, .ref (wA (wC g) 7 0)), (1, .int x1)]) h0 dL_arePlansSo_3 rfl (Nat.le_of_ble_eq_true rfl) rfl rfl ?_
  refine l_iconst (pc' := 5) h0 dL_arePlansSo_4 ki_0 rfl ?_
  refine l_istore (pc' := 7) (L' := [(4, .int 0), (3, .int 1), (2, .int 0), (0, .ref (wA (wC g) 7 0)), (1, .int x1)]) h0 dL_arePlansSo_5 (Nat.le_of_ble_eq_true rfl) rfl rfl ?_
  refine l_sub (L' := [(0, .ref (wA (wC g) 7 0)), (1, .int x1), (2, .int 0), (3, .int 1), (4, .int 0)]) [3, 4, 2, 1, 0] rfl ?_
  exact w_L_arePlansSo_7 h0 hK fu x1 hE 7 0 (by omega) 0 1 0 S h
theorem w_L_areVehiclesSo_173 {g : GC} {X : MX} {r : Int32} (h0 : LX RL cL_areVehiclesSo 4 rl_areVehiclesSo X) (hK : KW g (D1 g X) X) (fu : Nat) (S : Mem) (hE : E1 (some .boolean) r g S 14 X) : ∀ (cn : Nat), cn + (0) ≤ 14 → ∀ (t0 : Int32), f_L_areVehiclesSo_173 fu S t0 = some r → LQ X (D1 g X) 4 cn (pW g S) [] 173 [.int t0] := by
  intro cn hc t0 h
  rw [f_L_areVehiclesSo_173] at h
  exact q_zretR h0 hE dL_areVehiclesSo_173 (by omega) h
theorem w_L_areVehiclesSo_172 {g : GC} {X : MX} {r : Int32} (h0 : LX RL cL_areVehiclesSo 4 rl_areVehiclesSo X) (hK : KW g (D1 g X) X) (fu : Nat) (S : Mem) (hE : E1 (some .boolean) r g S 14 X) : ∀ (cn : Nat), cn + (0) ≤ 14 → f_L_areVehiclesSo_172 fu S = some r → LQ X (D1 g X) 4 cn (pW g S) [] 172 [] := by
  intro cn hc  h
  rw [f_L_areVehiclesSo_172] at h
  refine l_iconst (pc' := 173) h0 dL_areVehiclesSo_172 ki_0 rfl ?_
  exact w_L_areVehiclesSo_173 h0 hK fu S hE cn (by omega) 0 h
theorem w_L_areVehiclesSo_156 {g : GC} {X : MX} {r : Int32} (h0 : LX RL cL_areVehiclesSo 4 rl_areVehiclesSo X) (hK : KW g (D1 g X) X) (fu : Nat) (S : Mem) (hE : E1 (some .boolean) r g S 14 X) : ∀ (cn : Nat), cn + (0) ≤ 14 → ∀ (x1 : Int32) (x2 : Int32), f_L_areVehiclesSo_156 fu S x1 x2 = some r → LQ X (D1 g X) 4 cn (pW g S) [(0, .ref (wA (wC g) 7 0)), (1, .int x1), (2, .int x2)] 156 [] := by
  intro cn hc x1 x2 h
  rw [f_L_areVehiclesSo_156] at h
  refine l_iload_n (pc' := 157) h0 2 dL_areVehiclesSo_156 rfl rfl rfl ?_
  refine l_if_eq (pt := 172) (pf := 160) h0 dL_areVehiclesSo_157 rfl rfl h (fun c157 h => ?_) (fun c157 h => ?_)
  · refine l_sub (L' := []) [] rfl ?_
    exact w_L_areVehiclesSo_172 h0 hK fu S hE cn (by omega) h
  · refine l_aload_n (pc' := 161) h0 0 dL_areVehiclesSo_160 rfl rfl rfl ?_
    obtain ⟨r161, h161, h⟩ := b1_some h
    refine q_callV (n := 0) (pc' := 164) vl_741 vl_742 vl_743 vl_744 vl_28 ⟨by decide +kernel, by decide +kernel, by decide +kernel⟩ [] [] h0 hK (stab_T g) (c_X7_come g fu S h161) rfl rfl dL_areVehiclesSo_161 rfl (Nat.le_of_ble_eq_true rfl) ⟨rfl, rfl, (Nat.le_of_ble_eq_true rfl), (Nat.le_of_ble_eq_true rfl)⟩ ⟨by show cn ≤ 14; omega, by show 6 * cn ≤ 6 * 14; omega⟩ ?_
    show LQ X (D1 g X) 4 cn (pW g S) [(0, .ref (wA (wC g) 7 0)), (1, .int x1), (2, .int x2)] 164 [.int r161]
    refine l_iload_n (pc' := 165) h0 1 dL_areVehiclesSo_164 rfl rfl rfl ?_
    refine l_ic_ne (pt := 172) (pf := 168) h0 dL_areVehiclesSo_165 rfl rfl h (fun c165 h => ?_) (fun c165 h => ?_)
    · refine l_sub (L' := []) [] rfl ?_
      exact w_L_areVehiclesSo_172 h0 hK fu S hE cn (by omega) h
    · refine l_iconst (pc' := 169) h0 dL_areVehiclesSo_168 ki_1 rfl ?_
      refine l_goto (pc' := 173) h0 dL_areVehiclesSo_169 rfl ?_
      refine l_sub (L' := []) [] rfl ?_
      exact w_L_areVehiclesSo_173 h0 hK fu S hE cn (by omega) 1 h
theorem w_L_areVehiclesSo_149 {g : GC} {X : MX} {r : Int32} (h0 : LX RL cL_areVehiclesSo 4 rl_areVehiclesSo X) (hK : KW g (D1 g X) X) (fu : Nat) (S : Mem) (hE : E1 (some .boolean) r g S 14 X) (K62 : Int32 → Int32 → Int32 → Option Int32) (cK : Nat) (kK62 : ∀ (cn : Nat), cn + cK ≤ 14 → ∀ (x1 : Int32) (x2 : Int32) (x3 : Int32), K62 x1 x2 x3 = some r → LQ X (D1 g X) 4 cn (pW g S) [(0, .ref (wA (wC g) 7 0)), (1, .int x1), (2, .int x2), (3, .int x3)] 62 []) : ∀ (cn : Nat), cn + (0 + cK) ≤ 14 → ∀ (x1 : Int32) (x3 : Int32) (t0 : Int32), f_L_areVehiclesSo_149 fu K62 S x1 x3 t0 = some r → LQ X (D1 g X) 4 cn (pW g S) [(0, .ref (wA (wC g) 7 0)), (1, .int x1), (3, .int x3)] 149 [.int t0] := by
  intro cn hc x1 x3 t0 h
  rw [f_L_areVehiclesSo_149] at h
  refine l_istore_n (pc' := 150) (L' := [(2, .int t0), (0, .ref (wA (wC g) 7 0)), (1, .int x1), (3, .int x3)]) h0 dL_areVehiclesSo_149 rfl (Nat.le_of_ble_eq_true rfl) rfl rfl ?_
  refine l_iinc (pc' := 153) (L' := [(3, .int (x3 + 1)), (2, .int t0), (0, .ref (wA (wC g) 7 0)), (1, .int x1)]) h0 3 dL_areVehiclesSo_150 rfl ki_1 (Nat.le_of_ble_eq_true rfl) rfl rfl ?_
  refine l_goto (pc' := 62) h0 dL_areVehiclesSo_153 rfl ?_
  refine l_sub (L' := [(0, .ref (wA (wC g) 7 0)), (1, .int x1), (2, .int t0), (3, .int (x3 + 1))]) [2, 3, 1, 0] rfl ?_
  exact kK62 cn (by omega) x1 t0 (x3 + 1) h
theorem w_L_areVehiclesSo_148 {g : GC} {X : MX} {r : Int32} (h0 : LX RL cL_areVehiclesSo 4 rl_areVehiclesSo X) (hK : KW g (D1 g X) X) (fu : Nat) (S : Mem) (hE : E1 (some .boolean) r g S 14 X) (K62 : Int32 → Int32 → Int32 → Option Int32) (cK : Nat) (kK62 : ∀ (cn : Nat), cn + cK ≤ 14 → ∀ (x1 : Int32) (x2 : Int32) (x3 : Int32), K62 x1 x2 x3 = some r → LQ X (D1 g X) 4 cn (pW g S) [(0, .ref (wA (wC g) 7 0)), (1, .int x1), (2, .int x2), (3, .int x3)] 62 []) : ∀ (cn : Nat), cn + (0 + cK) ≤ 14 → ∀ (x1 : Int32) (x3 : Int32), f_L_areVehiclesSo_148 fu K62 S x1 x3 = some r → LQ X (D1 g X) 4 cn (pW g S) [(0, .ref (wA (wC g) 7 0)), (1, .int x1), (3, .int x3)] 148 [] := by
  intro cn hc x1 x3 h
  rw [f_L_areVehiclesSo_148] at h
  refine l_iconst (pc' := 149) h0 dL_areVehiclesSo_148 ki_0 rfl ?_
  exact w_L_areVehiclesSo_149 h0 hK fu S hE K62 cK kK62 cn (by omega) x1 x3 0 h
theorem w_L_areVehiclesSo_135 {g : GC} {X : MX} {r : Int32} (h0 : LX RL cL_areVehiclesSo 4 rl_areVehiclesSo X) (hK : KW g (D1 g X) X) (fu : Nat) (S : Mem) (hE : E1 (some .boolean) r g S 14 X) (K62 : Int32 → Int32 → Int32 → Option Int32) (cK : Nat) (kK62 : ∀ (cn : Nat), cn + cK ≤ 14 → ∀ (x1 : Int32) (x2 : Int32) (x3 : Int32), K62 x1 x2 x3 = some r → LQ X (D1 g X) 4 cn (pW g S) [(0, .ref (wA (wC g) 7 0)), (1, .int x1), (2, .int x2), (3, .int x3)] 62 []) : ∀ (cn : Nat), cn + (2 + cK) ≤ 14 → ∀ (x1 : Int32) (x3 : Int32), f_L_areVehiclesSo_135 fu K62 S x1 x3 = some r → LQ X (D1 g X) 4 cn (pW g S) [(0, .ref (wA (wC g) 7 0)), (1, .int x1), (3, .int x3)] 135 [] := by
  intro cn hc x1 x3 h
  rw [f_L_areVehiclesSo_135] at h
  refine l_aload_n (pc' := 136) h0 0 dL_areVehiclesSo_135 rfl rfl rfl ?_
  refine l_iload_n (pc' := 137) h0 2 dL_areVehiclesSo_136 rfl rfl rfl ?_
  obtain ⟨r137, h137, h⟩ := b1_some h
  refine q_call1H (n := 2) (pc' := 140) vl_773 vl_774 vl_27 vl_775 ⟨by decide +kernel, by decide +kernel, by decide +kernel⟩ [.ref (wA (wC g) 7 0), .int x3] [] h0 hK (stab_T g) (c_L_phaseNow g fu x3 S h137) rfl rfl dL_areVehiclesSo_137 rfl (Nat.le_of_ble_eq_true rfl) ⟨rfl, rfl, (Nat.le_of_ble_eq_true rfl), (Nat.le_of_ble_eq_true rfl)⟩ ⟨by show (cn + 2) ≤ 14; omega, by show 6 * (cn + 2) ≤ 6 * 14; omega⟩ ?_
  show LQ X (D1 g X) 4 (cn + 2) (pW g S) [(0, .ref (wA (wC g) 7 0)), (1, .int x1), (3, .int x3)] 140 [.int r137]
  refine l_iconst (pc' := 141) h0 dL_areVehiclesSo_140 ki_4 rfl ?_
  refine l_ic_ge (pt := 148) (pf := 144) h0 dL_areVehiclesSo_141 rfl rfl h (fun c141 h => ?_) (fun c141 h => ?_)
  · exact w_L_areVehiclesSo_148 h0 hK fu S hE K62 cK kK62 (cn + 2) (by omega) x1 x3 h
  · refine l_iconst (pc' := 145) h0 dL_areVehiclesSo_144 ki_1 rfl ?_
    refine l_goto (pc' := 149) h0 dL_areVehiclesSo_145 rfl ?_
    exact w_L_areVehiclesSo_149 h0 hK fu S hE K62 cK kK62 (cn + 2) (by omega) x1 x3 1 h
theorem w_L_areVehiclesSo_94 {g : GC} {X : MX} {r : Int32} (h0 : LX RL cL_areVehiclesSo 4 rl_areVehiclesSo X) (hK : KW g (D1 g X) X) (fu : Nat) (S : Mem) (hE : E1 (some .boolean) r g S 14 X) (K62 : Int32 → Int32 → Int32 → Option Int32) (cK : Nat) (kK62 : ∀ (cn : Nat), cn + cK ≤ 14 → ∀ (x1 : Int32) (x2 : Int32) (x3 : Int32), K62 x1 x2 x3 = some r → LQ X (D1 g X) 4 cn (pW g S) [(0, .ref (wA (wC g) 7 0)), (1, .int x1), (2, .int x2), (3, .int x3)] 62 []) : ∀ (cn : Nat), cn + (2 + cK) ≤ 14 → ∀ (x3 : Int32) (t0 : Int32) (t1 : Int32), f_L_areVehiclesSo_94 fu K62 S x3 t0 t1 = some r → LQ X (D1 g X) 4 cn (pW g S) [(0, .ref (wA (wC g) 7 0)), (3, .int x3)] 94 [.int t0, .int t1] := by
  intro cn hc x3 t0 t1 h
  rw [f_L_areVehiclesSo_94] at h
  refine l_iadd (pc' := 95) h0 dL_areVehiclesSo_94 rfl ?_
  refine l_istore_n (pc' := 96) (L' := [(1, .int (t1 + t0)), (0, .ref (wA (wC g) 7 0)), (3, .int x3)]) h0 dL_areVehiclesSo_95 rfl (Nat.le_of_ble_eq_true rfl) rfl rfl ?_
  refine l_aload_n (pc' := 97) h0 1 dL_areVehiclesSo_96 rfl rfl rfl ?_
  refine l_iload_n (pc' := 98) h0 2 dL_areVehiclesSo_97 rfl rfl rfl ?_
  obtain ⟨r98, h98, h⟩ := b1_some h
  refine q_callV (n := 1) (pc' := 101) vl_769 vl_770 vl_771 vl_772 vl_28 ⟨by decide +kernel, by decide +kernel, by decide +kernel⟩ [.int x3] [] h0 hK (stab_T g) (c_X7_queue g fu x3 S h98) rfl rfl dL_areVehiclesSo_98 rfl (Nat.le_of_ble_eq_true rfl) ⟨rfl, rfl, (Nat.le_of_ble_eq_true rfl), (Nat.le_of_ble_eq_true rfl)⟩ ⟨by show cn ≤ 14; omega, by show 6 * cn ≤ 6 * 14; omega⟩ ?_
  show LQ X (D1 g X) 4 cn (pW g S) [(1, .int (t1 + t0)), (0, .ref (wA (wC g) 7 0)), (3, .int x3)] 101 [.int r98]
  refine l_if_lt (pt := 148) (pf := 104) h0 dL_areVehiclesSo_101 rfl rfl h (fun c101 h => ?_) (fun c101 h => ?_)
  · refine l_sub (L' := [(0, .ref (wA (wC g) 7 0)), (1, .int (t1 + t0)), (3, .int x3)]) [1, 0, 2] rfl ?_
    exact w_L_areVehiclesSo_148 h0 hK fu S hE K62 cK kK62 cn (by omega) (t1 + t0) x3 h
  · refine l_iload_n (pc' := 105) h0 2 dL_areVehiclesSo_104 rfl rfl rfl ?_
    refine l_if_eq (pt := 135) (pf := 108) h0 dL_areVehiclesSo_105 rfl rfl h (fun c105 h => ?_) (fun c105 h => ?_)
    · refine l_sub (L' := [(0, .ref (wA (wC g) 7 0)), (1, .int (t1 + t0)), (3, .int x3)]) [1, 0, 2] rfl ?_
      exact w_L_areVehiclesSo_135 h0 hK fu S hE K62 cK kK62 cn (by omega) (t1 + t0) x3 h
    · refine l_aload_n (pc' := 109) h0 1 dL_areVehiclesSo_108 rfl rfl rfl ?_
      refine l_iload_n (pc' := 110) h0 2 dL_areVehiclesSo_109 rfl rfl rfl ?_
      refine l_iconst (pc' := 111) h0 dL_areVehiclesSo_110 ki_1 rfl ?_
      refine l_isub (pc' := 112) h0 dL_areVehiclesSo_111 rfl ?_
      obtain ⟨r112, h112, h⟩ := b1_some h
      refine q_callV (n := 1) (pc' := 115) vl_838 vl_839 vl_840 vl_841 vl_28 ⟨by decide +kernel, by decide +kernel, by decide +kernel⟩ [.int (x3 - 1)] [] h0 hK (stab_T g) (c_X7_held g fu (x3 - 1) S h112) rfl rfl dL_areVehiclesSo_112 rfl (Nat.le_of_ble_eq_true rfl) ⟨rfl, rfl, (Nat.le_of_ble_eq_true rfl), (Nat.le_of_ble_eq_true rfl)⟩ ⟨by show cn ≤ 14; omega, by show 6 * cn ≤ 6 * 14; omega⟩ ?_
      show LQ X (D1 g X) 4 cn (pW g S) [(1, .int (t1 + t0)), (0, .ref (wA (wC g) 7 0)), (3, .int x3)] 115 [.int r112]
      refine l_aload_n (pc' := 116) h0 1 dL_areVehiclesSo_115 rfl rfl rfl ?_
      refine l_iload_n (pc' := 117) h0 2 dL_areVehiclesSo_116 rfl rfl rfl ?_
      obtain ⟨r117, h117, h⟩ := b1_some h
      refine q_callV (n := 1) (pc' := 120) vl_769 vl_770 vl_771 vl_772 vl_28 ⟨by decide +kernel, by decide +kernel, by decide +kernel⟩ [.int x3] [.int r112] h0 hK (stab_T g) (c_X7_queue g fu x3 S h117) rfl rfl dL_areVehiclesSo_117 rfl (Nat.le_of_ble_eq_true rfl) ⟨rfl, rfl, (Nat.le_of_ble_eq_true rfl), (Nat.le_of_ble_eq_true rfl)⟩ ⟨by show cn ≤ 14; omega, by show 6 * cn ≤ 6 * 14; omega⟩ ?_
      show LQ X (D1 g X) 4 cn (pW g S) [(1, .int (t1 + t0)), (0, .ref (wA (wC g) 7 0)), (3, .int x3)] 120 [.int r117, .int r112]
      refine l_ic_lt (pt := 148) (pf := 123) h0 dL_areVehiclesSo_120 rfl rfl h (fun c120 h => ?_) (fun c120 h => ?_)
      · refine l_sub (L' := [(0, .ref (wA (wC g) 7 0)), (1, .int (t1 + t0)), (3, .int x3)]) [1, 0, 2] rfl ?_
        exact w_L_areVehiclesSo_148 h0 hK fu S hE K62 cK kK62 cn (by omega) (t1 + t0) x3 h
      · refine l_aload_n (pc' := 124) h0 1 dL_areVehiclesSo_123 rfl rfl rfl ?_
        refine l_iload_n (pc' := 125) h0 2 dL_areVehiclesSo_124 rfl rfl rfl ?_
        refine l_iconst (pc' := 126) h0 dL_areVehiclesSo_125 ki_1 rfl ?_
        refine l_isub (pc' := 127) h0 dL_areVehiclesSo_126 rfl ?_
        obtain ⟨r127, h127, h⟩ := b1_some h
        refine q_callV (n := 1) (pc' := 130) vl_838 vl_839 vl_840 vl_841 vl_28 ⟨by decide +kernel, by decide +kernel, by decide +kernel⟩ [.int (x3 - 1)] [] h0 hK (stab_T g) (c_X7_held g fu (x3 - 1) S h127) rfl rfl dL_areVehiclesSo_127 rfl (Nat.le_of_ble_eq_true rfl) ⟨rfl, rfl, (Nat.le_of_ble_eq_true rfl), (Nat.le_of_ble_eq_true rfl)⟩ ⟨by show cn ≤ 14; omega, by show 6 * cn ≤ 6 * 14; omega⟩ ?_
        show LQ X (D1 g X) 4 cn (pW g S) [(1, .int (t1 + t0)), (0, .ref (wA (wC g) 7 0)), (3, .int x3)] 130 [.int r127]
        refine l_bipush (pc' := 132) h0 dL_areVehiclesSo_130 kb_40 rfl ?_
        refine l_ic_gt (pt := 148) (pf := 135) h0 dL_areVehiclesSo_132 rfl rfl h (fun c132 h => ?_) (fun c132 h => ?_)
        · refine l_sub (L' := [(0, .ref (wA (wC g) 7 0)), (1, .int (t1 + t0)), (3, .int x3)]) [1, 0, 2] rfl ?_
          exact w_L_areVehiclesSo_148 h0 hK fu S hE K62 cK kK62 cn (by omega) (t1 + t0) x3 h
        · refine l_sub (L' := [(0, .ref (wA (wC g) 7 0)), (1, .int (t1 + t0)), (3, .int x3)]) [1, 0, 2] rfl ?_
          exact w_L_areVehiclesSo_135 h0 hK fu S hE K62 cK kK62 cn (by omega) (t1 + t0) x3 h
theorem w_L_areVehiclesSo_62 {g : GC} {X : MX} {r : Int32} (h0 : LX RL cL_areVehiclesSo 4 rl_areVehiclesSo X) (hK : KW g (D1 g X) X) (fu : Nat) (S : Mem) (hE : E1 (some .boolean) r g S 14 X) : ∀ (n : Nat) (cn : Nat), cn + (n * 2 + 0) ≤ 14 → ∀ (x1 : Int32) (x2 : Int32) (x3 : Int32), f_L_areVehiclesSo_62 fu S n x1 x2 x3 = some r → LQ X (D1 g X) 4 cn (pW g S) [(0, .ref (wA (wC g) 7 0)), (1, .int x1), (2, .int x2), (3, .int x3)] 62 [] := by
  intro n
  induction n with
  | zero =>
    intro cn hc x1 x2 x3 h
    exact nomatch (show none = _ from h)
  | succ n ih =>
    intro cn hc x1 x2 x3 h
    rw [f_L_areVehiclesSo_62] at h
    refine l_iload_n (pc' := 63) h0 3 dL_areVehiclesSo_62 rfl rfl rfl ?_
    refine l_aload_n (pc' := 64) h0 0 dL_areVehiclesSo_63 rfl rfl rfl ?_
    obtain ⟨r64, h64, h⟩ := b1_some h
    refine q_callV (n := 0) (pc' := 67) vl_399 vl_400 vl_401 vl_402 vl_28 ⟨by decide +kernel, by decide +kernel, by decide +kernel⟩ [] [.int x3] h0 hK (stab_T g) (c_X7_junctions g fu S h64) rfl rfl dL_areVehiclesSo_64 rfl (Nat.le_of_ble_eq_true rfl) ⟨rfl, rfl, (Nat.le_of_ble_eq_true rfl), (Nat.le_of_ble_eq_true rfl)⟩ ⟨by show cn ≤ 14; omega, by show 6 * cn ≤ 6 * 14; omega⟩ ?_
    show LQ X (D1 g X) 4 cn (pW g S) [(0, .ref (wA (wC g) 7 0)), (1, .int x1), (2, .int x2), (3, .int x3)] 67 [.int r64, .int x3]
    refine l_ic_ge (pt := 156) (pf := 70) h0 dL_areVehiclesSo_67 rfl rfl h (fun c67 h => ?_) (fun c67 h => ?_)
    · refine l_sub (L' := [(0, .ref (wA (wC g) 7 0)), (1, .int x1), (2, .int x2)]) [0, 1, 2] rfl ?_
      exact w_L_areVehiclesSo_156 h0 hK fu S hE cn (by omega) x1 x2 h
    · refine l_iload_n (pc' := 71) h0 2 dL_areVehiclesSo_70 rfl rfl rfl ?_
      refine l_if_eq (pt := 156) (pf := 74) h0 dL_areVehiclesSo_71 rfl rfl h (fun c71 h => ?_) (fun c71 h => ?_)
      · refine l_sub (L' := [(0, .ref (wA (wC g) 7 0)), (1, .int x1), (2, .int x2)]) [0, 1, 2] rfl ?_
        exact w_L_areVehiclesSo_156 h0 hK fu S hE cn (by omega) x1 x2 h
      · refine l_iload_n (pc' := 75) h0 1 dL_areVehiclesSo_74 rfl rfl rfl ?_
        refine l_iload_n (pc' := 76) h0 3 dL_areVehiclesSo_75 rfl rfl rfl ?_
        refine l_aload_n (pc' := 77) h0 0 dL_areVehiclesSo_76 rfl rfl rfl ?_
        obtain ⟨r77, h77, h⟩ := b1_some h
        refine q_callV (n := 0) (pc' := 80) vl_399 vl_400 vl_401 vl_402 vl_28 ⟨by decide +kernel, by decide +kernel, by decide +kernel⟩ [] [.int x3, .int x1] h0 hK (stab_T g) (c_X7_junctions g fu S h77) rfl rfl dL_areVehiclesSo_77 rfl (Nat.le_of_ble_eq_true rfl) ⟨rfl, rfl, (Nat.le_of_ble_eq_true rfl), (Nat.le_of_ble_eq_true rfl)⟩ ⟨by show cn ≤ 14; omega, by show 6 * cn ≤ 6 * 14; omega⟩ ?_
        show LQ X (D1 g X) 4 cn (pW g S) [(0, .ref (wA (wC g) 7 0)), (1, .int x1), (2, .int x2), (3, .int x3)] 80 [.int r77, .int x3, .int x1]
        refine l_iconst (pc' := 81) h0 dL_areVehiclesSo_80 ki_1 rfl ?_
        refine l_isub (pc' := 82) h0 dL_areVehiclesSo_81 rfl ?_
        refine l_ic_ge (pt := 93) (pf := 85) h0 dL_areVehiclesSo_82 rfl rfl h (fun c82 h => ?_) (fun c82 h => ?_)
        · refine l_iconst (pc' := 94) h0 dL_areVehiclesSo_93 ki_0 rfl ?_
          refine l_sub (L' := [(0, .ref (wA (wC g) 7 0)), (3, .int x3)]) [0, 3] rfl ?_
          exact w_L_areVehiclesSo_94 h0 hK fu S hE (f_L_areVehiclesSo_62 fu S n) (n * 2 + 0) ih cn (by omega) x3 0 x1 h
        · refine l_aload_n (pc' := 86) h0 0 dL_areVehiclesSo_85 rfl rfl rfl ?_
          refine l_iload_n (pc' := 87) h0 3 dL_areVehiclesSo_86 rfl rfl rfl ?_
          obtain ⟨r87, h87, h⟩ := b1_some h
          refine q_callV (n := 1) (pc' := 90) vl_838 vl_839 vl_840 vl_841 vl_28 ⟨by decide +kernel, by decide +kernel, by decide +kernel⟩ [.int x3] [.int x1] h0 hK (stab_T g) (c_X7_held g fu x3 S h87) rfl rfl dL_areVehiclesSo_87 rfl (Nat.le_of_ble_eq_true rfl) ⟨rfl, rfl, (Nat.le_of_ble_eq_true rfl), (Nat.le_of_ble_eq_true rfl)⟩ ⟨by show cn ≤ 14; omega, by show 6 * cn ≤ 6 * 14; omega⟩ ?_
          show LQ X (D1 g X) 4 cn (pW g S) [(0, .ref (wA (wC g) 7 0)), (1, .int x1), (2, .int x2), (3, .int x3)] 90 [.int r87, .int x1]
          refine l_goto (pc' := 94) h0 dL_areVehiclesSo_90 rfl ?_
          refine l_sub (L' := [(0, .ref (wA (wC g) 7 0)), (3, .int x3)]) [0, 3] rfl ?_
          exact w_L_areVehiclesSo_94 h0 hK fu S hE (f_L_areVehiclesSo_62 fu S n) (n * 2 + 0) ih cn (by omega) x3 r87 x1 h
theorem w_L_areVehiclesSo_59 {g : GC} {X : MX} {r : Int32} (h0 : LX RL cL_areVehiclesSo 4 rl_areVehiclesSo X) (hK : KW g (D1 g X) X) (fu : Nat) (S : Mem) (hE : E1 (some .boolean) r g S 14 X) : ∀ (cn : Nat), cn + (14) ≤ 14 → ∀ (x1 : Int32) (t0 : Int32), f_L_areVehiclesSo_59 fu S x1 t0 = some r → LQ X (D1 g X) 4 cn (pW g S) [(0, .ref (wA (wC g) 7 0)), (1, .int x1)] 59 [.int t0] := by
  intro cn hc x1 t0 h
  rw [f_L_areVehiclesSo_59] at h
  refine l_istore_n (pc' := 60) (L' := [(2, .int t0), (0, .ref (wA (wC g) 7 0)), (1, .int x1)]) h0 dL_areVehiclesSo_59 rfl (Nat.le_of_ble_eq_true rfl) rfl rfl ?_
  refine l_iconst (pc' := 61) h0 dL_areVehiclesSo_60 ki_0 rfl ?_
  refine l_istore_n (pc' := 62) (L' := [(3, .int 0), (2, .int t0), (0, .ref (wA (wC g) 7 0)), (1, .int x1)]) h0 dL_areVehiclesSo_61 rfl (Nat.le_of_ble_eq_true rfl) rfl rfl ?_
  refine l_sub (L' := [(0, .ref (wA (wC g) 7 0)), (1, .int x1), (2, .int t0), (3, .int 0)]) [2, 3, 1, 0] rfl ?_
  exact w_L_areVehiclesSo_62 h0 hK fu S hE 7 cn (by omega) x1 t0 0 h
theorem w_L_areVehiclesSo_58 {g : GC} {X : MX} {r : Int32} (h0 : LX RL cL_areVehiclesSo 4 rl_areVehiclesSo X) (hK : KW g (D1 g X) X) (fu : Nat) (S : Mem) (hE : E1 (some .boolean) r g S 14 X) : ∀ (cn : Nat), cn + (14) ≤ 14 → ∀ (x1 : Int32), f_L_areVehiclesSo_58 fu S x1 = some r → LQ X (D1 g X) 4 cn (pW g S) [(0, .ref (wA (wC g) 7 0)), (1, .int x1)] 58 [] := by
  intro cn hc x1 h
  rw [f_L_areVehiclesSo_58] at h
  refine l_iconst (pc' := 59) h0 dL_areVehiclesSo_58 ki_0 rfl ?_
  exact w_L_areVehiclesSo_59 h0 hK fu S hE cn (by omega) x1 0 h
theorem c_L_areVehiclesSo (g : GC) (fu : Nat) (S : Mem) {r : Int32} (h : f_L_areVehiclesSo fu S = some r) : ct1 yL_areVehiclesSo (.code yL_areVehiclesSo cL_areVehiclesSo 4 (some .boolean)) rl_areVehiclesSo 14 g [.ref (wA (wC g) 7 0)] S r S := by
  refine ct1_of (own := RL) (L := [(0, .ref (wA (wC g) 7 0))]) (by decide +kernel) rfl (Nat.le_of_ble_eq_true rfl) rfl (fun X h0 hK hE => ?_)
  have hc : 0 + 14 ≤ 14 := (Nat.le_of_ble_eq_true rfl)
  rw [f_L_areVehiclesSo] at h
  refine l_aload_n (pc' := 1) h0 0 dL_areVehiclesSo_0 rfl rfl rfl ?_
  obtain ⟨r1, h1, h⟩ := b1_some h
  refine q_callV (n := 0) (pc' := 4) vl_745 vl_746 vl_747 vl_748 vl_28 ⟨by decide +kernel, by decide +kernel, by decide +kernel⟩ [] [] h0 hK (stab_T g) (c_X7_through g fu S h1) rfl rfl dL_areVehiclesSo_1 rfl (Nat.le_of_ble_eq_true rfl) ⟨rfl, rfl, (Nat.le_of_ble_eq_true rfl), (Nat.le_of_ble_eq_true rfl)⟩ ⟨by show 0 ≤ 14; omega, by show 6 * 0 ≤ 6 * 14; omega⟩ ?_
  show LQ X (D1 g X) 4 0 (pW g S) [(0, .ref (wA (wC g) 7 0))] 4 [.int r1]
  refine l_aload_n (pc' := 5) h0 0 dL_areVehiclesSo_4 rfl rfl rfl ?_
  refine l_iconst (pc' := 6) h0 dL_areVehiclesSo_5 ki_0 rfl ?_
  obtain ⟨r6, h6, h⟩ := b1_some h
  refine q_callV (n := 1) (pc' := 9) vl_769 vl_770 vl_771 vl_772 vl_28 ⟨by decide +kernel, by decide +kernel, by decide +kernel⟩ [.int 0] [.int r1] h0 hK (stab_T g) (c_X7_queue g fu 0 S h6) rfl rfl dL_areVehiclesSo_6 rfl (Nat.le_of_ble_eq_true rfl) ⟨rfl, rfl, (Nat.le_of_ble_eq_true rfl), (Nat.le_of_ble_eq_true rfl)⟩ ⟨by show 0 ≤ 14; omega, by show 6 * 0 ≤ 6 * 14; omega⟩ ?_
  show LQ X (D1 g X) 4 0 (pW g S) [(0, .ref (wA (wC g) 7 0))] 9 [.int r6, .int r1]
  refine l_iadd (pc' := 10) h0 dL_areVehiclesSo_9 rfl ?_
  refine l_istore_n (pc' := 11) (L' := [(1, .int (r1 + r6)), (0, .ref (wA (wC g) 7 0))]) h0 dL_areVehiclesSo_10 rfl (Nat.le_of_ble_eq_true rfl) rfl rfl ?_
  refine l_aload_n (pc' := 12) h0 1 dL_areVehiclesSo_11 rfl rfl rfl ?_
  obtain ⟨r12, h12, h⟩ := b1_some h
  refine q_callV (n := 0) (pc' := 15) vl_734 vl_735 vl_736 vl_737 vl_28 ⟨by decide +kernel, by decide +kernel, by decide +kernel⟩ [] [] h0 hK (stab_T g) (c_X7_clock g fu S h12) rfl rfl dL_areVehiclesSo_12 rfl (Nat.le_of_ble_eq_true rfl) ⟨rfl, rfl, (Nat.le_of_ble_eq_true rfl), (Nat.le_of_ble_eq_true rfl)⟩ ⟨by show 0 ≤ 14; omega, by show 6 * 0 ≤ 6 * 14; omega⟩ ?_
  show LQ X (D1 g X) 4 0 (pW g S) [(1, .int (r1 + r6)), (0, .ref (wA (wC g) 7 0))] 15 [.int r12]
  refine l_if_lt (pt := 58) (pf := 18) h0 dL_areVehiclesSo_15 rfl rfl h (fun c15 h => ?_) (fun c15 h => ?_)
  · refine l_sub (L' := [(0, .ref (wA (wC g) 7 0)), (1, .int (r1 + r6))]) [1, 0] rfl ?_
    exact w_L_areVehiclesSo_58 h0 hK fu S hE 0 (by omega) (r1 + r6) h
  · refine l_aload_n (pc' := 19) h0 1 dL_areVehiclesSo_18 rfl rfl rfl ?_
    obtain ⟨r19, h19, h⟩ := b1_some h
    refine q_callV (n := 0) (pc' := 22) vl_734 vl_735 vl_736 vl_737 vl_28 ⟨by decide +kernel, by decide +kernel, by decide +kernel⟩ [] [] h0 hK (stab_T g) (c_X7_clock g fu S h19) rfl rfl dL_areVehiclesSo_19 rfl (Nat.le_of_ble_eq_true rfl) ⟨rfl, rfl, (Nat.le_of_ble_eq_true rfl), (Nat.le_of_ble_eq_true rfl)⟩ ⟨by show 0 ≤ 14; omega, by show 6 * 0 ≤ 6 * 14; omega⟩ ?_
    show LQ X (D1 g X) 4 0 (pW g S) [(1, .int (r1 + r6)), (0, .ref (wA (wC g) 7 0))] 22 [.int r19]
    refine l_sipush (pc' := 25) h0 dL_areVehiclesSo_22 ks_7200 rfl ?_
    refine l_ic_gt (pt := 58) (pf := 28) h0 dL_areVehiclesSo_25 rfl rfl h (fun c25 h => ?_) (fun c25 h => ?_)
    · refine l_sub (L' := [(0, .ref (wA (wC g) 7 0)), (1, .int (r1 + r6))]) [1, 0] rfl ?_
      exact w_L_areVehiclesSo_58 h0 hK fu S hE 0 (by omega) (r1 + r6) h
    · refine l_iconst (pc' := 29) h0 dL_areVehiclesSo_28 ki_2 rfl ?_
      refine l_aload_n (pc' := 30) h0 1 dL_areVehiclesSo_29 rfl rfl rfl ?_
      obtain ⟨r30, h30, h⟩ := b1_some h
      refine q_callV (n := 0) (pc' := 33) vl_741 vl_742 vl_743 vl_744 vl_28 ⟨by decide +kernel, by decide +kernel, by decide +kernel⟩ [] [.int 2] h0 hK (stab_T g) (c_X7_come g fu S h30) rfl rfl dL_areVehiclesSo_30 rfl (Nat.le_of_ble_eq_true rfl) ⟨rfl, rfl, (Nat.le_of_ble_eq_true rfl), (Nat.le_of_ble_eq_true rfl)⟩ ⟨by show 0 ≤ 14; omega, by show 6 * 0 ≤ 6 * 14; omega⟩ ?_
      show LQ X (D1 g X) 4 0 (pW g S) [(1, .int (r1 + r6)), (0, .ref (wA (wC g) 7 0))] 33 [.int r30, .int 2]
      refine l_imul (pc' := 34) h0 dL_areVehiclesSo_33 rfl ?_
      refine l_aload_n (pc' := 35) h0 1 dL_areVehiclesSo_34 rfl rfl rfl ?_
      obtain ⟨r35, h35, h⟩ := b1_some h
      refine q_callV (n := 0) (pc' := 38) vl_734 vl_735 vl_736 vl_737 vl_28 ⟨by decide +kernel, by decide +kernel, by decide +kernel⟩ [] [.int (2 * r30)] h0 hK (stab_T g) (c_X7_clock g fu S h35) rfl rfl dL_areVehiclesSo_35 rfl (Nat.le_of_ble_eq_true rfl) ⟨rfl, rfl, (Nat.le_of_ble_eq_true rfl), (Nat.le_of_ble_eq_true rfl)⟩ ⟨by show 0 ≤ 14; omega, by show 6 * 0 ≤ 6 * 14; omega⟩ ?_
      show LQ X (D1 g X) 4 0 (pW g S) [(1, .int (r1 + r6)), (0, .ref (wA (wC g) 7 0))] 38 [.int r35, .int (2 * r30)]
      refine l_ic_gt (pt := 58) (pf := 41) h0 dL_areVehiclesSo_38 rfl rfl h (fun c38 h => ?_) (fun c38 h => ?_)
      · refine l_sub (L' := [(0, .ref (wA (wC g) 7 0)), (1, .int (r1 + r6))]) [1, 0] rfl ?_
        exact w_L_areVehiclesSo_58 h0 hK fu S hE 0 (by omega) (r1 + r6) h
      · refine l_iconst (pc' := 42) h0 dL_areVehiclesSo_41 ki_2 rfl ?_
        refine l_aload_n (pc' := 43) h0 1 dL_areVehiclesSo_42 rfl rfl rfl ?_
        obtain ⟨r43, h43, h⟩ := b1_some h
        refine q_callV (n := 0) (pc' := 46) vl_745 vl_746 vl_747 vl_748 vl_28 ⟨by decide +kernel, by decide +kernel, by decide +kernel⟩ [] [.int 2] h0 hK (stab_T g) (c_X7_through g fu S h43) rfl rfl dL_areVehiclesSo_43 rfl (Nat.le_of_ble_eq_true rfl) ⟨rfl, rfl, (Nat.le_of_ble_eq_true rfl), (Nat.le_of_ble_eq_true rfl)⟩ ⟨by show 0 ≤ 14; omega, by show 6 * 0 ≤ 6 * 14; omega⟩ ?_
        show LQ X (D1 g X) 4 0 (pW g S) [(1, .int (r1 + r6)), (0, .ref (wA (wC g) 7 0))] 46 [.int r43, .int 2]
        refine l_imul (pc' := 47) h0 dL_areVehiclesSo_46 rfl ?_
        refine l_aload_n (pc' := 48) h0 1 dL_areVehiclesSo_47 rfl rfl rfl ?_
        obtain ⟨r48, h48, h⟩ := b1_some h
        refine q_callV (n := 0) (pc' := 51) vl_734 vl_735 vl_736 vl_737 vl_28 ⟨by decide +kernel, by decide +kernel, by decide +kernel⟩ [] [.int (2 * r43)] h0 hK (stab_T g) (c_X7_clock g fu S h48) rfl rfl dL_areVehiclesSo_48 rfl (Nat.le_of_ble_eq_true rfl) ⟨rfl, rfl, (Nat.le_of_ble_eq_true rfl), (Nat.le_of_ble_eq_true rfl)⟩ ⟨by show 0 ≤ 14; omega, by show 6 * 0 ≤ 6 * 14; omega⟩ ?_
        show LQ X (D1 g X) 4 0 (pW g S) [(1, .int (r1 + r6)), (0, .ref (wA (wC g) 7 0))] 51 [.int r48, .int (2 * r43)]
        refine l_ic_gt (pt := 58) (pf := 54) h0 dL_areVehiclesSo_51 rfl rfl h (fun c51 h => ?_) (fun c51 h => ?_)
        · refine l_sub (L' := [(0, .ref (wA (wC g) 7 0)), (1, .int (r1 + r6))]) [1, 0] rfl ?_
          exact w_L_areVehiclesSo_58 h0 hK fu S hE 0 (by omega) (r1 + r6) h
        · refine l_iconst (pc' := 55) h0 dL_areVehiclesSo_54 ki_1 rfl ?_
          refine l_goto (pc' := 59) h0 dL_areVehiclesSo_55 rfl ?_
          refine l_sub (L' := [(0, .ref (wA (wC g) 7 0)), (1, .int (r1 + r6))]) [1, 0] rfl ?_
          exact w_L_areVehiclesSo_59 h0 hK fu S hE 0 (by omega) (r1 + r6) 1 h
