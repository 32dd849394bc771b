theorem w_X8_offset_30 {g : GR} {X : MX} {r : Int32} {S' : Mem} (h0 : CX RX8 cX8_offset 2 rm_X8_offset X (wR g)) (fu : Nat) (x1 : Int32) (hE : EN (some .int) (some (.int r)) S' X (wR g)) : ∀ (t0 : Int32) (S : Mem), f_X8_offset_30 fu x1 t0 S = some (r, S') → GV X (wR g) 2 0 0 S [] 30 [.int t0] := by
  intro t0 S h
  rw [f_X8_offset_30] at h
  exact r_iret h0 hE dX8_offset_30 h
theorem w_X8_offset_14 {g : GR} {X : MX} {r : Int32} {S' : Mem} (h0 : CX RX8 cX8_offset 2 rm_X8_offset X (wR g)) (fu : Nat) (x1 : Int32) (hE : EN (some .int) (some (.int r)) S' X (wR g)) : ∀ (t0 : Int32) (S : Mem), f_X8_offset_14 fu x1 t0 S = some (r, S') → GV X (wR g) 2 0 0 S [(0, .ref (wA (wR g) 8 0)), (1, .int x1)] 14 [.int t0, .ref (wA (wR g) 8 0)] := by
  intro t0 S h
  rw [f_X8_offset_14] at h
  obtain ⟨r14, S14, h14, h⟩ := b2_some h
  refine go_V (k_X8_102 g) (st2 := [.int r14]) (pc' := 17) [.int t0] [] h0 (Nat.le_of_ble_eq_true rfl) (c_X8_holds g fu t0 S h14) rfl rfl dX8_offset_14 rfl (Nat.le_of_ble_eq_true rfl) ⟨rfl, rfl, Nat.le_of_ble_eq_true rfl, Nat.le_of_ble_eq_true rfl⟩ ⟨Nat.le_of_ble_eq_true rfl, Nat.le_of_ble_eq_true rfl⟩ rfl ?_
  refine r_if_eq (pt := 29) (pf := 20) h0 dX8_offset_17 rfl rfl h (fun c17 h => ?_) (fun c17 h => ?_)
  · refine r_iconst (pc' := 30) h0 dX8_offset_29 ki_0 rfl ?_
    refine r_sub (L' := []) [] rfl ?_
    exact w_X8_offset_30 h0 fu x1 hE 0 S14 h
  · refine r_aload_n (pc' := 21) h0 0 dX8_offset_20 rfl rfl rfl ?_
    refine gf_X8_22 (pc' := 24) h0 (Nat.le_of_ble_eq_true rfl) dX8_offset_21 rfl ?_
    refine r_iload_n (pc' := 25) h0 1 dX8_offset_24 rfl rfl rfl ?_
    refine r_ialdA (pc' := 26) h0 (ia_24 g) (Nat.le_of_ble_eq_true rfl) dX8_offset_25 rfl h (fun h => ?_)
    refine r_goto (pc' := 30) h0 dX8_offset_26 rfl ?_
    refine r_sub (L' := []) [] rfl ?_
    exact w_X8_offset_30 h0 fu x1 hE (S14.1 24 0 (x1 : Int32).toNatClampNeg) S14 h
/-- the machine does what f_X8_offset says -/
theorem c_X8_offset (g : GR) (fu : Nat) (x1 : Int32) (S : Mem) {r : Int32} {S' : Mem} (h : f_X8_offset fu x1 S = some (r, S')) : ctN yX8_offset cX8_offset 2 (some .int) rm_X8_offset (wR g) [.ref (wA (wR g) 8 0), .int x1] S (some (.int r)) S' := by
  refine ct_of (own := RX8) (L := [(0, .ref (wA (wR g) 8 0)), (1, .int x1)]) (by decide +kernel) rfl (Nat.le_of_ble_eq_true rfl) rfl (fun X h0 hE => ?_)
  rw [f_X8_offset] at h
  refine r_aload_n (pc' := 1) h0 0 dX8_offset_0 rfl rfl rfl ?_
  refine r_aload_n (pc' := 2) h0 0 dX8_offset_1 rfl rfl rfl ?_
  refine r_iload_n (pc' := 3) h0 1 dX8_offset_2 rfl rfl rfl ?_
  obtain ⟨r3, h3, h⟩ := b1_some h
  refine go_V (k_X8_118 g) (st2 := [.int r3, .ref (wA (wR g) 8 0)]) (pc' := 6) [.int x1] [.ref (wA (wR g) 8 0)] h0 (Nat.le_of_ble_eq_true rfl) (c_X8_isJunction g fu x1 S h3) rfl rfl dX8_offset_3 rfl (Nat.le_of_ble_eq_true rfl) ⟨rfl, rfl, Nat.le_of_ble_eq_true rfl, Nat.le_of_ble_eq_true rfl⟩ ⟨Nat.le_of_ble_eq_true rfl, Nat.le_of_ble_eq_true rfl⟩ rfl ?_
  refine r_if_eq (pt := 13) (pf := 9) h0 dX8_offset_6 rfl rfl h (fun c6 h => ?_) (fun c6 h => ?_)
  · refine r_iconst (pc' := 14) h0 dX8_offset_13 ki_1 rfl ?_
    exact w_X8_offset_14 h0 fu x1 hE 1 S h
  · refine r_iconst (pc' := 10) h0 dX8_offset_9 ki_0 rfl ?_
    refine r_goto (pc' := 14) h0 dX8_offset_10 rfl ?_
    exact w_X8_offset_14 h0 fu x1 hE 0 S h
theorem w_X8_isGreen_81 {g : GR} {X : MX} {r : Int32} {S' : Mem} (h0 : CX RX8 cX8_isGreen 5 rm_X8_isGreen X (wR g)) (fu : Nat) (x1 : Int32) (x2 : Int32) (x3 : Int32) (hE : EN (some .boolean) (some (.int r)) S' X (wR g)) : ∀ (t0 : Int32) (S : Mem), f_X8_isGreen_81 fu x1 x2 x3 t0 S = some (r, S') → GV X (wR g) 5 0 0 S [] 81 [.int t0] := by
  intro t0 S h
  rw [f_X8_isGreen_81] at h
  exact r_zret h0 hE dX8_isGreen_81 h
theorem w_X8_isGreen_80 {g : GR} {X : MX} {r : Int32} {S' : Mem} (h0 : CX RX8 cX8_isGreen 5 rm_X8_isGreen X (wR g)) (fu : Nat) (x1 : Int32) (x2 : Int32) (x3 : Int32) (hE : EN (some .boolean) (some (.int r)) S' X (wR g)) : ∀ (S : Mem), f_X8_isGreen_80 fu x1 x2 x3 S = some (r, S') → GV X (wR g) 5 0 0 S [] 80 [] := by
  intro S h
  rw [f_X8_isGreen_80] at h
  refine r_iconst (pc' := 81) h0 dX8_isGreen_80 ki_0 rfl ?_
  exact w_X8_isGreen_81 h0 fu x1 x2 x3 hE 0 S h
theorem w_X8_isGreen_59 {g : GR} {X : MX} {r : Int32} {S' : Mem} (h0 : CX RX8 cX8_isGreen 5 rm_X8_isGreen X (wR g)) (fu : Nat) (x1 : Int32) (x2 : Int32) (x3 : Int32) (hE : EN (some .boolean) (some (.int r)) S' X (wR g)) : ∀ (t0 : Int32) (S : Mem), f_X8_isGreen_59 fu x1 x2 x3 t0 S = some (r, S') → GV X (wR g) 5 0 0 S [(0, .ref (wA (wR g) 8 0)), (1, .int x1), (2, .int x2), (3, .int x3)] 59 [.int t0, .ref (wA (wR g) 8 0)] := by
  intro t0 S h
  rw [f_X8_isGreen_59] at h
  obtain ⟨r59, S59, h59, h⟩ := b2_some h
  refine go_V (k_X8_102 g) (st2 := [.int r59]) (pc' := 62) [.int t0] [] h0 (Nat.le_of_ble_eq_true rfl) (c_X8_holds g fu t0 S h59) rfl rfl dX8_isGreen_59 rfl (Nat.le_of_ble_eq_true rfl) ⟨rfl, rfl, Nat.le_of_ble_eq_true rfl, Nat.le_of_ble_eq_true rfl⟩ ⟨Nat.le_of_ble_eq_true rfl, Nat.le_of_ble_eq_true rfl⟩ rfl ?_
  refine r_if_eq (pt := 80) (pf := 65) h0 dX8_isGreen_62 rfl rfl h (fun c62 h => ?_) (fun c62 h => ?_)
  · refine r_sub (L' := []) [] rfl ?_
    exact w_X8_isGreen_80 h0 fu x1 x2 x3 hE S59 h
  · refine r_aload_n (pc' := 66) h0 0 dX8_isGreen_65 rfl rfl rfl ?_
    refine r_iload_n (pc' := 67) h0 1 dX8_isGreen_66 rfl rfl rfl ?_
    refine r_iload_n (pc' := 68) h0 2 dX8_isGreen_67 rfl rfl rfl ?_
    refine r_iload_n (pc' := 69) h0 3 dX8_isGreen_68 rfl rfl rfl ?_
    refine r_iconst (pc' := 70) h0 dX8_isGreen_69 ki_0 rfl ?_
    obtain ⟨r70, h70, h⟩ := b1_some h
    refine go_V (k_X8_158 g) (st2 := [.int r70]) (pc' := 73) [.int x1, .int x2, .int x3, .int 0] [] h0 (Nat.le_of_ble_eq_true rfl) (c_X8_isGreenAt g fu x1 x2 x3 0 S59 h70) rfl rfl dX8_isGreen_70 rfl (Nat.le_of_ble_eq_true rfl) ⟨rfl, rfl, Nat.le_of_ble_eq_true rfl, Nat.le_of_ble_eq_true rfl⟩ ⟨Nat.le_of_ble_eq_true rfl, Nat.le_of_ble_eq_true rfl⟩ rfl ?_
    refine r_if_eq (pt := 80) (pf := 76) h0 dX8_isGreen_73 rfl rfl h (fun c73 h => ?_) (fun c73 h => ?_)
    · refine r_sub (L' := []) [] rfl ?_
      exact w_X8_isGreen_80 h0 fu x1 x2 x3 hE S59 h
    · refine r_iconst (pc' := 77) h0 dX8_isGreen_76 ki_1 rfl ?_
      refine r_goto (pc' := 81) h0 dX8_isGreen_77 rfl ?_
      refine r_sub (L' := []) [] rfl ?_
      exact w_X8_isGreen_81 h0 fu x1 x2 x3 hE 1 S59 h
theorem w_X8_isGreen_20 {g : GR} {X : MX} {r : Int32} {S' : Mem} (h0 : CX RX8 cX8_isGreen 5 rm_X8_isGreen X (wR g)) (fu : Nat) (x1 : Int32) (x2 : Int32) (x3 : Int32) (hE : EN (some .boolean) (some (.int r)) S' X (wR g)) : ∀ (t0 : Int32) (S : Mem), f_X8_isGreen_20 fu x1 x2 x3 t0 S = some (r, S') → GV X (wR g) 5 0 0 S [(0, .ref (wA (wR g) 8 0)), (1, .int x1), (2, .int x2), (3, .int x3)] 20 [.int t0] := by
  intro t0 S h
  rw [f_X8_isGreen_20] at h
  refine r_istore (pc' := 22) (L' := [(4, .int t0), (0, .ref (wA (wR g) 8 0)), (1, .int x1), (2, .int x2), (3, .int x3)]) h0 dX8_isGreen_20 (Nat.le_of_ble_eq_true rfl) rfl rfl ?_
  refine r_aload_n (pc' := 23) h0 1 dX8_isGreen_22 rfl rfl rfl ?_
  refine r_iload (pc' := 25) h0 0 dX8_isGreen_23 rfl rfl ?_
  refine r_if_ne (pt := 32) (pf := 28) h0 dX8_isGreen_25 rfl rfl h (fun c25 h => ?_) (fun c25 h => ?_)
  · refine r_iload_n (pc' := 33) h0 4 dX8_isGreen_32 rfl rfl rfl ?_
    refine r_iconst (pc' := 34) h0 dX8_isGreen_33 ki_0 rfl ?_
    refine r_ldc (pc' := 36) h0 v_1154 dX8_isGreen_34 rfl ?_
    obtain ⟨r36, h36, h⟩ := b1_some h
    refine go_S (k_X8_79 g) (st2 := [.int r36, .ref (wA (wR g) 8 0)]) (pc' := 39) [.int x3, .int 0, .int 100000] [.ref (wA (wR g) 8 0)] h0 (c_X8_in g fu x3 0 100000 S h36) rfl rfl dX8_isGreen_36 rfl (Nat.le_of_ble_eq_true rfl) ⟨rfl, rfl, Nat.le_of_ble_eq_true rfl, Nat.le_of_ble_eq_true rfl⟩ ⟨Nat.le_of_ble_eq_true rfl, Nat.le_of_ble_eq_true rfl⟩ rfl ?_
    refine r_if_ne (pt := 46) (pf := 42) h0 dX8_isGreen_39 rfl rfl h (fun c39 h => ?_) (fun c39 h => ?_)
    · refine r_aload_n (pc' := 47) h0 1 dX8_isGreen_46 rfl rfl rfl ?_
      refine r_iload_n (pc' := 48) h0 2 dX8_isGreen_47 rfl rfl rfl ?_
      obtain ⟨r48, S48, h48, h⟩ := b2_some h
      refine go_V (k_X8_181 g) (st2 := [.int r48, .ref (wA (wR g) 8 0)]) (pc' := 51) [.int x1] [.ref (wA (wR g) 8 0)] h0 (Nat.le_of_ble_eq_true rfl) (c_X8_isPlanned g fu x1 S h48) rfl rfl dX8_isGreen_48 rfl (Nat.le_of_ble_eq_true rfl) ⟨rfl, rfl, Nat.le_of_ble_eq_true rfl, Nat.le_of_ble_eq_true rfl⟩ ⟨Nat.le_of_ble_eq_true rfl, Nat.le_of_ble_eq_true rfl⟩ rfl ?_
      refine r_if_eq (pt := 58) (pf := 54) h0 dX8_isGreen_51 rfl rfl h (fun c51 h => ?_) (fun c51 h => ?_)
      · refine r_iconst (pc' := 59) h0 dX8_isGreen_58 ki_3 rfl ?_
        refine r_sub (L' := [(0, .ref (wA (wR g) 8 0)), (1, .int x1), (2, .int x2), (3, .int x3)]) [1, 2, 3, 4] rfl ?_
        exact w_X8_isGreen_59 h0 fu x1 x2 x3 hE 3 S48 h
      · refine r_iconst (pc' := 55) h0 dX8_isGreen_54 ki_0 rfl ?_
        refine r_goto (pc' := 59) h0 dX8_isGreen_55 rfl ?_
        refine r_sub (L' := [(0, .ref (wA (wR g) 8 0)), (1, .int x1), (2, .int x2), (3, .int x3)]) [1, 2, 3, 4] rfl ?_
        exact w_X8_isGreen_59 h0 fu x1 x2 x3 hE 0 S48 h
    · refine r_iconst (pc' := 43) h0 dX8_isGreen_42 ki_2 rfl ?_
      refine r_goto (pc' := 59) h0 dX8_isGreen_43 rfl ?_
      refine r_sub (L' := [(0, .ref (wA (wR g) 8 0)), (1, .int x1), (2, .int x2), (3, .int x3)]) [1, 2, 3, 4] rfl ?_
      exact w_X8_isGreen_59 h0 fu x1 x2 x3 hE 2 S h
  · refine r_iconst (pc' := 29) h0 dX8_isGreen_28 ki_1 rfl ?_
    refine r_goto (pc' := 59) h0 dX8_isGreen_29 rfl ?_
    refine r_sub (L' := [(0, .ref (wA (wR g) 8 0)), (1, .int x1), (2, .int x2), (3, .int x3)]) [1, 2, 3, 4] rfl ?_
    exact w_X8_isGreen_59 h0 fu x1 x2 x3 hE 1 S h
theorem w_X8_isGreen_19 {g : GR} {X : MX} {r : Int32} {S' : Mem} (h0 : CX RX8 cX8_isGreen 5 rm_X8_isGreen X (wR g)) (fu : Nat) (x1 : Int32) (x2 : Int32) (x3 : Int32) (hE : EN (some .boolean) (some (.int r)) S' X (wR g)) : ∀ (S : Mem), f_X8_isGreen_19 fu x1 x2 x3 S = some (r, S') → GV X (wR g) 5 0 0 S [(0, .ref (wA (wR g) 8 0)), (1, .int x1), (2, .int x2), (3, .int x3)] 19 [] := by
  intro S h
  rw [f_X8_isGreen_19] at h
  refine r_iconst (pc' := 20) h0 dX8_isGreen_19 ki_0 rfl ?_
  exact w_X8_isGreen_20 h0 fu x1 x2 x3 hE 0 S h
/-- the machine does what f_X8_isGreen says -/
theorem c_X8_isGreen (g : GR) (fu : Nat) (x1 : Int32) (x2 : Int32) (x3 : Int32) (S : Mem) {r : Int32} {S' : Mem} (h : f_X8_isGreen fu x1 x2 x3 S = some (r, S')) : ctN yX8_isGreen cX8_isGreen 5 (some .boolean) rm_X8_isGreen (wR g) [.ref (wA (wR g) 8 0), .int x1, .int x2, .int x3] S (some (.int r)) S' := by
  refine ct_of (own := RX8) (L := [(0, .ref (wA (wR g) 8 0)), (1, .int x1), (2, .int x2), (3, .int x3)]) (by decide +kernel) rfl (Nat.le_of_ble_eq_true rfl) rfl (fun X h0 hE => ?_)
  rw [f_X8_isGreen] at h
  refine r_aload_n (pc' := 1) h0 0 dX8_isGreen_0 rfl rfl rfl ?_
  refine r_iload_n (pc' := 2) h0 1 dX8_isGreen_1 rfl rfl rfl ?_
  obtain ⟨r2, h2, h⟩ := b1_some h
  refine go_V (k_X8_118 g) (st2 := [.int r2]) (pc' := 5) [.int x1] [] h0 (Nat.le_of_ble_eq_true rfl) (c_X8_isJunction g fu x1 S h2) rfl rfl dX8_isGreen_2 rfl (Nat.le_of_ble_eq_true rfl) ⟨rfl, rfl, Nat.le_of_ble_eq_true rfl, Nat.le_of_ble_eq_true rfl⟩ ⟨Nat.le_of_ble_eq_true rfl, Nat.le_of_ble_eq_true rfl⟩ rfl ?_
  refine r_if_eq (pt := 19) (pf := 8) h0 dX8_isGreen_5 rfl rfl h (fun c5 h => ?_) (fun c5 h => ?_)
  · exact w_X8_isGreen_19 h0 fu x1 x2 x3 hE S h
  · refine r_iload_n (pc' := 9) h0 2 dX8_isGreen_8 rfl rfl rfl ?_
    obtain ⟨r9, h9, h⟩ := b1_some h
    refine go_S (k_X8_121 g) (st2 := [.int r9]) (pc' := 12) [.int x2] [] h0 (c_X8_isMovement g fu x2 S h9) rfl rfl dX8_isGreen_9 rfl (Nat.le_of_ble_eq_true rfl) ⟨rfl, rfl, Nat.le_of_ble_eq_true rfl, Nat.le_of_ble_eq_true rfl⟩ ⟨Nat.le_of_ble_eq_true rfl, Nat.le_of_ble_eq_true rfl⟩ rfl ?_
    refine r_if_eq (pt := 19) (pf := 15) h0 dX8_isGreen_12 rfl rfl h (fun c12 h => ?_) (fun c12 h => ?_)
    · exact w_X8_isGreen_19 h0 fu x1 x2 x3 hE S h
    · refine r_iconst (pc' := 16) h0 dX8_isGreen_15 ki_1 rfl ?_
      refine r_goto (pc' := 20) h0 dX8_isGreen_16 rfl ?_
      exact w_X8_isGreen_20 h0 fu x1 x2 x3 hE 1 S h
theorem w_X8_isBreach_68 {g : GR} {X : MX} {r : Int32}  (h0 : CX RX8 cX8_isBreach 6 rm_X8_isBreach X (wR g)) (fu : Nat) (x1 : Int32) (x2 : Int32) (S : Mem) (hE : EN (some .boolean) (some (.int r)) S X (wR g)) (K2 : Int32 → Option Int32) (kK2 : ∀ (x3 : Int32), K2 x3 = some r → GV X (wR g) 6 0 0 S [(0, .ref (wA (wR g) 8 0)), (1, .int x1), (2, .int x2), (3, .int x3)] 2 []) : ∀ (x3 : Int32), f_X8_isBreach_68 fu K2 x1 x2 S x3 = some r → GV X (wR g) 6 0 0 S [(0, .ref (wA (wR g) 8 0)), (1, .int x1), (2, .int x2), (3, .int x3)] 68 [] := by
  intro x3 h
  rw [f_X8_isBreach_68] at h
  refine r_iinc (pc' := 71) (L' := [(3, .int (x3 + 1)), (0, .ref (wA (wR g) 8 0)), (1, .int x1), (2, .int x2)]) h0 3 dX8_isBreach_68 rfl ki_1 (Nat.le_of_ble_eq_true rfl) rfl rfl ?_
  refine r_goto (pc' := 2) h0 dX8_isBreach_71 rfl ?_
  refine r_sub (L' := [(0, .ref (wA (wR g) 8 0)), (1, .int x1), (2, .int x2), (3, .int (x3 + 1))]) [1, 2, 3, 0] rfl ?_
  exact kK2 (x3 + 1) h
theorem w_X8_isBreach_24 {g : GR} {X : MX} {r : Int32}  (h0 : CX RX8 cX8_isBreach 6 rm_X8_isBreach X (wR g)) (fu : Nat) (x1 : Int32) (x2 : Int32) (S : Mem) (hE : EN (some .boolean) (some (.int r)) S X (wR g)) (K2 : Int32 → Option Int32) (kK2 : ∀ (x3 : Int32), K2 x3 = some r → GV X (wR g) 6 0 0 S [(0, .ref (wA (wR g) 8 0)), (1, .int x1), (2, .int x2), (3, .int x3)] 2 []) : ∀ (n : Nat) (x3 : Int32) (x4 : Int32) (x5 : Int32), f_X8_isBreach_24 fu K2 x1 x2 S n x3 x4 x5 = some r → GV X (wR g) 6 0 0 S [(0, .ref (wA (wR g) 8 0)), (1, .int x1), (2, .int x2), (3, .int x3), (4, .int x4), (5, .int x5)] 24 [] := by
  intro n
  induction n with
  | zero =>
    intro x3 x4 x5 h
    exact nomatch (show none = _ from h)
  | succ n ih =>
    intro x3 x4 x5 h
    rw [f_X8_isBreach_24] at h
    refine r_iload (pc' := 26) h0 5 dX8_isBreach_24 rfl rfl ?_
    refine r_iload (pc' := 28) h0 4 dX8_isBreach_26 rfl rfl ?_
    refine r_ic_gt (pt := 68) (pf := 31) h0 dX8_isBreach_28 rfl rfl h (fun c28 h => ?_) (fun c28 h => ?_)
    · refine r_sub (L' := [(0, .ref (wA (wR g) 8 0)), (1, .int x1), (2, .int x2), (3, .int x3)]) [0, 1, 2, 3] rfl ?_
      exact w_X8_isBreach_68 h0 fu x1 x2 S hE K2 kK2 x3 h
    · refine r_aload_n (pc' := 32) h0 0 dX8_isBreach_31 rfl rfl rfl ?_
      refine r_iload_n (pc' := 33) h0 1 dX8_isBreach_32 rfl rfl rfl ?_
      refine r_iload_n (pc' := 34) h0 3 dX8_isBreach_33 rfl rfl rfl ?_
      refine r_iconst (pc' := 35) h0 dX8_isBreach_34 ki_4 rfl ?_
      refine r_idiv (pc' := 36) h0 dX8_isBreach_35 rfl h (fun h => ?_)
      refine r_iload_n (pc' := 37) h0 2 dX8_isBreach_36 rfl rfl rfl ?_
      refine r_iconst (pc' := 38) h0 dX8_isBreach_37 ki_0 rfl ?_
      obtain ⟨r38, h38, h⟩ := b1_some h
      refine go_V (k_X8_158 g) (st2 := [.int r38]) (pc' := 41) [.int x1, .int (x3 / 4), .int x2, .int 0] [] h0 (Nat.le_of_ble_eq_true rfl) (c_X8_isGreenAt g fu x1 (x3 / 4) x2 0 S h38) rfl rfl dX8_isBreach_38 rfl (Nat.le_of_ble_eq_true rfl) ⟨rfl, rfl, Nat.le_of_ble_eq_true rfl, Nat.le_of_ble_eq_true rfl⟩ ⟨Nat.le_of_ble_eq_true rfl, Nat.le_of_ble_eq_true rfl⟩ rfl ?_
      refine r_if_eq (pt := 68) (pf := 44) h0 dX8_isBreach_41 rfl rfl h (fun c41 h => ?_) (fun c41 h => ?_)
      · refine r_sub (L' := [(0, .ref (wA (wR g) 8 0)), (1, .int x1), (2, .int x2), (3, .int x3)]) [0, 1, 2, 3] rfl ?_
        exact w_X8_isBreach_68 h0 fu x1 x2 S hE K2 kK2 x3 h
      · refine r_aload_n (pc' := 45) h0 0 dX8_isBreach_44 rfl rfl rfl ?_
        refine r_iload_n (pc' := 46) h0 1 dX8_isBreach_45 rfl rfl rfl ?_
        refine r_iload_n (pc' := 47) h0 3 dX8_isBreach_46 rfl rfl rfl ?_
        refine r_iconst (pc' := 48) h0 dX8_isBreach_47 ki_4 rfl ?_
        refine r_irem (pc' := 49) h0 dX8_isBreach_48 rfl h (fun h => ?_)
        refine r_iload_n (pc' := 50) h0 2 dX8_isBreach_49 rfl rfl rfl ?_
        refine r_iload (pc' := 52) h0 5 dX8_isBreach_50 rfl rfl ?_
        refine r_iadd (pc' := 53) h0 dX8_isBreach_52 rfl ?_
        refine r_iconst (pc' := 54) h0 dX8_isBreach_53 ki_0 rfl ?_
        obtain ⟨r54, h54, h⟩ := b1_some h
        refine go_V (k_X8_158 g) (st2 := [.int r54]) (pc' := 57) [.int x1, .int (x3 - x3 / 4 * 4), .int (x2 + x5), .int 0] [] h0 (Nat.le_of_ble_eq_true rfl) (c_X8_isGreenAt g fu x1 (x3 - x3 / 4 * 4) (x2 + x5) 0 S h54) rfl rfl dX8_isBreach_54 rfl (Nat.le_of_ble_eq_true rfl) ⟨rfl, rfl, Nat.le_of_ble_eq_true rfl, Nat.le_of_ble_eq_true rfl⟩ ⟨Nat.le_of_ble_eq_true rfl, Nat.le_of_ble_eq_true rfl⟩ rfl ?_
        refine r_if_eq (pt := 62) (pf := 60) h0 dX8_isBreach_57 rfl rfl h (fun c57 h => ?_) (fun c57 h => ?_)
        · refine r_iinc (pc' := 65) (L' := [(5, .int (x5 + 1)), (0, .ref (wA (wR g) 8 0)), (1, .int x1), (2, .int x2), (3, .int x3), (4, .int x4)]) h0 5 dX8_isBreach_62 rfl ki_1 (Nat.le_of_ble_eq_true rfl) rfl rfl ?_
          refine r_goto (pc' := 24) h0 dX8_isBreach_65 rfl ?_
          refine r_sub (L' := [(0, .ref (wA (wR g) 8 0)), (1, .int x1), (2, .int x2), (3, .int x3), (4, .int x4), (5, .int (x5 + 1))]) [1, 2, 3, 4, 5, 0] rfl ?_
          exact ih x3 x4 (x5 + 1) h
        · refine r_iconst (pc' := 61) h0 dX8_isBreach_60 ki_1 rfl ?_
          exact r_zretR h0 hE dX8_isBreach_61 h
theorem w_X8_isBreach_2 {g : GR} {X : MX} {r : Int32}  (h0 : CX RX8 cX8_isBreach 6 rm_X8_isBreach X (wR g)) (fu : Nat) (x1 : Int32) (x2 : Int32) (S : Mem) (hE : EN (some .boolean) (some (.int r)) S X (wR g)) : ∀ (n : Nat) (x3 : Int32), f_X8_isBreach_2 fu x1 x2 S n x3 = some r → GV X (wR g) 6 0 0 S [(0, .ref (wA (wR g) 8 0)), (1, .int x1), (2, .int x2), (3, .int x3)] 2 [] := by
  intro n
  induction n with
  | zero =>
    intro x3 h
    exact nomatch (show none = _ from h)
  | succ n ih =>
    intro x3 h
    rw [f_X8_isBreach_2] at h
    refine r_iload_n (pc' := 3) h0 3 dX8_isBreach_2 rfl rfl rfl ?_
    refine r_bipush (pc' := 5) h0 dX8_isBreach_3 kb_16 rfl ?_
    refine r_ic_ge (pt := 74) (pf := 8) h0 dX8_isBreach_5 rfl rfl h (fun c5 h => ?_) (fun c5 h => ?_)
    · refine r_iconst (pc' := 75) h0 dX8_isBreach_74 ki_0 rfl ?_
      exact r_zretR h0 hE dX8_isBreach_75 h
    · refine r_aload_n (pc' := 9) h0 0 dX8_isBreach_8 rfl rfl rfl ?_
      refine gf_X8_7 (pc' := 12) h0 (Nat.le_of_ble_eq_true rfl) dX8_isBreach_9 rfl ?_
      refine r_bipush (pc' := 14) h0 dX8_isBreach_12 kb_16 rfl ?_
      refine r_iload_n (pc' := 15) h0 1 dX8_isBreach_14 rfl rfl rfl ?_
      refine r_imul (pc' := 16) h0 dX8_isBreach_15 rfl ?_
      refine r_iload_n (pc' := 17) h0 3 dX8_isBreach_16 rfl rfl rfl ?_
      refine r_iadd (pc' := 18) h0 dX8_isBreach_17 rfl ?_
      refine r_ialdA (pc' := 19) h0 (ia_20 g) (Nat.le_of_ble_eq_true rfl) dX8_isBreach_18 rfl h (fun h => ?_)
      refine r_istore (pc' := 21) (L' := [(4, .int (S.1 20 0 (((16 * x1) + x3) : Int32).toNatClampNeg)), (0, .ref (wA (wR g) 8 0)), (1, .int x1), (2, .int x2), (3, .int x3)]) h0 dX8_isBreach_19 (Nat.le_of_ble_eq_true rfl) rfl rfl ?_
      refine r_iconst (pc' := 22) h0 dX8_isBreach_21 ki_0 rfl ?_
      refine r_istore (pc' := 24) (L' := [(5, .int 0), (4, .int (S.1 20 0 (((16 * x1) + x3) : Int32).toNatClampNeg)), (0, .ref (wA (wR g) 8 0)), (1, .int x1), (2, .int x2), (3, .int x3)]) h0 dX8_isBreach_22 (Nat.le_of_ble_eq_true rfl) rfl rfl ?_
      refine r_sub (L' := [(0, .ref (wA (wR g) 8 0)), (1, .int x1), (2, .int x2), (3, .int x3), (4, .int (S.1 20 0 (((16 * x1) + x3) : Int32).toNatClampNeg)), (5, .int 0)]) [2, 3, 4, 5, 1, 0] rfl ?_
      exact w_X8_isBreach_24 h0 fu x1 x2 S hE (f_X8_isBreach_2 fu x1 x2 S n) ih fu x3 (S.1 20 0 (((16 * x1) + x3) : Int32).toNatClampNeg) 0 h
/-- the machine does what f_X8_isBreach says -/
theorem c_X8_isBreach (g : GR) (fu : Nat) (x1 : Int32) (x2 : Int32) (S : Mem) {r : Int32}  (h : f_X8_isBreach fu x1 x2 S = some r) : ctN yX8_isBreach cX8_isBreach 6 (some .boolean) rm_X8_isBreach (wR g) [.ref (wA (wR g) 8 0), .int x1, .int x2] S (some (.int r)) S := by
  refine ct_of (own := RX8) (L := [(0, .ref (wA (wR g) 8 0)), (1, .int x1), (2, .int x2)]) (by decide +kernel) rfl (Nat.le_of_ble_eq_true rfl) rfl (fun X h0 hE => ?_)
  rw [f_X8_isBreach] at h
  refine r_iconst (pc' := 1) h0 dX8_isBreach_0 ki_0 rfl ?_
  refine r_istore_n (pc' := 2) (L' := [(3, .int 0), (0, .ref (wA (wR g) 8 0)), (1, .int x1), (2, .int x2)]) h0 dX8_isBreach_1 rfl (Nat.le_of_ble_eq_true rfl) rfl rfl ?_
  refine r_sub (L' := [(0, .ref (wA (wR g) 8 0)), (1, .int x1), (2, .int x2), (3, .int 0)]) [1, 2, 3, 0] rfl ?_
  exact w_X8_isBreach_2 h0 fu x1 x2 S hE fu 0 h
theorem w_X8_breaches_61 {g : GR} {X : MX} {r : Int32} {S' : Mem} (h0 : CX RX8 cX8_breaches 4 rm_X8_breaches X (wR g)) (fu : Nat) (x1 : Int32) (hE : EN (some .int) (some (.int r)) S' X (wR g)) (K38 : Int32 → Int32 → Mem → Option (Int32 × Mem)) (kK38 : ∀ (x2 : Int32) (x3 : Int32) (S : Mem), K38 x2 x3 S = some (r, S') → GV X (wR g) 4 0 0 S [(0, .ref (wA (wR g) 8 0)), (1, .int x1), (2, .int x2), (3, .int x3)] 38 []) : ∀ (x3 : Int32) (t0 : Int32) (t1 : Int32) (S : Mem), f_X8_breaches_61 fu K38 x1 x3 t0 t1 S = some (r, S') → GV X (wR g) 4 0 0 S [(0, .ref (wA (wR g) 8 0)), (1, .int x1), (3, .int x3)] 61 [.int t0, .int t1] := by
  intro x3 t0 t1 S h
  rw [f_X8_breaches_61] at h
  refine r_iadd (pc' := 62) h0 dX8_breaches_61 rfl ?_
  refine r_istore_n (pc' := 63) (L' := [(2, .int (t1 + t0)), (0, .ref (wA (wR g) 8 0)), (1, .int x1), (3, .int x3)]) h0 dX8_breaches_62 rfl (Nat.le_of_ble_eq_true rfl) rfl rfl ?_
  refine r_iinc (pc' := 66) (L' := [(3, .int (x3 + 1)), (2, .int (t1 + t0)), (0, .ref (wA (wR g) 8 0)), (1, .int x1)]) h0 3 dX8_breaches_63 rfl ki_1 (Nat.le_of_ble_eq_true rfl) rfl rfl ?_
  refine r_goto (pc' := 38) h0 dX8_breaches_66 rfl ?_
  refine r_sub (L' := [(0, .ref (wA (wR g) 8 0)), (1, .int x1), (2, .int (t1 + t0)), (3, .int (x3 + 1))]) [2, 3, 1, 0] rfl ?_
  exact kK38 (t1 + t0) (x3 + 1) S h
theorem w_X8_breaches_38 {g : GR} {X : MX} {r : Int32} {S' : Mem} (h0 : CX RX8 cX8_breaches 4 rm_X8_breaches X (wR g)) (fu : Nat) (x1 : Int32) (hE : EN (some .int) (some (.int r)) S' X (wR g)) : ∀ (n : Nat) (x2 : Int32) (x3 : Int32) (S : Mem), f_X8_breaches_38 fu x1 n x2 x3 S = some (r, S') → GV X (wR g) 4 0 0 S [(0, .ref (wA (wR g) 8 0)), (1, .int x1), (2, .int x2), (3, .int x3)] 38 [] := by
  intro n
  induction n with
  | zero =>
    intro x2 x3 S h
    exact nomatch (show none = _ from h)
  | succ n ih =>
    intro x2 x3 S h
    rw [f_X8_breaches_38] at h
    refine r_iload_n (pc' := 39) h0 3 dX8_breaches_38 rfl rfl rfl ?_
    refine r_aload_n (pc' := 40) h0 0 dX8_breaches_39 rfl rfl rfl ?_
    refine gf_X8_83 (pc' := 43) h0 (Nat.le_of_ble_eq_true rfl) dX8_breaches_40 rfl ?_
    refine r_ic_ge (pt := 69) (pf := 46) h0 dX8_breaches_43 rfl rfl h (fun c43 h => ?_) (fun c43 h => ?_)
    · refine r_iload_n (pc' := 70) h0 2 dX8_breaches_69 rfl rfl rfl ?_
      exact r_iret h0 hE dX8_breaches_70 h
    · refine r_iload_n (pc' := 47) h0 2 dX8_breaches_46 rfl rfl rfl ?_
      refine r_aload_n (pc' := 48) h0 0 dX8_breaches_47 rfl rfl rfl ?_
      refine r_iload_n (pc' := 49) h0 1 dX8_breaches_48 rfl rfl rfl ?_
      refine r_iload_n (pc' := 50) h0 3 dX8_breaches_49 rfl rfl rfl ?_
      obtain ⟨r50, h50, h⟩ := b1_some h
      refine go_V (k_X8_188 g) (st2 := [.int r50, .int x2]) (pc' := 53) [.int x1, .int x3] [.int x2] h0 (Nat.le_of_ble_eq_true rfl) (c_X8_isBreach g fu x1 x3 S h50) rfl rfl dX8_breaches_50 rfl (Nat.le_of_ble_eq_true rfl) ⟨rfl, rfl, Nat.le_of_ble_eq_true rfl, Nat.le_of_ble_eq_true rfl⟩ ⟨Nat.le_of_ble_eq_true rfl, Nat.le_of_ble_eq_true rfl⟩ rfl ?_
      refine r_if_eq (pt := 60) (pf := 56) h0 dX8_breaches_53 rfl rfl h (fun c53 h => ?_) (fun c53 h => ?_)
      · refine r_iconst (pc' := 61) h0 dX8_breaches_60 ki_0 rfl ?_
        refine r_sub (L' := [(0, .ref (wA (wR g) 8 0)), (1, .int x1), (3, .int x3)]) [0, 1, 3] rfl ?_
        exact w_X8_breaches_61 h0 fu x1 hE (f_X8_breaches_38 fu x1 n) ih x3 0 x2 S h
      · refine r_iconst (pc' := 57) h0 dX8_breaches_56 ki_1 rfl ?_
        refine r_goto (pc' := 61) h0 dX8_breaches_57 rfl ?_
        refine r_sub (L' := [(0, .ref (wA (wR g) 8 0)), (1, .int x1), (3, .int x3)]) [0, 1, 3] rfl ?_
        exact w_X8_breaches_61 h0 fu x1 hE (f_X8_breaches_38 fu x1 n) ih x3 1 x2 S h
theorem w_X8_breaches_26 {g : GR} {X : MX} {r : Int32} {S' : Mem} (h0 : CX RX8 cX8_breaches 4 rm_X8_breaches X (wR g)) (fu : Nat) (x1 : Int32) (hE : EN (some .int) (some (.int r)) S' X (wR g)) : ∀ (t0 : Int32) (S : Mem), f_X8_breaches_26 fu x1 t0 S = some (r, S') → GV X (wR g) 4 0 0 S [(0, .ref (wA (wR g) 8 0)), (1, .int x1)] 26 [.int t0, .ref (wA (wR g) 8 0)] := by
  intro t0 S h
  rw [f_X8_breaches_26] at h
  obtain ⟨r26, S26, h26, h⟩ := b2_some h
  refine go_V (k_X8_102 g) (st2 := [.int r26]) (pc' := 29) [.int t0] [] h0 (Nat.le_of_ble_eq_true rfl) (c_X8_holds g fu t0 S h26) rfl rfl dX8_breaches_26 rfl (Nat.le_of_ble_eq_true rfl) ⟨rfl, rfl, Nat.le_of_ble_eq_true rfl, Nat.le_of_ble_eq_true rfl⟩ ⟨Nat.le_of_ble_eq_true rfl, Nat.le_of_ble_eq_true rfl⟩ rfl ?_
  refine r_if_ne (pt := 34) (pf := 32) h0 dX8_breaches_29 rfl rfl h (fun c29 h => ?_) (fun c29 h => ?_)
  · refine r_iconst (pc' := 35) h0 dX8_breaches_34 ki_0 rfl ?_
    refine r_istore_n (pc' := 36) (L' := [(2, .int 0), (0, .ref (wA (wR g) 8 0)), (1, .int x1)]) h0 dX8_breaches_35 rfl (Nat.le_of_ble_eq_true rfl) rfl rfl ?_
    refine r_iconst (pc' := 37) h0 dX8_breaches_36 ki_0 rfl ?_
    refine r_istore_n (pc' := 38) (L' := [(3, .int 0), (2, .int 0), (0, .ref (wA (wR g) 8 0)), (1, .int x1)]) h0 dX8_breaches_37 rfl (Nat.le_of_ble_eq_true rfl) rfl rfl ?_
    refine r_sub (L' := [(0, .ref (wA (wR g) 8 0)), (1, .int x1), (2, .int 0), (3, .int 0)]) [2, 3, 1, 0] rfl ?_
    exact w_X8_breaches_38 h0 fu x1 hE fu 0 0 S26 h
  · refine r_iconst (pc' := 33) h0 dX8_breaches_32 ki_0 rfl ?_
    exact r_iret h0 hE dX8_breaches_33 h
/-- the machine does what f_X8_breaches says -/
theorem c_X8_breaches (g : GR) (fu : Nat) (x1 : Int32) (S : Mem) {r : Int32} {S' : Mem} (h : f_X8_breaches fu x1 S = some (r, S')) : ctN yX8_breaches cX8_breaches 4 (some .int) rm_X8_breaches (wR g) [.ref (wA (wR g) 8 0), .int x1] S (some (.int r)) S' := by
  refine ct_of (own := RX8) (L := [(0, .ref (wA (wR g) 8 0)), (1, .int x1)]) (by decide +kernel) rfl (Nat.le_of_ble_eq_true rfl) rfl (fun X h0 hE => ?_)
  rw [f_X8_breaches] at h
  refine r_aload_n (pc' := 1) h0 0 dX8_breaches_0 rfl rfl rfl ?_
  refine r_aload_n (pc' := 2) h0 0 dX8_breaches_1 rfl rfl rfl ?_
  refine r_iload_n (pc' := 3) h0 1 dX8_breaches_2 rfl rfl rfl ?_
  obtain ⟨r3, h3, h⟩ := b1_some h
  refine go_V (k_X8_118 g) (st2 := [.int r3, .ref (wA (wR g) 8 0)]) (pc' := 6) [.int x1] [.ref (wA (wR g) 8 0)] h0 (Nat.le_of_ble_eq_true rfl) (c_X8_isJunction g fu x1 S h3) rfl rfl dX8_breaches_3 rfl (Nat.le_of_ble_eq_true rfl) ⟨rfl, rfl, Nat.le_of_ble_eq_true rfl, Nat.le_of_ble_eq_true rfl⟩ ⟨Nat.le_of_ble_eq_true rfl, Nat.le_of_ble_eq_true rfl⟩ rfl ?_
  refine r_if_ne (pt := 13) (pf := 9) h0 dX8_breaches_6 rfl rfl h (fun c6 h => ?_) (fun c6 h => ?_)
  · refine r_aload_n (pc' := 14) h0 0 dX8_breaches_13 rfl rfl rfl ?_
    refine r_iload_n (pc' := 15) h0 1 dX8_breaches_14 rfl rfl rfl ?_
    obtain ⟨r15, S15, h15, h⟩ := b2_some h
    refine go_V (k_X8_181 g) (st2 := [.int r15, .ref (wA (wR g) 8 0)]) (pc' := 18) [.int x1] [.ref (wA (wR g) 8 0)] h0 (Nat.le_of_ble_eq_true rfl) (c_X8_isPlanned g fu x1 S h15) rfl rfl dX8_breaches_15 rfl (Nat.le_of_ble_eq_true rfl) ⟨rfl, rfl, Nat.le_of_ble_eq_true rfl, Nat.le_of_ble_eq_true rfl⟩ ⟨Nat.le_of_ble_eq_true rfl, Nat.le_of_ble_eq_true rfl⟩ rfl ?_
    refine r_if_eq (pt := 25) (pf := 21) h0 dX8_breaches_18 rfl rfl h (fun c18 h => ?_) (fun c18 h => ?_)
    · refine r_iconst (pc' := 26) h0 dX8_breaches_25 ki_2 rfl ?_
      exact w_X8_breaches_26 h0 fu x1 hE 2 S15 h
    · refine r_iconst (pc' := 22) h0 dX8_breaches_21 ki_0 rfl ?_
      refine r_goto (pc' := 26) h0 dX8_breaches_22 rfl ?_
      exact w_X8_breaches_26 h0 fu x1 hE 0 S15 h
  · refine r_iconst (pc' := 10) h0 dX8_breaches_9 ki_1 rfl ?_
    refine r_goto (pc' := 26) h0 dX8_breaches_10 rfl ?_
    exact w_X8_breaches_26 h0 fu x1 hE 1 S h
theorem w_X8_band_28 {g : GR} {X : MX} {r : Int32} {S' : Mem} (h0 : CX RX8 cX8_band 2 rm_X8_band X (wR g)) (fu : Nat) (x1 : Int32) (hE : EN (some .int) (some (.int r)) S' X (wR g)) : ∀ (t0 : Int32) (S : Mem), f_X8_band_28 fu x1 t0 S = some (r, S') → GV X (wR g) 2 0 0 S [] 28 [.int t0] := by
  intro t0 S h
  rw [f_X8_band_28] at h
  exact r_iret h0 hE dX8_band_28 h
theorem w_X8_band_13 {g : GR} {X : MX} {r : Int32} {S' : Mem} (h0 : CX RX8 cX8_band 2 rm_X8_band X (wR g)) (fu : Nat) (x1 : Int32) (hE : EN (some .int) (some (.int r)) S' X (wR g)) : ∀ (t0 : Int32) (S : Mem), f_X8_band_13 fu x1 t0 S = some (r, S') → GV X (wR g) 2 0 0 S [(0, .ref (wA (wR g) 8 0)), (1, .int x1)] 13 [.int t0, .ref (wA (wR g) 8 0)] := by
  intro t0 S h
  rw [f_X8_band_13] at h
  obtain ⟨r13, S13, h13, h⟩ := b2_some h
  refine go_V (k_X8_102 g) (st2 := [.int r13]) (pc' := 16) [.int t0] [] h0 (Nat.le_of_ble_eq_true rfl) (c_X8_holds g fu t0 S h13) rfl rfl dX8_band_13 rfl (Nat.le_of_ble_eq_true rfl) ⟨rfl, rfl, Nat.le_of_ble_eq_true rfl, Nat.le_of_ble_eq_true rfl⟩ ⟨Nat.le_of_ble_eq_true rfl, Nat.le_of_ble_eq_true rfl⟩ rfl ?_
  refine r_if_eq (pt := 27) (pf := 19) h0 dX8_band_16 rfl rfl h (fun c16 h => ?_) (fun c16 h => ?_)
  · refine r_iconst (pc' := 28) h0 dX8_band_27 ki_0 rfl ?_
    refine r_sub (L' := []) [] rfl ?_
    exact w_X8_band_28 h0 fu x1 hE 0 S13 h
  · refine r_aload_n (pc' := 20) h0 0 dX8_band_19 rfl rfl rfl ?_
    refine r_iload_n (pc' := 21) h0 1 dX8_band_20 rfl rfl rfl ?_
    obtain ⟨r21, h21, h⟩ := b1_some h
    refine go_V (k_X8_166 g) (st2 := [.int r21]) (pc' := 24) [.int x1] [] h0 (Nat.le_of_ble_eq_true rfl) (c_X8_bandOf g fu x1 S13 h21) rfl rfl dX8_band_21 rfl (Nat.le_of_ble_eq_true rfl) ⟨rfl, rfl, Nat.le_of_ble_eq_true rfl, Nat.le_of_ble_eq_true rfl⟩ ⟨Nat.le_of_ble_eq_true rfl, Nat.le_of_ble_eq_true rfl⟩ rfl ?_
    refine r_goto (pc' := 28) h0 dX8_band_24 rfl ?_
    refine r_sub (L' := []) [] rfl ?_
    exact w_X8_band_28 h0 fu x1 hE r21 S13 h
/-- the machine does what f_X8_band says -/
theorem c_X8_band (g : GR) (fu : Nat) (x1 : Int32) (S : Mem) {r : Int32} {S' : Mem} (h : f_X8_band fu x1 S = some (r, S')) : ctN yX8_band cX8_band 2 (some .int) rm_X8_band (wR g) [.ref (wA (wR g) 8 0), .int x1] S (some (.int r)) S' := by
  refine ct_of (own := RX8) (L := [(0, .ref (wA (wR g) 8 0)), (1, .int x1)]) (by decide +kernel) rfl (Nat.le_of_ble_eq_true rfl) rfl (fun X h0 hE => ?_)
  rw [f_X8_band] at h
  refine r_aload_n (pc' := 1) h0 0 dX8_band_0 rfl rfl rfl ?_
  refine r_aload_n (pc' := 2) h0 0 dX8_band_1 rfl rfl rfl ?_
  obtain ⟨r2, S2, h2, h⟩ := b2_some h
  refine go_V (k_X8_174 g) (st2 := [.int r2, .ref (wA (wR g) 8 0)]) (pc' := 5) [] [.ref (wA (wR g) 8 0)] h0 (Nat.le_of_ble_eq_true rfl) (c_X8_plansAll g fu S h2) rfl rfl dX8_band_2 rfl (Nat.le_of_ble_eq_true rfl) ⟨rfl, rfl, Nat.le_of_ble_eq_true rfl, Nat.le_of_ble_eq_true rfl⟩ ⟨Nat.le_of_ble_eq_true rfl, Nat.le_of_ble_eq_true rfl⟩ rfl ?_
  refine r_if_eq (pt := 12) (pf := 8) h0 dX8_band_5 rfl rfl h (fun c5 h => ?_) (fun c5 h => ?_)
  · refine r_iconst (pc' := 13) h0 dX8_band_12 ki_1 rfl ?_
    exact w_X8_band_13 h0 fu x1 hE 1 S2 h
  · refine r_iconst (pc' := 9) h0 dX8_band_8 ki_0 rfl ?_
    refine r_goto (pc' := 13) h0 dX8_band_9 rfl ?_
    exact w_X8_band_13 h0 fu x1 hE 0 S2 h
theorem w_X8_bestByAll_118 {g : GR} {X : MX} {r : Int32} {S' : Mem} (h0 : CX RX8 cX8_bestByAll 6 rm_X8_bestByAll X (wR g)) (fu : Nat) (hE : EN (some .int) (some (.int r)) S' X (wR g)) (K48 : Int32 → Int32 → Int32 → Int32 → Mem → Option (Int32 × Mem)) (kK48 : ∀ (x1 : Int32) (x2 : Int32) (x3 : Int32) (x4 : Int32) (S : Mem), K48 x1 x2 x3 x4 S = some (r, S') → GV X (wR g) 6 0 0 S [(0, .ref (wA (wR g) 8 0)), (1, .int x1), (2, .int x2), (3, .int x3), (4, .int x4)] 48 []) : ∀ (x1 : Int32) (x2 : Int32) (x4 : Int32) (t0 : Int32) (S : Mem), f_X8_bestByAll_118 fu K48 x1 x2 x4 t0 S = some (r, S') → GV X (wR g) 6 0 0 S [(0, .ref (wA (wR g) 8 0)), (1, .int x1), (2, .int x2), (4, .int x4)] 118 [.int t0] := by
  intro x1 x2 x4 t0 S h
  rw [f_X8_bestByAll_118] at h
  refine r_istore_n (pc' := 119) (L' := [(3, .int t0), (0, .ref (wA (wR g) 8 0)), (1, .int x1), (2, .int x2), (4, .int x4)]) h0 dX8_bestByAll_118 rfl (Nat.le_of_ble_eq_true rfl) rfl rfl ?_
  refine r_iinc (pc' := 122) (L' := [(4, .int (x4 + 1)), (3, .int t0), (0, .ref (wA (wR g) 8 0)), (1, .int x1), (2, .int x2)]) h0 4 dX8_bestByAll_119 rfl ki_1 (Nat.le_of_ble_eq_true rfl) rfl rfl ?_
  refine r_goto (pc' := 48) h0 dX8_bestByAll_122 rfl ?_
  refine r_sub (L' := [(0, .ref (wA (wR g) 8 0)), (1, .int x1), (2, .int x2), (3, .int t0), (4, .int (x4 + 1))]) [2, 3, 4, 1, 0] rfl ?_
  exact kK48 x1 x2 t0 (x4 + 1) S h
theorem w_X8_bestByAll_70 {g : GR} {X : MX} {r : Int32} {S' : Mem} (h0 : CX RX8 cX8_bestByAll 6 rm_X8_bestByAll X (wR g)) (fu : Nat) (hE : EN (some .int) (some (.int r)) S' X (wR g)) (K48 : Int32 → Int32 → Int32 → Int32 → Mem → Option (Int32 × Mem)) (kK48 : ∀ (x1 : Int32) (x2 : Int32) (x3 : Int32) (x4 : Int32) (S : Mem), K48 x1 x2 x3 x4 S = some (r, S') → GV X (wR g) 6 0 0 S [(0, .ref (wA (wR g) 8 0)), (1, .int x1), (2, .int x2), (3, .int x3), (4, .int x4)] 48 []) : ∀ (x1 : Int32) (x2 : Int32) (x3 : Int32) (x4 : Int32) (t0 : Int32) (t1 : Int32) (t2 : Int32) (S : Mem), f_X8_bestByAll_70 fu K48 x1 x2 x3 x4 t0 t1 t2 S = some (r, S') → GV X (wR g) 6 0 0 S [(0, .ref (wA (wR g) 8 0)), (1, .int x1), (2, .int x2), (3, .int x3), (4, .int x4)] 70 [.int t0, .int t1, .int t2] := by
  intro x1 x2 x3 x4 t0 t1 t2 S h
  rw [f_X8_bestByAll_70] at h
  refine r_imul (pc' := 71) h0 dX8_bestByAll_70 rfl ?_
  refine r_ic_ge (pt := 125) (pf := 74) h0 dX8_bestByAll_71 rfl rfl h (fun c71 h => ?_) (fun c71 h => ?_)
  · refine r_aload_n (pc' := 126) h0 0 dX8_bestByAll_125 rfl rfl rfl ?_
    refine gf_X8_22 (pc' := 129) h0 (Nat.le_of_ble_eq_true rfl) dX8_bestByAll_126 rfl ?_
    refine r_iconst (pc' := 130) h0 dX8_bestByAll_129 ki_1 rfl ?_
    refine r_iload_n (pc' := 131) h0 1 dX8_bestByAll_130 rfl rfl rfl ?_
    refine r_iastA (pc' := 132) h0 (ia_24 g) (Nat.le_of_ble_eq_true rfl) dX8_bestByAll_131 rfl h (fun h => ?_)
    refine r_aload_n (pc' := 133) h0 0 dX8_bestByAll_132 rfl rfl rfl ?_
    refine gf_X8_22 (pc' := 136) h0 (Nat.le_of_ble_eq_true rfl) dX8_bestByAll_133 rfl ?_
    refine r_iconst (pc' := 137) h0 dX8_bestByAll_136 ki_2 rfl ?_
    refine r_iload_n (pc' := 138) h0 2 dX8_bestByAll_137 rfl rfl rfl ?_
    refine r_iastA (pc' := 139) h0 (ia_24 g) (Nat.le_of_ble_eq_true rfl) dX8_bestByAll_138 rfl h (fun h => ?_)
    refine r_iload_n (pc' := 140) h0 3 dX8_bestByAll_139 rfl rfl rfl ?_
    exact r_iret h0 hE dX8_bestByAll_140 h
  · refine r_aload_n (pc' := 75) h0 0 dX8_bestByAll_74 rfl rfl rfl ?_
    refine gf_X8_22 (pc' := 78) h0 (Nat.le_of_ble_eq_true rfl) dX8_bestByAll_75 rfl ?_
    refine r_iconst (pc' := 79) h0 dX8_bestByAll_78 ki_1 rfl ?_
    refine r_iload (pc' := 81) h0 4 dX8_bestByAll_79 rfl rfl ?_
    refine r_aload_n (pc' := 82) h0 0 dX8_bestByAll_81 rfl rfl rfl ?_
    refine gf_X8_83 (pc' := 85) h0 (Nat.le_of_ble_eq_true rfl) dX8_bestByAll_82 rfl ?_
    refine r_irem (pc' := 86) h0 dX8_bestByAll_85 rfl h (fun h => ?_)
    refine r_iastA (pc' := 87) h0 (ia_24 g) (Nat.le_of_ble_eq_true rfl) dX8_bestByAll_86 rfl h (fun h => ?_)
    refine r_aload_n (pc' := 88) h0 0 dX8_bestByAll_87 rfl rfl rfl ?_
    refine gf_X8_22 (pc' := 91) h0 (Nat.le_of_ble_eq_true rfl) dX8_bestByAll_88 rfl ?_
    refine r_iconst (pc' := 92) h0 dX8_bestByAll_91 ki_2 rfl ?_
    refine r_iload (pc' := 94) h0 4 dX8_bestByAll_92 rfl rfl ?_
    refine r_aload_n (pc' := 95) h0 0 dX8_bestByAll_94 rfl rfl rfl ?_
    refine gf_X8_83 (pc' := 98) h0 (Nat.le_of_ble_eq_true rfl) dX8_bestByAll_95 rfl ?_
    refine r_idiv (pc' := 99) h0 dX8_bestByAll_98 rfl h (fun h => ?_)
    refine r_iastA (pc' := 100) h0 (ia_24 g) (Nat.le_of_ble_eq_true rfl) dX8_bestByAll_99 rfl h (fun h => ?_)
    refine r_aload_n (pc' := 101) h0 0 dX8_bestByAll_100 rfl rfl rfl ?_
    obtain ⟨r101, h101, h⟩ := b1_some h
    refine go_V (k_X8_170 g) (st2 := [.int r101]) (pc' := 104) [] [] h0 (Nat.le_of_ble_eq_true rfl) (c_X8_bands g fu (wI (wI S 24 0 (1 : Int32).toNatClampNeg (x4 - x4 / (S.1 8 0 2) * (S.1 8 0 2))) 24 0 (2 : Int32).toNatClampNeg (x4 / ((wI S 24 0 (1 : Int32).toNatClampNeg (x4 - x4 / (S.1 8 0 2) * (S.1 8 0 2))).1 8 0 2))) h101) rfl rfl dX8_bestByAll_101 rfl (Nat.le_of_ble_eq_true rfl) ⟨rfl, rfl, Nat.le_of_ble_eq_true rfl, Nat.le_of_ble_eq_true rfl⟩ ⟨Nat.le_of_ble_eq_true rfl, Nat.le_of_ble_eq_true rfl⟩ rfl ?_
    refine r_istore (pc' := 106) (L' := [(5, .int r101), (0, .ref (wA (wR g) 8 0)), (1, .int x1), (2, .int x2), (3, .int x3), (4, .int x4)]) h0 dX8_bestByAll_104 (Nat.le_of_ble_eq_true rfl) rfl rfl ?_
    refine r_iload (pc' := 108) h0 0 dX8_bestByAll_106 rfl rfl ?_
    refine r_iload_n (pc' := 109) h0 4 dX8_bestByAll_108 rfl rfl rfl ?_
    refine r_ic_le (pt := 117) (pf := 112) h0 dX8_bestByAll_109 rfl rfl h (fun c109 h => ?_) (fun c109 h => ?_)
    · refine r_iload_n (pc' := 118) h0 4 dX8_bestByAll_117 rfl rfl rfl ?_
      refine r_sub (L' := [(0, .ref (wA (wR g) 8 0)), (1, .int x1), (2, .int x2), (4, .int x4)]) [1, 2, 3, 5] rfl ?_
      exact w_X8_bestByAll_118 h0 fu hE K48 kK48 x1 x2 x4 x3 (wI (wI S 24 0 (1 : Int32).toNatClampNeg (x4 - x4 / (S.1 8 0 2) * (S.1 8 0 2))) 24 0 (2 : Int32).toNatClampNeg (x4 / ((wI S 24 0 (1 : Int32).toNatClampNeg (x4 - x4 / (S.1 8 0 2) * (S.1 8 0 2))).1 8 0 2))) h
    · refine r_iload (pc' := 114) h0 0 dX8_bestByAll_112 rfl rfl ?_
      refine r_goto (pc' := 118) h0 dX8_bestByAll_114 rfl ?_
      refine r_sub (L' := [(0, .ref (wA (wR g) 8 0)), (1, .int x1), (2, .int x2), (4, .int x4)]) [1, 2, 3, 5] rfl ?_
      exact w_X8_bestByAll_118 h0 fu hE K48 kK48 x1 x2 x4 r101 (wI (wI S 24 0 (1 : Int32).toNatClampNeg (x4 - x4 / (S.1 8 0 2) * (S.1 8 0 2))) 24 0 (2 : Int32).toNatClampNeg (x4 / ((wI S 24 0 (1 : Int32).toNatClampNeg (x4 - x4 / (S.1 8 0 2) * (S.1 8 0 2))).1 8 0 2))) h
theorem w_X8_bestByAll_48 {g : GR} {X : MX} {r : Int32} {S' : Mem} (h0 : CX RX8 cX8_bestByAll 6 rm_X8_bestByAll X (wR g)) (fu : Nat) (hE : EN (some .int) (some (.int r)) S' X (wR g)) : ∀ (n : Nat) (x1 : Int32) (x2 : Int32) (x3 : Int32) (x4 : Int32) (S : Mem), f_X8_bestByAll_48 fu n x1 x2 x3 x4 S = some (r, S') → GV X (wR g) 6 0 0 S [(0, .ref (wA (wR g) 8 0)), (1, .int x1), (2, .int x2), (3, .int x3), (4, .int x4)] 48 [] := by
  intro n
  induction n with
  | zero =>
    intro x1 x2 x3 x4 S h
    exact nomatch (show none = _ from h)
  | succ n ih =>
    intro x1 x2 x3 x4 S h
    rw [f_X8_bestByAll_48] at h
    refine r_iload (pc' := 50) h0 4 dX8_bestByAll_48 rfl rfl ?_
    refine r_aload_n (pc' := 51) h0 0 dX8_bestByAll_50 rfl rfl rfl ?_
    refine gf_X8_83 (pc' := 54) h0 (Nat.le_of_ble_eq_true rfl) dX8_bestByAll_51 rfl ?_
    refine r_aload_n (pc' := 55) h0 0 dX8_bestByAll_54 rfl rfl rfl ?_
    refine gf_X8_76 (pc' := 58) h0 (Nat.le_of_ble_eq_true rfl) dX8_bestByAll_55 rfl ?_
    refine r_iconst (pc' := 59) h0 dX8_bestByAll_58 ki_3 rfl ?_
    refine r_ic_ne (pt := 69) (pf := 62) h0 dX8_bestByAll_59 rfl rfl h (fun c59 h => ?_) (fun c59 h => ?_)
    · refine r_iconst (pc' := 70) h0 dX8_bestByAll_69 ki_1 rfl ?_
      exact w_X8_bestByAll_70 h0 fu hE (f_X8_bestByAll_48 fu n) ih x1 x2 x3 x4 1 (S.1 8 0 2) x4 S h
    · refine r_aload_n (pc' := 63) h0 0 dX8_bestByAll_62 rfl rfl rfl ?_
      refine gf_X8_83 (pc' := 66) h0 (Nat.le_of_ble_eq_true rfl) dX8_bestByAll_63 rfl ?_
      refine r_goto (pc' := 70) h0 dX8_bestByAll_66 rfl ?_
      exact w_X8_bestByAll_70 h0 fu hE (f_X8_bestByAll_48 fu n) ih x1 x2 x3 x4 (S.1 8 0 2) (S.1 8 0 2) x4 S h
theorem w_X8_bestByAll_21 {g : GR} {X : MX} {r : Int32} {S' : Mem} (h0 : CX RX8 cX8_bestByAll 6 rm_X8_bestByAll X (wR g)) (fu : Nat) (hE : EN (some .int) (some (.int r)) S' X (wR g)) : ∀ (t0 : Int32) (S : Mem), f_X8_bestByAll_21 fu t0 S = some (r, S') → GV X (wR g) 6 0 0 S [(0, .ref (wA (wR g) 8 0))] 21 [.int t0, .ref (wA (wR g) 8 0)] := by
  intro t0 S h
  rw [f_X8_bestByAll_21] at h
  obtain ⟨r21, S21, h21, h⟩ := b2_some h
  refine go_V (k_X8_102 g) (st2 := [.int r21]) (pc' := 24) [.int t0] [] h0 (Nat.le_of_ble_eq_true rfl) (c_X8_holds g fu t0 S h21) rfl rfl dX8_bestByAll_21 rfl (Nat.le_of_ble_eq_true rfl) ⟨rfl, rfl, Nat.le_of_ble_eq_true rfl, Nat.le_of_ble_eq_true rfl⟩ ⟨Nat.le_of_ble_eq_true rfl, Nat.le_of_ble_eq_true rfl⟩ rfl ?_
  refine r_if_ne (pt := 29) (pf := 27) h0 dX8_bestByAll_24 rfl rfl h (fun c24 h => ?_) (fun c24 h => ?_)
  · refine r_aload_n (pc' := 30) h0 0 dX8_bestByAll_29 rfl rfl rfl ?_
    refine gf_X8_22 (pc' := 33) h0 (Nat.le_of_ble_eq_true rfl) dX8_bestByAll_30 rfl ?_
    refine r_iconst (pc' := 34) h0 dX8_bestByAll_33 ki_1 rfl ?_
    refine r_ialdA (pc' := 35) h0 (ia_24 g) (Nat.le_of_ble_eq_true rfl) dX8_bestByAll_34 rfl h (fun h => ?_)
    refine r_istore_n (pc' := 36) (L' := [(1, .int (S21.1 24 0 (1 : Int32).toNatClampNeg)), (0, .ref (wA (wR g) 8 0))]) h0 dX8_bestByAll_35 rfl (Nat.le_of_ble_eq_true rfl) rfl rfl ?_
    refine r_aload_n (pc' := 37) h0 1 dX8_bestByAll_36 rfl rfl rfl ?_
    refine gf_X8_22 (pc' := 40) h0 (Nat.le_of_ble_eq_true rfl) dX8_bestByAll_37 rfl ?_
    refine r_iconst (pc' := 41) h0 dX8_bestByAll_40 ki_2 rfl ?_
    refine r_ialdA (pc' := 42) h0 (ia_24 g) (Nat.le_of_ble_eq_true rfl) dX8_bestByAll_41 rfl h (fun h => ?_)
    refine r_istore_n (pc' := 43) (L' := [(2, .int (S21.1 24 0 (2 : Int32).toNatClampNeg)), (1, .int (S21.1 24 0 (1 : Int32).toNatClampNeg)), (0, .ref (wA (wR g) 8 0))]) h0 dX8_bestByAll_42 rfl (Nat.le_of_ble_eq_true rfl) rfl rfl ?_
    refine r_iconst (pc' := 44) h0 dX8_bestByAll_43 ki_0 rfl ?_
    refine r_istore_n (pc' := 45) (L' := [(3, .int 0), (2, .int (S21.1 24 0 (2 : Int32).toNatClampNeg)), (1, .int (S21.1 24 0 (1 : Int32).toNatClampNeg)), (0, .ref (wA (wR g) 8 0))]) h0 dX8_bestByAll_44 rfl (Nat.le_of_ble_eq_true rfl) rfl rfl ?_
    refine r_iconst (pc' := 46) h0 dX8_bestByAll_45 ki_0 rfl ?_
    refine r_istore (pc' := 48) (L' := [(4, .int 0), (3, .int 0), (2, .int (S21.1 24 0 (2 : Int32).toNatClampNeg)), (1, .int (S21.1 24 0 (1 : Int32).toNatClampNeg)), (0, .ref (wA (wR g) 8 0))]) h0 dX8_bestByAll_46 (Nat.le_of_ble_eq_true rfl) rfl rfl ?_
    refine r_sub (L' := [(0, .ref (wA (wR g) 8 0)), (1, .int (S21.1 24 0 (1 : Int32).toNatClampNeg)), (2, .int (S21.1 24 0 (2 : Int32).toNatClampNeg)), (3, .int 0), (4, .int 0)]) [4, 3, 2, 1, 0] rfl ?_
    exact w_X8_bestByAll_48 h0 fu hE fu (S21.1 24 0 (1 : Int32).toNatClampNeg) (S21.1 24 0 (2 : Int32).toNatClampNeg) 0 0 S21 h
  · refine r_iconst (pc' := 28) h0 dX8_bestByAll_27 ki_0 rfl ?_
    exact r_iret h0 hE dX8_bestByAll_28 h
theorem w_X8_bestByAll_16 {g : GR} {X : MX} {r : Int32} {S' : Mem} (h0 : CX RX8 cX8_bestByAll 6 rm_X8_bestByAll X (wR g)) (fu : Nat) (hE : EN (some .int) (some (.int r)) S' X (wR g)) : ∀ (S : Mem), f_X8_bestByAll_16 fu S = some (r, S') → GV X (wR g) 6 0 0 S [(0, .ref (wA (wR g) 8 0))] 16 [.ref (wA (wR g) 8 0)] := by
  intro S h
  rw [f_X8_bestByAll_16] at h
  refine r_iconst (pc' := 17) h0 dX8_bestByAll_16 ki_1 rfl ?_
  refine r_goto (pc' := 21) h0 dX8_bestByAll_17 rfl ?_
  exact w_X8_bestByAll_21 h0 fu hE 1 S h
/-- the machine does what f_X8_bestByAll says -/
theorem c_X8_bestByAll (g : GR) (fu : Nat) (S : Mem) {r : Int32} {S' : Mem} (h : f_X8_bestByAll fu S = some (r, S')) : ctN yX8_bestByAll cX8_bestByAll 6 (some .int) rm_X8_bestByAll (wR g) [.ref (wA (wR g) 8 0)] S (some (.int r)) S' := by
  refine ct_of (own := RX8) (L := [(0, .ref (wA (wR g) 8 0))]) (by decide +kernel) rfl (Nat.le_of_ble_eq_true rfl) rfl (fun X h0 hE => ?_)
  rw [f_X8_bestByAll] at h
  refine r_aload_n (pc' := 1) h0 0 dX8_bestByAll_0 rfl rfl rfl ?_
  refine r_aload_n (pc' := 2) h0 0 dX8_bestByAll_1 rfl rfl rfl ?_
  obtain ⟨r2, S2, h2, h⟩ := b2_some h
  refine go_V (k_X8_174 g) (st2 := [.int r2, .ref (wA (wR g) 8 0)]) (pc' := 5) [] [.ref (wA (wR g) 8 0)] h0 (Nat.le_of_ble_eq_true rfl) (c_X8_plansAll g fu S h2) rfl rfl dX8_bestByAll_2 rfl (Nat.le_of_ble_eq_true rfl) ⟨rfl, rfl, Nat.le_of_ble_eq_true rfl, Nat.le_of_ble_eq_true rfl⟩ ⟨Nat.le_of_ble_eq_true rfl, Nat.le_of_ble_eq_true rfl⟩ rfl ?_
  refine r_if_eq (pt := 16) (pf := 8) h0 dX8_bestByAll_5 rfl rfl h (fun c5 h => ?_) (fun c5 h => ?_)
  · exact w_X8_bestByAll_16 h0 fu hE S2 h
  · refine r_aload_n (pc' := 9) h0 0 dX8_bestByAll_8 rfl rfl rfl ?_
    refine gf_X8_76 (pc' := 12) h0 (Nat.le_of_ble_eq_true rfl) dX8_bestByAll_9 rfl ?_
    refine r_iconst (pc' := 13) h0 dX8_bestByAll_12 ki_3 rfl ?_
    refine r_ic_le (pt := 20) (pf := 16) h0 dX8_bestByAll_13 rfl rfl h (fun c13 h => ?_) (fun c13 h => ?_)
    · refine r_iconst (pc' := 21) h0 dX8_bestByAll_20 ki_0 rfl ?_
      exact w_X8_bestByAll_21 h0 fu hE 0 S2 h
    · exact w_X8_bestByAll_16 h0 fu hE S2 h
theorem w_X8_joins_94 {g : GR} {X : MX} {S' : Mem} (h0 : CX RX8 cX8_joins 4 rm_X8_joins X (wR g)) (fu : Nat) (x1 : Int32) (hE : EN none none S' X (wR g)) : ∀ (S : Mem), f_X8_joins_94 fu x1 S = some ((), S') → GV X (wR g) 4 0 0 S [] 94 [] := by
  intro S h
  rw [f_X8_joins_94] at h
  exact r_vret h0 hE dX8_joins_94 h
theorem w_X8_joins_41 {g : GR} {X : MX} {S' : Mem} (h0 : CX RX8 cX8_joins 4 rm_X8_joins X (wR g)) (fu : Nat) (x1 : Int32) (hE : EN none none S' X (wR g)) (K4 : Int32 → Mem → Option (Unit × Mem)) (kK4 : ∀ (x2 : Int32) (S : Mem), K4 x2 S = some ((), S') → GV X (wR g) 4 0 0 S [(0, .ref (wA (wR g) 8 0)), (1, .int x1), (2, .int x2)] 4 []) : ∀ (n : Nat) (x2 : Int32) (x3 : Int32) (S : Mem), f_X8_joins_41 fu K4 x1 n x2 x3 S = some ((), S') → GV X (wR g) 4 0 0 S [(0, .ref (wA (wR g) 8 0)), (1, .int x1), (2, .int x2), (3, .int x3)] 41 [] := by
  intro n
  induction n with
  | zero =>
    intro x2 x3 S h
    exact nomatch (show none = _ from h)
  | succ n ih =>
    intro x2 x3 S h
    rw [f_X8_joins_41] at h
    refine r_iload_n (pc' := 42) h0 3 dX8_joins_41 rfl rfl rfl ?_
    refine r_aload_n (pc' := 43) h0 0 dX8_joins_42 rfl rfl rfl ?_
    refine gf_X8_47 (pc' := 46) h0 (Nat.le_of_ble_eq_true rfl) dX8_joins_43 rfl ?_
    refine r_iload_n (pc' := 47) h0 2 dX8_joins_46 rfl rfl rfl ?_
    refine r_ialdA (pc' := 48) h0 (ia_32 g) (Nat.le_of_ble_eq_true rfl) dX8_joins_47 rfl h (fun h => ?_)
    refine r_ic_ge (pt := 81) (pf := 51) h0 dX8_joins_48 rfl rfl h (fun c48 h => ?_) (fun c48 h => ?_)
    · refine r_aload_n (pc' := 82) h0 0 dX8_joins_81 rfl rfl rfl ?_
      refine gf_X8_41 (pc' := 85) h0 (Nat.le_of_ble_eq_true rfl) dX8_joins_82 rfl ?_
      refine r_iload_n (pc' := 86) h0 1 dX8_joins_85 rfl rfl rfl ?_
      refine r_dup2 (pc' := 87) h0 dX8_joins_86 rfl rfl rfl ?_
      refine r_ialdA (pc' := 88) h0 (ia_30 g) (Nat.le_of_ble_eq_true rfl) dX8_joins_87 rfl h (fun h => ?_)
      refine r_iconst (pc' := 89) h0 dX8_joins_88 ki_1 rfl ?_
      refine r_iadd (pc' := 90) h0 dX8_joins_89 rfl ?_
      refine r_iastA (pc' := 91) h0 (ia_30 g) (Nat.le_of_ble_eq_true rfl) dX8_joins_90 rfl h (fun h => ?_)
      refine r_goto (pc' := 4) h0 dX8_joins_91 rfl ?_
      refine r_sub (L' := [(0, .ref (wA (wR g) 8 0)), (1, .int x1), (2, .int x2)]) [0, 1, 2] rfl ?_
      exact kK4 x2 (wI S 30 0 (x1 : Int32).toNatClampNeg ((S.1 30 0 (x1 : Int32).toNatClampNeg) + 1)) h
    · refine r_aload_n (pc' := 52) h0 0 dX8_joins_51 rfl rfl rfl ?_
      refine gf_X8_50 (pc' := 55) h0 (Nat.le_of_ble_eq_true rfl) dX8_joins_52 rfl ?_
      refine r_bipush (pc' := 57) h0 dX8_joins_55 kb_40 rfl ?_
      refine r_iload_n (pc' := 58) h0 2 dX8_joins_57 rfl rfl rfl ?_
      refine r_imul (pc' := 59) h0 dX8_joins_58 rfl ?_
      refine r_iload_n (pc' := 60) h0 3 dX8_joins_59 rfl rfl rfl ?_
      refine r_iadd (pc' := 61) h0 dX8_joins_60 rfl ?_
      refine r_aload_n (pc' := 62) h0 0 dX8_joins_61 rfl rfl rfl ?_
      refine gf_X8_50 (pc' := 65) h0 (Nat.le_of_ble_eq_true rfl) dX8_joins_62 rfl ?_
      refine r_bipush (pc' := 67) h0 dX8_joins_65 kb_40 rfl ?_
      refine r_iload_n (pc' := 68) h0 2 dX8_joins_67 rfl rfl rfl ?_
      refine r_imul (pc' := 69) h0 dX8_joins_68 rfl ?_
      refine r_iload_n (pc' := 70) h0 3 dX8_joins_69 rfl rfl rfl ?_
      refine r_iadd (pc' := 71) h0 dX8_joins_70 rfl ?_
      refine r_iconst (pc' := 72) h0 dX8_joins_71 ki_1 rfl ?_
      refine r_iadd (pc' := 73) h0 dX8_joins_72 rfl ?_
      refine r_ialdA (pc' := 74) h0 (ia_33 g) (Nat.le_of_ble_eq_true rfl) dX8_joins_73 rfl h (fun h => ?_)
      refine r_iastA (pc' := 75) h0 (ia_33 g) (Nat.le_of_ble_eq_true rfl) dX8_joins_74 rfl h (fun h => ?_)
      refine r_iinc (pc' := 78) (L' := [(3, .int (x3 + 1)), (0, .ref (wA (wR g) 8 0)), (1, .int x1), (2, .int x2)]) h0 3 dX8_joins_75 rfl ki_1 (Nat.le_of_ble_eq_true rfl) rfl rfl ?_
      refine r_goto (pc' := 41) h0 dX8_joins_78 rfl ?_
      refine r_sub (L' := [(0, .ref (wA (wR g) 8 0)), (1, .int x1), (2, .int x2), (3, .int (x3 + 1))]) [1, 2, 3, 0] rfl ?_
      exact ih x2 (x3 + 1) (wI S 33 0 (((40 * x2) + x3) : Int32).toNatClampNeg (S.1 33 0 ((((40 * x2) + x3) + 1) : Int32).toNatClampNeg)) h
theorem w_X8_joins_4 {g : GR} {X : MX} {S' : Mem} (h0 : CX RX8 cX8_joins 4 rm_X8_joins X (wR g)) (fu : Nat) (x1 : Int32) (hE : EN none none S' X (wR g)) : ∀ (n : Nat) (x2 : Int32) (S : Mem), f_X8_joins_4 fu x1 n x2 S = some ((), S') → GV X (wR g) 4 0 0 S [(0, .ref (wA (wR g) 8 0)), (1, .int x1), (2, .int x2)] 4 [] := by
  intro n
  induction n with
  | zero =>
    intro x2 S h
    exact nomatch (show none = _ from h)
  | succ n ih =>
    intro x2 S h
    rw [f_X8_joins_4] at h
    refine r_aload_n (pc' := 5) h0 0 dX8_joins_4 rfl rfl rfl ?_
    refine gf_X8_47 (pc' := 8) h0 (Nat.le_of_ble_eq_true rfl) dX8_joins_5 rfl ?_
    refine r_iload_n (pc' := 9) h0 2 dX8_joins_8 rfl rfl rfl ?_
    refine r_ialdA (pc' := 10) h0 (ia_32 g) (Nat.le_of_ble_eq_true rfl) dX8_joins_9 rfl h (fun h => ?_)
    refine r_if_le (pt := 94) (pf := 13) h0 dX8_joins_10 rfl rfl h (fun c10 h => ?_) (fun c10 h => ?_)
    · refine r_sub (L' := []) [] rfl ?_
      exact w_X8_joins_94 h0 fu x1 hE S h
    · refine r_aload_n (pc' := 14) h0 0 dX8_joins_13 rfl rfl rfl ?_
      refine gf_X8_50 (pc' := 17) h0 (Nat.le_of_ble_eq_true rfl) dX8_joins_14 rfl ?_
      refine r_bipush (pc' := 19) h0 dX8_joins_17 kb_40 rfl ?_
      refine r_iload_n (pc' := 20) h0 2 dX8_joins_19 rfl rfl rfl ?_
      refine r_imul (pc' := 21) h0 dX8_joins_20 rfl ?_
      refine r_ialdA (pc' := 22) h0 (ia_33 g) (Nat.le_of_ble_eq_true rfl) dX8_joins_21 rfl h (fun h => ?_)
      refine r_aload_n (pc' := 23) h0 0 dX8_joins_22 rfl rfl rfl ?_
      refine gf_X8_90 (pc' := 26) h0 (Nat.le_of_ble_eq_true rfl) dX8_joins_23 rfl ?_
      refine r_ic_ne (pt := 94) (pf := 29) h0 dX8_joins_26 rfl rfl h (fun c26 h => ?_) (fun c26 h => ?_)
      · refine r_sub (L' := []) [] rfl ?_
        exact w_X8_joins_94 h0 fu x1 hE S h
      · refine r_aload_n (pc' := 30) h0 0 dX8_joins_29 rfl rfl rfl ?_
        refine gf_X8_47 (pc' := 33) h0 (Nat.le_of_ble_eq_true rfl) dX8_joins_30 rfl ?_
        refine r_iload_n (pc' := 34) h0 2 dX8_joins_33 rfl rfl rfl ?_
        refine r_dup2 (pc' := 35) h0 dX8_joins_34 rfl rfl rfl ?_
        refine r_ialdA (pc' := 36) h0 (ia_32 g) (Nat.le_of_ble_eq_true rfl) dX8_joins_35 rfl h (fun h => ?_)
        refine r_iconst (pc' := 37) h0 dX8_joins_36 ki_1 rfl ?_
        refine r_isub (pc' := 38) h0 dX8_joins_37 rfl ?_
        refine r_iastA (pc' := 39) h0 (ia_32 g) (Nat.le_of_ble_eq_true rfl) dX8_joins_38 rfl h (fun h => ?_)
        refine r_iconst (pc' := 40) h0 dX8_joins_39 ki_0 rfl ?_
        refine r_istore_n (pc' := 41) (L' := [(3, .int 0), (0, .ref (wA (wR g) 8 0)), (1, .int x1), (2, .int x2)]) h0 dX8_joins_40 rfl (Nat.le_of_ble_eq_true rfl) rfl rfl ?_
        refine r_sub (L' := [(0, .ref (wA (wR g) 8 0)), (1, .int x1), (2, .int x2), (3, .int 0)]) [1, 2, 3, 0] rfl ?_
        exact w_X8_joins_41 h0 fu x1 hE (f_X8_joins_4 fu x1 n) ih fu x2 0 (wI S 32 0 (x2 : Int32).toNatClampNeg ((S.1 32 0 (x2 : Int32).toNatClampNeg) - 1)) h
/-- the machine does what f_X8_joins says -/
theorem c_X8_joins (g : GR) (fu : Nat) (x1 : Int32) (S : Mem) {S' : Mem} (h : f_X8_joins fu x1 S = some ((), S')) : ctN yX8_joins cX8_joins 4 none rm_X8_joins (wR g) [.ref (wA (wR g) 8 0), .int x1] S none S' := by
  refine ct_of (own := RX8) (L := [(0, .ref (wA (wR g) 8 0)), (1, .int x1)]) (by decide +kernel) rfl (Nat.le_of_ble_eq_true rfl) rfl (fun X h0 hE => ?_)
  rw [f_X8_joins] at h
  refine r_iload_n (pc' := 1) h0 1 dX8_joins_0 rfl rfl rfl ?_
  refine r_iconst (pc' := 2) h0 dX8_joins_1 ki_1 rfl ?_
  refine r_isub (pc' := 3) h0 dX8_joins_2 rfl ?_
  refine r_istore_n (pc' := 4) (L' := [(2, .int (x1 - 1)), (0, .ref (wA (wR g) 8 0)), (1, .int x1)]) h0 dX8_joins_3 rfl (Nat.le_of_ble_eq_true rfl) rfl rfl ?_
  refine r_sub (L' := [(0, .ref (wA (wR g) 8 0)), (1, .int x1), (2, .int (x1 - 1))]) [1, 2, 0] rfl ?_
  exact w_X8_joins_4 h0 fu x1 hE fu (x1 - 1) S h
theorem w_X8_arrives_57 {g : GR} {X : MX} {S' : Mem} (h0 : CX RX8 cX8_arrives 1 rm_X8_arrives X (wR g)) (fu : Nat) (hE : EN none none S' X (wR g)) : ∀ (S : Mem), f_X8_arrives_57 fu S = some ((), S') → GV X (wR g) 1 0 0 S [] 57 [] := by
  intro S h
  rw [f_X8_arrives_57] at h
  exact r_vret h0 hE dX8_arrives_57 h
/-- the machine does what f_X8_arrives says -/
theorem c_X8_arrives (g : GR) (fu : Nat) (S : Mem) {S' : Mem} (h : f_X8_arrives fu S = some ((), S')) : ctN yX8_arrives cX8_arrives 1 none rm_X8_arrives (wR g) [.ref (wA (wR g) 8 0)] S none S' := by
  refine ct_of (own := RX8) (L := [(0, .ref (wA (wR g) 8 0))]) (by decide +kernel) rfl (Nat.le_of_ble_eq_true rfl) rfl (fun X h0 hE => ?_)
  rw [f_X8_arrives] at h
  refine r_aload_n (pc' := 1) h0 0 dX8_arrives_0 rfl rfl rfl ?_
  refine r_dup (pc' := 2) h0 dX8_arrives_1 rfl rfl ?_
  refine gf_X8_93 (pc' := 5) h0 (Nat.le_of_ble_eq_true rfl) dX8_arrives_2 rfl ?_
  refine r_aload_n (pc' := 6) h0 0 dX8_arrives_5 rfl rfl rfl ?_
  refine gf_X8_19 (pc' := 9) h0 (Nat.le_of_ble_eq_true rfl) dX8_arrives_6 rfl ?_
  refine r_iconst (pc' := 10) h0 dX8_arrives_9 ki_0 rfl ?_
  refine r_ialdA (pc' := 11) h0 (ia_23 g) (Nat.le_of_ble_eq_true rfl) dX8_arrives_10 rfl h (fun h => ?_)
  refine r_iadd (pc' := 12) h0 dX8_arrives_11 rfl ?_
  refine pf_X8_93 (pc' := 15) h0 (Nat.le_of_ble_eq_true rfl) dX8_arrives_12 rfl ?_
  refine r_aload_n (pc' := 16) h0 0 dX8_arrives_15 rfl rfl rfl ?_
  refine gf_X8_93 (pc' := 19) h0 (Nat.le_of_ble_eq_true rfl) dX8_arrives_16 rfl ?_
  refine r_sipush (pc' := 22) h0 dX8_arrives_19 ks_3600 rfl ?_
  refine r_ic_lt (pt := 57) (pf := 25) h0 dX8_arrives_22 rfl rfl h (fun c22 h => ?_) (fun c22 h => ?_)
  · refine r_sub (L' := []) [] rfl ?_
    exact w_X8_arrives_57 h0 fu hE (wI S 8 0 15 ((S.1 8 0 15) + (S.1 23 0 (0 : Int32).toNatClampNeg))) h
  · refine r_aload_n (pc' := 26) h0 0 dX8_arrives_25 rfl rfl rfl ?_
    refine r_dup (pc' := 27) h0 dX8_arrives_26 rfl rfl ?_
    refine gf_X8_93 (pc' := 30) h0 (Nat.le_of_ble_eq_true rfl) dX8_arrives_27 rfl ?_
    refine r_sipush (pc' := 33) h0 dX8_arrives_30 ks_3600 rfl ?_
    refine r_isub (pc' := 34) h0 dX8_arrives_33 rfl ?_
    refine pf_X8_93 (pc' := 37) h0 (Nat.le_of_ble_eq_true rfl) dX8_arrives_34 rfl ?_
    refine r_aload_n (pc' := 38) h0 0 dX8_arrives_37 rfl rfl rfl ?_
    refine r_dup (pc' := 39) h0 dX8_arrives_38 rfl rfl ?_
    refine gf_X8_96 (pc' := 42) h0 (Nat.le_of_ble_eq_true rfl) dX8_arrives_39 rfl ?_
    refine r_iconst (pc' := 43) h0 dX8_arrives_42 ki_1 rfl ?_
    refine r_iadd (pc' := 44) h0 dX8_arrives_43 rfl ?_
    refine pf_X8_96 (pc' := 47) h0 (Nat.le_of_ble_eq_true rfl) dX8_arrives_44 rfl ?_
    refine r_aload_n (pc' := 48) h0 0 dX8_arrives_47 rfl rfl rfl ?_
    refine gf_X8_41 (pc' := 51) h0 (Nat.le_of_ble_eq_true rfl) dX8_arrives_48 rfl ?_
    refine r_iconst (pc' := 52) h0 dX8_arrives_51 ki_0 rfl ?_
    refine r_dup2 (pc' := 53) h0 dX8_arrives_52 rfl rfl rfl ?_
    refine r_ialdA (pc' := 54) h0 (ia_30 g) (Nat.le_of_ble_eq_true rfl) dX8_arrives_53 rfl h (fun h => ?_)
    refine r_iconst (pc' := 55) h0 dX8_arrives_54 ki_1 rfl ?_
    refine r_iadd (pc' := 56) h0 dX8_arrives_55 rfl ?_
    refine r_iastA (pc' := 57) h0 (ia_30 g) (Nat.le_of_ble_eq_true rfl) dX8_arrives_56 rfl h (fun h => ?_)
    refine r_sub (L' := []) [] rfl ?_
    exact w_X8_arrives_57 h0 fu hE (wI (wI (wI (wI S 8 0 15 ((S.1 8 0 15) + (S.1 23 0 (0 : Int32).toNatClampNeg))) 8 0 15 (((wI S 8 0 15 ((S.1 8 0 15) + (S.1 23 0 (0 : Int32).toNatClampNeg))).1 8 0 15) - 3600)) 8 0 16 (((wI (wI S 8 0 15 ((S.1 8 0 15) + (S.1 23 0 (0 : Int32).toNatClampNeg))) 8 0 15 (((wI S 8 0 15 ((S.1 8 0 15) + (S.1 23 0 (0 : Int32).toNatClampNeg))).1 8 0 15) - 3600)).1 8 0 16) + 1)) 30 0 (0 : Int32).toNatClampNeg (((wI (wI (wI S 8 0 15 ((S.1 8 0 15) + (S.1 23 0 (0 : Int32).toNatClampNeg))) 8 0 15 (((wI S 8 0 15 ((S.1 8 0 15) + (S.1 23 0 (0 : Int32).toNatClampNeg))).1 8 0 15) - 3600)) 8 0 16 (((wI (wI S 8 0 15 ((S.1 8 0 15) + (S.1 23 0 (0 : Int32).toNatClampNeg))) 8 0 15 (((wI S 8 0 15 ((S.1 8 0 15) + (S.1 23 0 (0 : Int32).toNatClampNeg))).1 8 0 15) - 3600)).1 8 0 16) + 1)).1 30 0 (0 : Int32).toNatClampNeg) + 1)) h
/-- the machine does what f_X8_heldOf says -/
theorem c_X8_heldOf (g : GR) (fu : Nat) (x1 : Int32) (S : Mem) {r : Int32}  (h : f_X8_heldOf fu x1 S = some r) : ctN yX8_heldOf cX8_heldOf 2 (some .int) rm_X8_heldOf (wR g) [.ref (wA (wR g) 8 0), .int x1] S (some (.int r)) S := by
  refine ct_of (own := RX8) (L := [(0, .ref (wA (wR g) 8 0)), (1, .int x1)]) (by decide +kernel) rfl (Nat.le_of_ble_eq_true rfl) rfl (fun X h0 hE => ?_)
  rw [f_X8_heldOf] at h
  refine r_aload_n (pc' := 1) h0 0 dX8_heldOf_0 rfl rfl rfl ?_
  refine gf_X8_47 (pc' := 4) h0 (Nat.le_of_ble_eq_true rfl) dX8_heldOf_1 rfl ?_
  refine r_iload_n (pc' := 5) h0 1 dX8_heldOf_4 rfl rfl rfl ?_
  refine r_ialdA (pc' := 6) h0 (ia_32 g) (Nat.le_of_ble_eq_true rfl) dX8_heldOf_5 rfl h (fun h => ?_)
  refine r_aload_n (pc' := 7) h0 0 dX8_heldOf_6 rfl rfl rfl ?_
  refine gf_X8_41 (pc' := 10) h0 (Nat.le_of_ble_eq_true rfl) dX8_heldOf_7 rfl ?_
  refine r_iload_n (pc' := 11) h0 1 dX8_heldOf_10 rfl rfl rfl ?_
  refine r_iconst (pc' := 12) h0 dX8_heldOf_11 ki_1 rfl ?_
  refine r_iadd (pc' := 13) h0 dX8_heldOf_12 rfl ?_
  refine r_ialdA (pc' := 14) h0 (ia_30 g) (Nat.le_of_ble_eq_true rfl) dX8_heldOf_13 rfl h (fun h => ?_)
  refine r_iadd (pc' := 15) h0 dX8_heldOf_14 rfl ?_
  exact r_iretR h0 hE dX8_heldOf_15 h
theorem w_X8_leaves_173 {g : GR} {X : MX} {S' : Mem} (h0 : CX RX8 cX8_leaves 4 rm_X8_leaves X (wR g)) (fu : Nat) (x1 : Int32) (hE : EN none none S' X (wR g)) : ∀ (S : Mem), f_X8_leaves_173 fu x1 S = some ((), S') → GV X (wR g) 4 0 0 S [] 173 [] := by
  intro S h
  rw [f_X8_leaves_173] at h
  exact r_vret h0 hE dX8_leaves_173 h
theorem w_X8_leaves_102 {g : GR} {X : MX} {S' : Mem} (h0 : CX RX8 cX8_leaves 4 rm_X8_leaves X (wR g)) (fu : Nat) (x1 : Int32) (hE : EN none none S' X (wR g)) : ∀ (x3 : Int32) (S : Mem), f_X8_leaves_102 fu x1 x3 S = some ((), S') → GV X (wR g) 4 0 0 S [(0, .ref (wA (wR g) 8 0)), (1, .int x1), (3, .int x3)] 102 [] := by
  intro x3 S h
  rw [f_X8_leaves_102] at h
  refine r_aload_n (pc' := 103) h0 0 dX8_leaves_102 rfl rfl rfl ?_
  refine gf_X8_41 (pc' := 106) h0 (Nat.le_of_ble_eq_true rfl) dX8_leaves_103 rfl ?_
  refine r_iload_n (pc' := 107) h0 1 dX8_leaves_106 rfl rfl rfl ?_
  refine r_dup2 (pc' := 108) h0 dX8_leaves_107 rfl rfl rfl ?_
  refine r_ialdA (pc' := 109) h0 (ia_30 g) (Nat.le_of_ble_eq_true rfl) dX8_leaves_108 rfl h (fun h => ?_)
  refine r_iconst (pc' := 110) h0 dX8_leaves_109 ki_1 rfl ?_
  refine r_isub (pc' := 111) h0 dX8_leaves_110 rfl ?_
  refine r_iastA (pc' := 112) h0 (ia_30 g) (Nat.le_of_ble_eq_true rfl) dX8_leaves_111 rfl h (fun h => ?_)
  refine r_aload_n (pc' := 113) h0 0 dX8_leaves_112 rfl rfl rfl ?_
  refine gf_X8_44 (pc' := 116) h0 (Nat.le_of_ble_eq_true rfl) dX8_leaves_113 rfl ?_
  refine r_iload_n (pc' := 117) h0 1 dX8_leaves_116 rfl rfl rfl ?_
  refine r_iconst (pc' := 118) h0 dX8_leaves_117 ki_0 rfl ?_
  refine r_iastA (pc' := 119) h0 (ia_31 g) (Nat.le_of_ble_eq_true rfl) dX8_leaves_118 rfl h (fun h => ?_)
  refine r_iload_n (pc' := 120) h0 2 dX8_leaves_119 rfl rfl rfl ?_
  refine r_if_eq (pt := 136) (pf := 123) h0 dX8_leaves_120 rfl rfl h (fun c120 h => ?_) (fun c120 h => ?_)
  · refine r_aload_n (pc' := 137) h0 0 dX8_leaves_136 rfl rfl rfl ?_
    refine gf_X8_50 (pc' := 140) h0 (Nat.le_of_ble_eq_true rfl) dX8_leaves_137 rfl ?_
    refine r_bipush (pc' := 142) h0 dX8_leaves_140 kb_40 rfl ?_
    refine r_iload_n (pc' := 143) h0 1 dX8_leaves_142 rfl rfl rfl ?_
    refine r_imul (pc' := 144) h0 dX8_leaves_143 rfl ?_
    refine r_aload_n (pc' := 145) h0 0 dX8_leaves_144 rfl rfl rfl ?_
    refine gf_X8_47 (pc' := 148) h0 (Nat.le_of_ble_eq_true rfl) dX8_leaves_145 rfl ?_
    refine r_iload_n (pc' := 149) h0 1 dX8_leaves_148 rfl rfl rfl ?_
    refine r_ialdA (pc' := 150) h0 (ia_32 g) (Nat.le_of_ble_eq_true rfl) dX8_leaves_149 rfl h (fun h => ?_)
    refine r_iadd (pc' := 151) h0 dX8_leaves_150 rfl ?_
    refine r_aload_n (pc' := 152) h0 0 dX8_leaves_151 rfl rfl rfl ?_
    refine gf_X8_90 (pc' := 155) h0 (Nat.le_of_ble_eq_true rfl) dX8_leaves_152 rfl ?_
    refine r_aload_n (pc' := 156) h0 0 dX8_leaves_155 rfl rfl rfl ?_
    refine gf_X8_25 (pc' := 159) h0 (Nat.le_of_ble_eq_true rfl) dX8_leaves_156 rfl ?_
    refine r_iload_n (pc' := 160) h0 1 dX8_leaves_159 rfl rfl rfl ?_
    refine r_ialdA (pc' := 161) h0 (ia_25 g) (Nat.le_of_ble_eq_true rfl) dX8_leaves_160 rfl h (fun h => ?_)
    refine r_iadd (pc' := 162) h0 dX8_leaves_161 rfl ?_
    refine r_iastA (pc' := 163) h0 (ia_33 g) (Nat.le_of_ble_eq_true rfl) dX8_leaves_162 rfl h (fun h => ?_)
    refine r_aload_n (pc' := 164) h0 0 dX8_leaves_163 rfl rfl rfl ?_
    refine gf_X8_47 (pc' := 167) h0 (Nat.le_of_ble_eq_true rfl) dX8_leaves_164 rfl ?_
    refine r_iload_n (pc' := 168) h0 1 dX8_leaves_167 rfl rfl rfl ?_
    refine r_dup2 (pc' := 169) h0 dX8_leaves_168 rfl rfl rfl ?_
    refine r_ialdA (pc' := 170) h0 (ia_32 g) (Nat.le_of_ble_eq_true rfl) dX8_leaves_169 rfl h (fun h => ?_)
    refine r_iconst (pc' := 171) h0 dX8_leaves_170 ki_1 rfl ?_
    refine r_iadd (pc' := 172) h0 dX8_leaves_171 rfl ?_
    refine r_iastA (pc' := 173) h0 (ia_32 g) (Nat.le_of_ble_eq_true rfl) dX8_leaves_172 rfl h (fun h => ?_)
    refine r_sub (L' := []) [] rfl ?_
    exact w_X8_leaves_173 h0 fu x1 hE (wI (wI (wI (wI S 30 0 (x1 : Int32).toNatClampNeg ((S.1 30 0 (x1 : Int32).toNatClampNeg) - 1)) 31 0 (x1 : Int32).toNatClampNeg 0) 33 0 (((40 * x1) + ((wI (wI S 30 0 (x1 : Int32).toNatClampNeg ((S.1 30 0 (x1 : Int32).toNatClampNeg) - 1)) 31 0 (x1 : Int32).toNatClampNeg 0).1 32 0 (x1 : Int32).toNatClampNeg)) : Int32).toNatClampNeg (((wI (wI S 30 0 (x1 : Int32).toNatClampNeg ((S.1 30 0 (x1 : Int32).toNatClampNeg) - 1)) 31 0 (x1 : Int32).toNatClampNeg 0).1 8 0 14) + ((wI (wI S 30 0 (x1 : Int32).toNatClampNeg ((S.1 30 0 (x1 : Int32).toNatClampNeg) - 1)) 31 0 (x1 : Int32).toNatClampNeg 0).1 25 0 (x1 : Int32).toNatClampNeg))) 32 0 (x1 : Int32).toNatClampNeg (((wI (wI (wI S 30 0 (x1 : Int32).toNatClampNeg ((S.1 30 0 (x1 : Int32).toNatClampNeg) - 1)) 31 0 (x1 : Int32).toNatClampNeg 0) 33 0 (((40 * x1) + ((wI (wI S 30 0 (x1 : Int32).toNatClampNeg ((S.1 30 0 (x1 : Int32).toNatClampNeg) - 1)) 31 0 (x1 : Int32).toNatClampNeg 0).1 32 0 (x1 : Int32).toNatClampNeg)) : Int32).toNatClampNeg (((wI (wI S 30 0 (x1 : Int32).toNatClampNeg ((S.1 30 0 (x1 : Int32).toNatClampNeg) - 1)) 31 0 (x1 : Int32).toNatClampNeg 0).1 8 0 14) + ((wI (wI S 30 0 (x1 : Int32).toNatClampNeg ((S.1 30 0 (x1 : Int32).toNatClampNeg) - 1)) 31 0 (x1 : Int32).toNatClampNeg 0).1 25 0 (x1 : Int32).toNatClampNeg))).1 32 0 (x1 : Int32).toNatClampNeg) + 1)) h
  · refine r_aload_n (pc' := 124) h0 0 dX8_leaves_123 rfl rfl rfl ?_
    refine r_dup (pc' := 125) h0 dX8_leaves_124 rfl rfl ?_
    refine gf_X8_99 (pc' := 128) h0 (Nat.le_of_ble_eq_true rfl) dX8_leaves_125 rfl ?_
    refine r_iconst (pc' := 129) h0 dX8_leaves_128 ki_1 rfl ?_
    refine r_iadd (pc' := 130) h0 dX8_leaves_129 rfl ?_
    refine pf_X8_99 (pc' := 133) h0 (Nat.le_of_ble_eq_true rfl) dX8_leaves_130 rfl ?_
    refine r_goto (pc' := 173) h0 dX8_leaves_133 rfl ?_
    refine r_sub (L' := []) [] rfl ?_
    exact w_X8_leaves_173 h0 fu x1 hE (wI (wI (wI S 30 0 (x1 : Int32).toNatClampNeg ((S.1 30 0 (x1 : Int32).toNatClampNeg) - 1)) 31 0 (x1 : Int32).toNatClampNeg 0) 8 0 17 (((wI (wI S 30 0 (x1 : Int32).toNatClampNeg ((S.1 30 0 (x1 : Int32).toNatClampNeg) - 1)) 31 0 (x1 : Int32).toNatClampNeg 0).1 8 0 17) + 1)) h
theorem w_X8_leaves_101 {g : GR} {X : MX} {S' : Mem} (h0 : CX RX8 cX8_leaves 4 rm_X8_leaves X (wR g)) (fu : Nat) (x1 : Int32) (hE : EN none none S' X (wR g)) : ∀ (S : Mem), f_X8_leaves_101 fu x1 S = some ((), S') → GV X (wR g) 4 0 0 S [] 101 [] := by
  intro S h
  rw [f_X8_leaves_101] at h
  exact r_vret h0 hE dX8_leaves_101 h
theorem w_X8_leaves_63 {g : GR} {X : MX} {S' : Mem} (h0 : CX RX8 cX8_leaves 4 rm_X8_leaves X (wR g)) (fu : Nat) (x1 : Int32) (hE : EN none none S' X (wR g)) : ∀ (t0 : Int32) (S : Mem), f_X8_leaves_63 fu x1 t0 S = some ((), S') → GV X (wR g) 4 0 0 S [(0, .ref (wA (wR g) 8 0)), (1, .int x1)] 63 [.int t0] := by
  intro t0 S h
  rw [f_X8_leaves_63] at h
  refine r_istore_n (pc' := 64) (L' := [(3, .int t0), (0, .ref (wA (wR g) 8 0)), (1, .int x1)]) h0 dX8_leaves_63 rfl (Nat.le_of_ble_eq_true rfl) rfl rfl ?_
  refine r_aload_n (pc' := 65) h0 1 dX8_leaves_64 rfl rfl rfl ?_
  refine gf_X8_44 (pc' := 68) h0 (Nat.le_of_ble_eq_true rfl) dX8_leaves_65 rfl ?_
  refine r_iload_n (pc' := 69) h0 2 dX8_leaves_68 rfl rfl rfl ?_
  refine r_ialdA (pc' := 70) h0 (ia_31 g) (Nat.le_of_ble_eq_true rfl) dX8_leaves_69 rfl h (fun h => ?_)
  refine r_iconst (pc' := 71) h0 dX8_leaves_70 ki_2 rfl ?_
  refine r_ic_lt (pt := 101) (pf := 74) h0 dX8_leaves_71 rfl rfl h (fun c71 h => ?_) (fun c71 h => ?_)
  · refine r_sub (L' := []) [] rfl ?_
    exact w_X8_leaves_101 h0 fu x1 hE S h
  · refine r_aload_n (pc' := 75) h0 1 dX8_leaves_74 rfl rfl rfl ?_
    refine gf_X8_41 (pc' := 78) h0 (Nat.le_of_ble_eq_true rfl) dX8_leaves_75 rfl ?_
    refine r_iload_n (pc' := 79) h0 2 dX8_leaves_78 rfl rfl rfl ?_
    refine r_ialdA (pc' := 80) h0 (ia_30 g) (Nat.le_of_ble_eq_true rfl) dX8_leaves_79 rfl h (fun h => ?_)
    refine r_if_eq (pt := 101) (pf := 83) h0 dX8_leaves_80 rfl rfl h (fun c80 h => ?_) (fun c80 h => ?_)
    · refine r_sub (L' := []) [] rfl ?_
      exact w_X8_leaves_101 h0 fu x1 hE S h
    · refine r_iload_n (pc' := 84) h0 0 dX8_leaves_83 rfl rfl rfl ?_
      refine r_if_ne (pt := 102) (pf := 87) h0 dX8_leaves_84 rfl rfl h (fun c84 h => ?_) (fun c84 h => ?_)
      · refine r_sub (L' := [(0, .ref (wA (wR g) 8 0)), (1, .int x1), (3, .int t0)]) [1, 2, 0] rfl ?_
        exact w_X8_leaves_102 h0 fu x1 hE t0 S h
      · refine r_aload_n (pc' := 88) h0 1 dX8_leaves_87 rfl rfl rfl ?_
        refine r_iload_n (pc' := 89) h0 2 dX8_leaves_88 rfl rfl rfl ?_
        obtain ⟨r89, h89, h⟩ := b1_some h
        refine go_V (k_X8_191 g) (st2 := [.int r89]) (pc' := 92) [.int x1] [] h0 (Nat.le_of_ble_eq_true rfl) (c_X8_heldOf g fu x1 S h89) rfl rfl dX8_leaves_89 rfl (Nat.le_of_ble_eq_true rfl) ⟨rfl, rfl, Nat.le_of_ble_eq_true rfl, Nat.le_of_ble_eq_true rfl⟩ ⟨Nat.le_of_ble_eq_true rfl, Nat.le_of_ble_eq_true rfl⟩ rfl ?_
        refine r_aload_n (pc' := 93) h0 1 dX8_leaves_92 rfl rfl rfl ?_
        refine gf_X8_28 (pc' := 96) h0 (Nat.le_of_ble_eq_true rfl) dX8_leaves_93 rfl ?_
        refine r_iload_n (pc' := 97) h0 2 dX8_leaves_96 rfl rfl rfl ?_
        refine r_ialdA (pc' := 98) h0 (ia_26 g) (Nat.le_of_ble_eq_true rfl) dX8_leaves_97 rfl h (fun h => ?_)
        refine r_ic_lt (pt := 102) (pf := 101) h0 dX8_leaves_98 rfl rfl h (fun c98 h => ?_) (fun c98 h => ?_)
        · refine r_sub (L' := [(0, .ref (wA (wR g) 8 0)), (1, .int x1), (3, .int t0)]) [1, 2, 0] rfl ?_
          exact w_X8_leaves_102 h0 fu x1 hE t0 S h
        · refine r_sub (L' := []) [] rfl ?_
          exact w_X8_leaves_101 h0 fu x1 hE S h
theorem w_X8_leaves_47 {g : GR} {X : MX} {S' : Mem} (h0 : CX RX8 cX8_leaves 4 rm_X8_leaves X (wR g)) (fu : Nat) (x1 : Int32) (hE : EN none none S' X (wR g)) : ∀ (t0 : Int32) (t1 : Int32) (S : Mem), f_X8_leaves_47 fu x1 t0 t1 S = some ((), S') → GV X (wR g) 4 0 0 S [(0, .ref (wA (wR g) 8 0)), (1, .int x1)] 47 [.int t0, .int t1, .ref (wA (wR g) 31 0)] := by
  intro t0 t1 S h
  rw [f_X8_leaves_47] at h
  refine r_iastA (pc' := 48) h0 (ia_31 g) (Nat.le_of_ble_eq_true rfl) dX8_leaves_47 rfl h (fun h => ?_)
  refine r_iload_n (pc' := 49) h0 1 dX8_leaves_48 rfl rfl rfl ?_
  refine r_aload_n (pc' := 50) h0 0 dX8_leaves_49 rfl rfl rfl ?_
  refine gf_X8_76 (pc' := 53) h0 (Nat.le_of_ble_eq_true rfl) dX8_leaves_50 rfl ?_
  refine r_iconst (pc' := 54) h0 dX8_leaves_53 ki_1 rfl ?_
  refine r_isub (pc' := 55) h0 dX8_leaves_54 rfl ?_
  refine r_ic_ne (pt := 62) (pf := 58) h0 dX8_leaves_55 rfl rfl h (fun c55 h => ?_) (fun c55 h => ?_)
  · refine r_iconst (pc' := 63) h0 dX8_leaves_62 ki_0 rfl ?_
    exact w_X8_leaves_63 h0 fu x1 hE 0 (wI S 31 0 (t1 : Int32).toNatClampNeg t0) h
  · refine r_iconst (pc' := 59) h0 dX8_leaves_58 ki_1 rfl ?_
    refine r_goto (pc' := 63) h0 dX8_leaves_59 rfl ?_
    exact w_X8_leaves_63 h0 fu x1 hE 1 (wI S 31 0 (t1 : Int32).toNatClampNeg t0) h
/-- the machine does what f_X8_leaves says -/
theorem c_X8_leaves (g : GR) (fu : Nat) (x1 : Int32) (S : Mem) {S' : Mem} (h : f_X8_leaves fu x1 S = some ((), S')) : ctN yX8_leaves cX8_leaves 4 none rm_X8_leaves (wR g) [.ref (wA (wR g) 8 0), .int x1] S none S' := by
  refine ct_of (own := RX8) (L := [(0, .ref (wA (wR g) 8 0)), (1, .int x1)]) (by decide +kernel) rfl (Nat.le_of_ble_eq_true rfl) rfl (fun X h0 hE => ?_)
  rw [f_X8_leaves] at h
  refine r_aload_n (pc' := 1) h0 0 dX8_leaves_0 rfl rfl rfl ?_
  refine r_iload_n (pc' := 2) h0 1 dX8_leaves_1 rfl rfl rfl ?_
  refine r_iconst (pc' := 3) h0 dX8_leaves_2 ki_0 rfl ?_
  refine r_aload_n (pc' := 4) h0 0 dX8_leaves_3 rfl rfl rfl ?_
  refine gf_X8_90 (pc' := 7) h0 (Nat.le_of_ble_eq_true rfl) dX8_leaves_4 rfl ?_
  refine r_iconst (pc' := 8) h0 dX8_leaves_7 ki_1 rfl ?_
  obtain ⟨r8, h8, h⟩ := b1_some h
  refine go_V (k_X8_158 g) (st2 := [.int r8]) (pc' := 11) [.int x1, .int 0, .int (S.1 8 0 14), .int 1] [] h0 (Nat.le_of_ble_eq_true rfl) (c_X8_isGreenAt g fu x1 0 (S.1 8 0 14) 1 S h8) rfl rfl dX8_leaves_8 rfl (Nat.le_of_ble_eq_true rfl) ⟨rfl, rfl, Nat.le_of_ble_eq_true rfl, Nat.le_of_ble_eq_true rfl⟩ ⟨Nat.le_of_ble_eq_true rfl, Nat.le_of_ble_eq_true rfl⟩ rfl ?_
  refine r_istore_n (pc' := 12) (L' := [(2, .int r8), (0, .ref (wA (wR g) 8 0)), (1, .int x1)]) h0 dX8_leaves_11 rfl (Nat.le_of_ble_eq_true rfl) rfl rfl ?_
  refine r_aload_n (pc' := 13) h0 1 dX8_leaves_12 rfl rfl rfl ?_
  refine gf_X8_44 (pc' := 16) h0 (Nat.le_of_ble_eq_true rfl) dX8_leaves_13 rfl ?_
  refine r_iload_n (pc' := 17) h0 2 dX8_leaves_16 rfl rfl rfl ?_
  refine r_iload_n (pc' := 18) h0 0 dX8_leaves_17 rfl rfl rfl ?_
  refine r_if_ne (pt := 25) (pf := 21) h0 dX8_leaves_18 rfl rfl h (fun c18 h => ?_) (fun c18 h => ?_)
  · refine r_aload_n (pc' := 26) h0 1 dX8_leaves_25 rfl rfl rfl ?_
    refine gf_X8_44 (pc' := 29) h0 (Nat.le_of_ble_eq_true rfl) dX8_leaves_26 rfl ?_
    refine r_iload_n (pc' := 30) h0 2 dX8_leaves_29 rfl rfl rfl ?_
    refine r_ialdA (pc' := 31) h0 (ia_31 g) (Nat.le_of_ble_eq_true rfl) dX8_leaves_30 rfl h (fun h => ?_)
    refine r_iconst (pc' := 32) h0 dX8_leaves_31 ki_2 rfl ?_
    refine r_ic_ge (pt := 46) (pf := 35) h0 dX8_leaves_32 rfl rfl h (fun c32 h => ?_) (fun c32 h => ?_)
    · refine r_iconst (pc' := 47) h0 dX8_leaves_46 ki_2 rfl ?_
      refine r_sub (L' := [(0, .ref (wA (wR g) 8 0)), (1, .int x1)]) [1, 2] rfl ?_
      exact w_X8_leaves_47 h0 fu x1 hE 2 x1 S h
    · refine r_aload_n (pc' := 36) h0 1 dX8_leaves_35 rfl rfl rfl ?_
      refine gf_X8_44 (pc' := 39) h0 (Nat.le_of_ble_eq_true rfl) dX8_leaves_36 rfl ?_
      refine r_iload_n (pc' := 40) h0 2 dX8_leaves_39 rfl rfl rfl ?_
      refine r_ialdA (pc' := 41) h0 (ia_31 g) (Nat.le_of_ble_eq_true rfl) dX8_leaves_40 rfl h (fun h => ?_)
      refine r_iconst (pc' := 42) h0 dX8_leaves_41 ki_1 rfl ?_
      refine r_iadd (pc' := 43) h0 dX8_leaves_42 rfl ?_
      refine r_goto (pc' := 47) h0 dX8_leaves_43 rfl ?_
      refine r_sub (L' := [(0, .ref (wA (wR g) 8 0)), (1, .int x1)]) [1, 2] rfl ?_
      exact w_X8_leaves_47 h0 fu x1 hE ((S.1 31 0 (x1 : Int32).toNatClampNeg) + 1) x1 S h
  · refine r_iconst (pc' := 22) h0 dX8_leaves_21 ki_0 rfl ?_
    refine r_goto (pc' := 47) h0 dX8_leaves_22 rfl ?_
    refine r_sub (L' := [(0, .ref (wA (wR g) 8 0)), (1, .int x1)]) [1, 2] rfl ?_
    exact w_X8_leaves_47 h0 fu x1 hE 0 x1 S h
theorem w_X8_run_95 {g : GR} {X : MX} {r : Int32} {S' : Mem} (h0 : CX RX8 cX8_run 5 rm_X8_run X (wR g)) (fu : Nat) (x1 : Int32) (hE : EN (some .int) (some (.int r)) S' X (wR g)) (K68 : Int32 → Int32 → Int32 → Mem → Option (Int32 × Mem)) (kK68 : ∀ (x2 : Int32) (x3 : Int32) (x4 : Int32) (S : Mem), K68 x2 x3 x4 S = some (r, S') → GV X (wR g) 5 0 0 S [(0, .ref (wA (wR g) 8 0)), (1, .int x1), (2, .int x2), (3, .int x3), (4, .int x4)] 68 []) : ∀ (x2 : Int32) (x3 : Int32) (x4 : Int32) (S : Mem), f_X8_run_95 fu K68 x1 x2 x3 x4 S = some (r, S') → GV X (wR g) 5 0 0 S [(0, .ref (wA (wR g) 8 0)), (1, .int x1), (2, .int x2), (3, .int x3), (4, .int x4)] 95 [] := by
  intro x2 x3 x4 S h
  rw [f_X8_run_95] at h
  refine r_aload_n (pc' := 96) h0 0 dX8_run_95 rfl rfl rfl ?_
  refine r_iload (pc' := 98) h0 4 dX8_run_96 rfl rfl ?_
  obtain ⟨r98, S98, h98, h⟩ := b2_some h
  refine go_V (k_X8_201 g) (st2 := []) (pc' := 101) [.int x4] [] h0 (Nat.le_of_ble_eq_true rfl) (c_X8_leaves g fu x4 S h98) rfl rfl dX8_run_98 rfl (Nat.le_of_ble_eq_true rfl) ⟨rfl, rfl, Nat.le_of_ble_eq_true rfl, Nat.le_of_ble_eq_true rfl⟩ ⟨Nat.le_of_ble_eq_true rfl, Nat.le_of_ble_eq_true rfl⟩ rfl ?_
  refine r_iinc (pc' := 104) (L' := [(4, .int (x4 + 1)), (0, .ref (wA (wR g) 8 0)), (1, .int x1), (2, .int x2), (3, .int x3)]) h0 4 dX8_run_101 rfl ki_1 (Nat.le_of_ble_eq_true rfl) rfl rfl ?_
  refine r_goto (pc' := 68) h0 dX8_run_104 rfl ?_
  refine r_sub (L' := [(0, .ref (wA (wR g) 8 0)), (1, .int x1), (2, .int x2), (3, .int x3), (4, .int (x4 + 1))]) [1, 2, 3, 4, 0] rfl ?_
  exact kK68 x2 x3 (x4 + 1) S98 h
theorem w_X8_run_68 {g : GR} {X : MX} {r : Int32} {S' : Mem} (h0 : CX RX8 cX8_run 5 rm_X8_run X (wR g)) (fu : Nat) (x1 : Int32) (hE : EN (some .int) (some (.int r)) S' X (wR g)) (K60 : Int32 → Int32 → Mem → Option (Int32 × Mem)) (kK60 : ∀ (x2 : Int32) (x3 : Int32) (S : Mem), K60 x2 x3 S = some (r, S') → GV X (wR g) 5 0 0 S [(0, .ref (wA (wR g) 8 0)), (1, .int x1), (2, .int x2), (3, .int x3)] 60 []) : ∀ (n : Nat) (x2 : Int32) (x3 : Int32) (x4 : Int32) (S : Mem), f_X8_run_68 fu K60 x1 n x2 x3 x4 S = some (r, S') → GV X (wR g) 5 0 0 S [(0, .ref (wA (wR g) 8 0)), (1, .int x1), (2, .int x2), (3, .int x3), (4, .int x4)] 68 [] := by
  intro n
  induction n with
  | zero =>
    intro x2 x3 x4 S h
    exact nomatch (show none = _ from h)
  | succ n ih =>
    intro x2 x3 x4 S h
    rw [f_X8_run_68] at h
    refine r_iload (pc' := 70) h0 4 dX8_run_68 rfl rfl ?_
    refine r_aload_n (pc' := 71) h0 0 dX8_run_70 rfl rfl rfl ?_
    refine gf_X8_76 (pc' := 74) h0 (Nat.le_of_ble_eq_true rfl) dX8_run_71 rfl ?_
    refine r_ic_ge (pt := 107) (pf := 77) h0 dX8_run_74 rfl rfl h (fun c74 h => ?_) (fun c74 h => ?_)
    · refine r_aload_n (pc' := 108) h0 0 dX8_run_107 rfl rfl rfl ?_
      refine r_dup (pc' := 109) h0 dX8_run_108 rfl rfl ?_
      refine gf_X8_90 (pc' := 112) h0 (Nat.le_of_ble_eq_true rfl) dX8_run_109 rfl ?_
      refine r_iconst (pc' := 113) h0 dX8_run_112 ki_1 rfl ?_
      refine r_iadd (pc' := 114) h0 dX8_run_113 rfl ?_
      refine pf_X8_90 (pc' := 117) h0 (Nat.le_of_ble_eq_true rfl) dX8_run_114 rfl ?_
      refine r_iinc (pc' := 120) (L' := [(3, .int (x3 + 1)), (0, .ref (wA (wR g) 8 0)), (1, .int x1), (2, .int x2), (4, .int x4)]) h0 3 dX8_run_117 rfl ki_1 (Nat.le_of_ble_eq_true rfl) rfl rfl ?_
      refine r_goto (pc' := 60) h0 dX8_run_120 rfl ?_
      refine r_sub (L' := [(0, .ref (wA (wR g) 8 0)), (1, .int x1), (2, .int x2), (3, .int (x3 + 1))]) [1, 2, 3, 0] rfl ?_
      exact kK60 x2 (x3 + 1) (wI S 8 0 14 ((S.1 8 0 14) + 1)) h
    · refine r_iload (pc' := 79) h0 4 dX8_run_77 rfl rfl ?_
      refine r_if_ne (pt := 89) (pf := 82) h0 dX8_run_79 rfl rfl h (fun c79 h => ?_) (fun c79 h => ?_)
      · refine r_aload_n (pc' := 90) h0 0 dX8_run_89 rfl rfl rfl ?_
        refine r_iload (pc' := 92) h0 4 dX8_run_90 rfl rfl ?_
        obtain ⟨r92, S92, h92, h⟩ := b2_some h
        refine go_V (k_X8_198 g) (st2 := []) (pc' := 95) [.int x4] [] h0 (Nat.le_of_ble_eq_true rfl) (c_X8_joins g fu x4 S h92) rfl rfl dX8_run_92 rfl (Nat.le_of_ble_eq_true rfl) ⟨rfl, rfl, Nat.le_of_ble_eq_true rfl, Nat.le_of_ble_eq_true rfl⟩ ⟨Nat.le_of_ble_eq_true rfl, Nat.le_of_ble_eq_true rfl⟩ rfl ?_
        exact w_X8_run_95 h0 fu x1 hE (f_X8_run_68 fu K60 x1 n) ih x2 x3 x4 S92 h
      · refine r_aload_n (pc' := 83) h0 0 dX8_run_82 rfl rfl rfl ?_
        obtain ⟨r83, S83, h83, h⟩ := b2_some h
        refine go_V (k_X8_195 g) (st2 := []) (pc' := 86) [] [] h0 (Nat.le_of_ble_eq_true rfl) (c_X8_arrives g fu S h83) rfl rfl dX8_run_83 rfl (Nat.le_of_ble_eq_true rfl) ⟨rfl, rfl, Nat.le_of_ble_eq_true rfl, Nat.le_of_ble_eq_true rfl⟩ ⟨Nat.le_of_ble_eq_true rfl, Nat.le_of_ble_eq_true rfl⟩ rfl ?_
        refine r_goto (pc' := 95) h0 dX8_run_86 rfl ?_
        exact w_X8_run_95 h0 fu x1 hE (f_X8_run_68 fu K60 x1 n) ih x2 x3 x4 S83 h
theorem w_X8_run_60 {g : GR} {X : MX} {r : Int32} {S' : Mem} (h0 : CX RX8 cX8_run 5 rm_X8_run X (wR g)) (fu : Nat) (x1 : Int32) (hE : EN (some .int) (some (.int r)) S' X (wR g)) : ∀ (n : Nat) (x2 : Int32) (x3 : Int32) (S : Mem), f_X8_run_60 fu x1 n x2 x3 S = some (r, S') → GV X (wR g) 5 0 0 S [(0, .ref (wA (wR g) 8 0)), (1, .int x1), (2, .int x2), (3, .int x3)] 60 [] := by
  intro n
  induction n with
  | zero =>
    intro x2 x3 S h
    exact nomatch (show none = _ from h)
  | succ n ih =>
    intro x2 x3 S h
    rw [f_X8_run_60] at h
    refine r_iload_n (pc' := 61) h0 3 dX8_run_60 rfl rfl rfl ?_
    refine r_iload_n (pc' := 62) h0 1 dX8_run_61 rfl rfl rfl ?_
    refine r_ic_ge (pt := 123) (pf := 65) h0 dX8_run_62 rfl rfl h (fun c62 h => ?_) (fun c62 h => ?_)
    · refine r_aload_n (pc' := 124) h0 0 dX8_run_123 rfl rfl rfl ?_
      refine gf_X8_99 (pc' := 127) h0 (Nat.le_of_ble_eq_true rfl) dX8_run_124 rfl ?_
      refine r_iload_n (pc' := 128) h0 2 dX8_run_127 rfl rfl rfl ?_
      refine r_isub (pc' := 129) h0 dX8_run_128 rfl ?_
      exact r_iret h0 hE dX8_run_129 h
    · refine r_iconst (pc' := 66) h0 dX8_run_65 ki_0 rfl ?_
      refine r_istore (pc' := 68) (L' := [(4, .int 0), (0, .ref (wA (wR g) 8 0)), (1, .int x1), (2, .int x2), (3, .int x3)]) h0 dX8_run_66 (Nat.le_of_ble_eq_true rfl) rfl rfl ?_
      refine r_sub (L' := [(0, .ref (wA (wR g) 8 0)), (1, .int x1), (2, .int x2), (3, .int x3), (4, .int 0)]) [1, 2, 3, 4, 0] rfl ?_
      exact w_X8_run_68 h0 fu x1 hE (f_X8_run_60 fu x1 n) ih fu x2 x3 0 S h
theorem w_X8_run_40 {g : GR} {X : MX} {r : Int32} {S' : Mem} (h0 : CX RX8 cX8_run 5 rm_X8_run X (wR g)) (fu : Nat) (x1 : Int32) (hE : EN (some .int) (some (.int r)) S' X (wR g)) : ∀ (t0 : Int32) (S : Mem), f_X8_run_40 fu x1 t0 S = some (r, S') → GV X (wR g) 5 0 0 S [(0, .ref (wA (wR g) 8 0)), (1, .int x1)] 40 [.int t0, .ref (wA (wR g) 8 0)] := by
  intro t0 S h
  rw [f_X8_run_40] at h
  obtain ⟨r40, S40, h40, h⟩ := b2_some h
  refine go_V (k_X8_102 g) (st2 := [.int r40]) (pc' := 43) [.int t0] [] h0 (Nat.le_of_ble_eq_true rfl) (c_X8_holds g fu t0 S h40) rfl rfl dX8_run_40 rfl (Nat.le_of_ble_eq_true rfl) ⟨rfl, rfl, Nat.le_of_ble_eq_true rfl, Nat.le_of_ble_eq_true rfl⟩ ⟨Nat.le_of_ble_eq_true rfl, Nat.le_of_ble_eq_true rfl⟩ rfl ?_
  refine r_if_ne (pt := 48) (pf := 46) h0 dX8_run_43 rfl rfl h (fun c43 h => ?_) (fun c43 h => ?_)
  · refine r_aload_n (pc' := 49) h0 0 dX8_run_48 rfl rfl rfl ?_
    refine r_iconst (pc' := 50) h0 dX8_run_49 ki_1 rfl ?_
    refine pf_X8_86 (pc' := 53) h0 (Nat.le_of_ble_eq_true rfl) dX8_run_50 rfl rfl ?_
    refine r_aload_n (pc' := 54) h0 0 dX8_run_53 rfl rfl rfl ?_
    refine gf_X8_99 (pc' := 57) h0 (Nat.le_of_ble_eq_true rfl) dX8_run_54 rfl ?_
    refine r_istore_n (pc' := 58) (L' := [(2, .int ((wI S40 8 0 3 1).1 8 0 17)), (0, .ref (wA (wR g) 8 0)), (1, .int x1)]) h0 dX8_run_57 rfl (Nat.le_of_ble_eq_true rfl) rfl rfl ?_
    refine r_iconst (pc' := 59) h0 dX8_run_58 ki_0 rfl ?_
    refine r_istore_n (pc' := 60) (L' := [(3, .int 0), (2, .int ((wI S40 8 0 3 1).1 8 0 17)), (0, .ref (wA (wR g) 8 0)), (1, .int x1)]) h0 dX8_run_59 rfl (Nat.le_of_ble_eq_true rfl) rfl rfl ?_
    refine r_sub (L' := [(0, .ref (wA (wR g) 8 0)), (1, .int x1), (2, .int ((wI S40 8 0 3 1).1 8 0 17)), (3, .int 0)]) [2, 3, 1, 0] rfl ?_
    exact w_X8_run_60 h0 fu x1 hE fu ((wI S40 8 0 3 1).1 8 0 17) 0 (wI S40 8 0 3 1) h
  · refine r_iconst (pc' := 47) h0 dX8_run_46 ki_0 rfl ?_
    exact r_iret h0 hE dX8_run_47 h
theorem w_X8_run_35 {g : GR} {X : MX} {r : Int32} {S' : Mem} (h0 : CX RX8 cX8_run 5 rm_X8_run X (wR g)) (fu : Nat) (x1 : Int32) (hE : EN (some .int) (some (.int r)) S' X (wR g)) : ∀ (S : Mem), f_X8_run_35 fu x1 S = some (r, S') → GV X (wR g) 5 0 0 S [(0, .ref (wA (wR g) 8 0)), (1, .int x1)] 35 [.ref (wA (wR g) 8 0)] := by
  intro S h
  rw [f_X8_run_35] at h
  refine r_iconst (pc' := 36) h0 dX8_run_35 ki_2 rfl ?_
  refine r_goto (pc' := 40) h0 dX8_run_36 rfl ?_
  exact w_X8_run_40 h0 fu x1 hE 2 S h
/-- the machine does what f_X8_run says -/
theorem c_X8_run (g : GR) (fu : Nat) (x1 : Int32) (S : Mem) {r : Int32} {S' : Mem} (h : f_X8_run fu x1 S = some (r, S')) : ctN yX8_run cX8_run 5 (some .int) rm_X8_run (wR g) [.ref (wA (wR g) 8 0), .int x1] S (some (.int r)) S' := by
  refine ct_of (own := RX8) (L := [(0, .ref (wA (wR g) 8 0)), (1, .int x1)]) (by decide +kernel) rfl (Nat.le_of_ble_eq_true rfl) rfl (fun X h0 hE => ?_)
  rw [f_X8_run] at h
  refine r_aload_n (pc' := 1) h0 0 dX8_run_0 rfl rfl rfl ?_
  refine r_iload_n (pc' := 2) h0 1 dX8_run_1 rfl rfl rfl ?_
  refine r_iconst (pc' := 3) h0 dX8_run_2 ki_1 rfl ?_
  refine r_sipush (pc' := 6) h0 dX8_run_3 ks_600 rfl ?_
  obtain ⟨r6, h6, h⟩ := b1_some h
  refine go_S (k_X8_79 g) (st2 := [.int r6, .ref (wA (wR g) 8 0)]) (pc' := 9) [.int x1, .int 1, .int 600] [.ref (wA (wR g) 8 0)] h0 (c_X8_in g fu x1 1 600 S h6) rfl rfl dX8_run_6 rfl (Nat.le_of_ble_eq_true rfl) ⟨rfl, rfl, Nat.le_of_ble_eq_true rfl, Nat.le_of_ble_eq_true rfl⟩ ⟨Nat.le_of_ble_eq_true rfl, Nat.le_of_ble_eq_true rfl⟩ rfl ?_
  refine r_if_ne (pt := 16) (pf := 12) h0 dX8_run_9 rfl rfl h (fun c9 h => ?_) (fun c9 h => ?_)
  · refine r_aload_n (pc' := 17) h0 0 dX8_run_16 rfl rfl rfl ?_
    obtain ⟨r17, S17, h17, h⟩ := b2_some h
    refine go_V (k_X8_174 g) (st2 := [.int r17, .ref (wA (wR g) 8 0)]) (pc' := 20) [] [.ref (wA (wR g) 8 0)] h0 (Nat.le_of_ble_eq_true rfl) (c_X8_plansAll g fu S h17) rfl rfl dX8_run_17 rfl (Nat.le_of_ble_eq_true rfl) ⟨rfl, rfl, Nat.le_of_ble_eq_true rfl, Nat.le_of_ble_eq_true rfl⟩ ⟨Nat.le_of_ble_eq_true rfl, Nat.le_of_ble_eq_true rfl⟩ rfl ?_
    refine r_if_eq (pt := 35) (pf := 23) h0 dX8_run_20 rfl rfl h (fun c20 h => ?_) (fun c20 h => ?_)
    · exact w_X8_run_35 h0 fu x1 hE S17 h
    · refine r_aload_n (pc' := 24) h0 0 dX8_run_23 rfl rfl rfl ?_
      refine gf_X8_90 (pc' := 27) h0 (Nat.le_of_ble_eq_true rfl) dX8_run_24 rfl ?_
      refine r_iload_n (pc' := 28) h0 1 dX8_run_27 rfl rfl rfl ?_
      refine r_iadd (pc' := 29) h0 dX8_run_28 rfl ?_
      refine r_sipush (pc' := 32) h0 dX8_run_29 ks_7200 rfl ?_
      refine r_ic_le (pt := 39) (pf := 35) h0 dX8_run_32 rfl rfl h (fun c32 h => ?_) (fun c32 h => ?_)
      · refine r_iconst (pc' := 40) h0 dX8_run_39 ki_0 rfl ?_
        exact w_X8_run_40 h0 fu x1 hE 0 S17 h
      · exact w_X8_run_35 h0 fu x1 hE S17 h
  · refine r_iconst (pc' := 13) h0 dX8_run_12 ki_1 rfl ?_
    refine r_goto (pc' := 40) h0 dX8_run_13 rfl ?_
    exact w_X8_run_40 h0 fu x1 hE 1 S h
theorem w_X8_phaseOf_2 {g : GR} {X : MX} {r : Int32}  (h0 : CX RX8 cX8_phaseOf 4 rm_X8_phaseOf X (wR g)) (fu : Nat) (x1 : Int32) (x2 : Int32) (S : Mem) (hE : EN (some .int) (some (.int r)) S X (wR g)) : ∀ (n : Nat) (x3 : Int32), f_X8_phaseOf_2 fu x1 x2 S n x3 = some r → GV X (wR g) 4 0 0 S [(0, .ref (wA (wR g) 8 0)), (1, .int x1), (2, .int x2), (3, .int x3)] 2 [] := by
  intro n
  induction n with
  | zero =>
    intro x3 h
    exact nomatch (show none = _ from h)
  | succ n ih =>
    intro x3 h
    rw [f_X8_phaseOf_2] at h
    refine r_iload_n (pc' := 3) h0 3 dX8_phaseOf_2 rfl rfl rfl ?_
    refine r_aload_n (pc' := 4) h0 0 dX8_phaseOf_3 rfl rfl rfl ?_
    refine gf_X8_16 (pc' := 7) h0 (Nat.le_of_ble_eq_true rfl) dX8_phaseOf_4 rfl ?_
    refine r_iload_n (pc' := 8) h0 1 dX8_phaseOf_7 rfl rfl rfl ?_
    refine r_ialdA (pc' := 9) h0 (ia_22 g) (Nat.le_of_ble_eq_true rfl) dX8_phaseOf_8 rfl h (fun h => ?_)
    refine r_ic_ge (pt := 37) (pf := 12) h0 dX8_phaseOf_9 rfl rfl h (fun c9 h => ?_) (fun c9 h => ?_)
    · refine r_iconst (pc' := 38) h0 dX8_phaseOf_37 ki_m1 rfl ?_
      exact r_iretR h0 hE dX8_phaseOf_38 h
    · refine r_aload_n (pc' := 13) h0 0 dX8_phaseOf_12 rfl rfl rfl ?_
      refine gf_X8_13 (pc' := 16) h0 (Nat.le_of_ble_eq_true rfl) dX8_phaseOf_13 rfl ?_
      refine r_iconst (pc' := 17) h0 dX8_phaseOf_16 ki_4 rfl ?_
      refine r_iload_n (pc' := 18) h0 1 dX8_phaseOf_17 rfl rfl rfl ?_
      refine r_imul (pc' := 19) h0 dX8_phaseOf_18 rfl ?_
      refine r_iload_n (pc' := 20) h0 3 dX8_phaseOf_19 rfl rfl rfl ?_
      refine r_iadd (pc' := 21) h0 dX8_phaseOf_20 rfl ?_
      refine r_ialdA (pc' := 22) h0 (ia_21 g) (Nat.le_of_ble_eq_true rfl) dX8_phaseOf_21 rfl h (fun h => ?_)
      refine r_iload_n (pc' := 23) h0 2 dX8_phaseOf_22 rfl rfl rfl ?_
      obtain ⟨r23, h23, h⟩ := b1_some h
      refine go_S (k_X8_106 g) (st2 := [.int r23]) (pc' := 26) [.int (S.1 21 0 (((4 * x1) + x3) : Int32).toNatClampNeg), .int x2] [] h0 (c_X8_has g fu (S.1 21 0 (((4 * x1) + x3) : Int32).toNatClampNeg) x2 S h23) rfl rfl dX8_phaseOf_23 rfl (Nat.le_of_ble_eq_true rfl) ⟨rfl, rfl, Nat.le_of_ble_eq_true rfl, Nat.le_of_ble_eq_true rfl⟩ ⟨Nat.le_of_ble_eq_true rfl, Nat.le_of_ble_eq_true rfl⟩ rfl ?_
      refine r_if_eq (pt := 31) (pf := 29) h0 dX8_phaseOf_26 rfl rfl h (fun c26 h => ?_) (fun c26 h => ?_)
      · refine r_iinc (pc' := 34) (L' := [(3, .int (x3 + 1)), (0, .ref (wA (wR g) 8 0)), (1, .int x1), (2, .int x2)]) h0 3 dX8_phaseOf_31 rfl ki_1 (Nat.le_of_ble_eq_true rfl) rfl rfl ?_
        refine r_goto (pc' := 2) h0 dX8_phaseOf_34 rfl ?_
        refine r_sub (L' := [(0, .ref (wA (wR g) 8 0)), (1, .int x1), (2, .int x2), (3, .int (x3 + 1))]) [1, 2, 3, 0] rfl ?_
        exact ih (x3 + 1) h
      · refine r_iload_n (pc' := 30) h0 3 dX8_phaseOf_29 rfl rfl rfl ?_
        exact r_iretR h0 hE dX8_phaseOf_30 h
/-- the machine does what f_X8_phaseOf says -/
theorem c_X8_phaseOf (g : GR) (fu : Nat) (x1 : Int32) (x2 : Int32) (S : Mem) {r : Int32}  (h : f_X8_phaseOf fu x1 x2 S = some r) : ctN yX8_phaseOf cX8_phaseOf 4 (some .int) rm_X8_phaseOf (wR g) [.ref (wA (wR g) 8 0), .int x1, .int x2] S (some (.int r)) S := by
  refine ct_of (own := RX8) (L := [(0, .ref (wA (wR g) 8 0)), (1, .int x1), (2, .int x2)]) (by decide +kernel) rfl (Nat.le_of_ble_eq_true rfl) rfl (fun X h0 hE => ?_)
  rw [f_X8_phaseOf] at h
  refine r_iconst (pc' := 1) h0 dX8_phaseOf_0 ki_0 rfl ?_
  refine r_istore_n (pc' := 2) (L' := [(3, .int 0), (0, .ref (wA (wR g) 8 0)), (1, .int x1), (2, .int x2)]) h0 dX8_phaseOf_1 rfl (Nat.le_of_ble_eq_true rfl) rfl rfl ?_
  refine r_sub (L' := [(0, .ref (wA (wR g) 8 0)), (1, .int x1), (2, .int x2), (3, .int 0)]) [1, 2, 3, 0] rfl ?_
  exact w_X8_phaseOf_2 h0 fu x1 x2 S hE fu 0 h
theorem w_X8_errorOfCall_76 {g : GR} {X : MX} {r : Int32} {S' : Mem} (h0 : CX RX8 cX8_errorOfCall 4 rm_X8_errorOfCall X (wR g)) (fu : Nat) (x1 : Int32) (x2 : Int32) (hE : EN (some .int) (some (.int r)) S' X (wR g)) : ∀ (t0 : Int32) (S : Mem), f_X8_errorOfCall_76 fu x1 x2 t0 S = some (r, S') → GV X (wR g) 4 0 0 S [] 76 [.int t0] := by
  intro t0 S h
  rw [f_X8_errorOfCall_76] at h
  exact r_iret h0 hE dX8_errorOfCall_76 h
theorem w_X8_errorOfCall_71 {g : GR} {X : MX} {r : Int32} {S' : Mem} (h0 : CX RX8 cX8_errorOfCall 4 rm_X8_errorOfCall X (wR g)) (fu : Nat) (x1 : Int32) (x2 : Int32) (hE : EN (some .int) (some (.int r)) S' X (wR g)) : ∀ (S : Mem), f_X8_errorOfCall_71 fu x1 x2 S = some (r, S') → GV X (wR g) 4 0 0 S [] 71 [] := by
  intro S h
  rw [f_X8_errorOfCall_71] at h
  refine r_iconst (pc' := 72) h0 dX8_errorOfCall_71 ki_2 rfl ?_
  refine r_goto (pc' := 76) h0 dX8_errorOfCall_72 rfl ?_
  exact w_X8_errorOfCall_76 h0 fu x1 x2 hE 2 S h
theorem w_X8_errorOfCall_49 {g : GR} {X : MX} {r : Int32} {S' : Mem} (h0 : CX RX8 cX8_errorOfCall 4 rm_X8_errorOfCall X (wR g)) (fu : Nat) (x1 : Int32) (x2 : Int32) (hE : EN (some .int) (some (.int r)) S' X (wR g)) : ∀ (t0 : Int32) (S : Mem), f_X8_errorOfCall_49 fu x1 x2 t0 S = some (r, S') → GV X (wR g) 4 0 0 S [(0, .ref (wA (wR g) 8 0)), (1, .int x1), (2, .int x2)] 49 [.int t0] := by
  intro t0 S h
  rw [f_X8_errorOfCall_49] at h
  refine r_istore_n (pc' := 50) (L' := [(3, .int t0), (0, .ref (wA (wR g) 8 0)), (1, .int x1), (2, .int x2)]) h0 dX8_errorOfCall_49 rfl (Nat.le_of_ble_eq_true rfl) rfl rfl ?_
  refine r_aload_n (pc' := 51) h0 1 dX8_errorOfCall_50 rfl rfl rfl ?_
  obtain ⟨r51, S51, h51, h⟩ := b2_some h
  refine go_V (k_X8_174 g) (st2 := [.int r51]) (pc' := 54) [] [] h0 (Nat.le_of_ble_eq_true rfl) (c_X8_plansAll g fu S h51) rfl rfl dX8_errorOfCall_51 rfl (Nat.le_of_ble_eq_true rfl) ⟨rfl, rfl, Nat.le_of_ble_eq_true rfl, Nat.le_of_ble_eq_true rfl⟩ ⟨Nat.le_of_ble_eq_true rfl, Nat.le_of_ble_eq_true rfl⟩ rfl ?_
  refine r_if_eq (pt := 71) (pf := 57) h0 dX8_errorOfCall_54 rfl rfl h (fun c54 h => ?_) (fun c54 h => ?_)
  · refine r_sub (L' := []) [] rfl ?_
    exact w_X8_errorOfCall_71 h0 fu x1 x2 hE S51 h
  · refine r_aload_n (pc' := 58) h0 1 dX8_errorOfCall_57 rfl rfl rfl ?_
    refine r_iload_n (pc' := 59) h0 2 dX8_errorOfCall_58 rfl rfl rfl ?_
    refine r_iload_n (pc' := 60) h0 3 dX8_errorOfCall_59 rfl rfl rfl ?_
    obtain ⟨r60, h60, h⟩ := b1_some h
    refine go_V (k_X8_204 g) (st2 := [.int r60]) (pc' := 63) [.int x1, .int x2] [] h0 (Nat.le_of_ble_eq_true rfl) (c_X8_phaseOf g fu x1 x2 S51 h60) rfl rfl dX8_errorOfCall_60 rfl (Nat.le_of_ble_eq_true rfl) ⟨rfl, rfl, Nat.le_of_ble_eq_true rfl, Nat.le_of_ble_eq_true rfl⟩ ⟨Nat.le_of_ble_eq_true rfl, Nat.le_of_ble_eq_true rfl⟩ rfl ?_
    refine r_iconst (pc' := 64) h0 dX8_errorOfCall_63 ki_m1 rfl ?_
    refine r_ic_eq (pt := 71) (pf := 67) h0 dX8_errorOfCall_64 rfl rfl h (fun c64 h => ?_) (fun c64 h => ?_)
    · refine r_sub (L' := []) [] rfl ?_
      exact w_X8_errorOfCall_71 h0 fu x1 x2 hE S51 h
    · refine r_iload_n (pc' := 68) h0 0 dX8_errorOfCall_67 rfl rfl rfl ?_
      refine r_if_eq (pt := 75) (pf := 71) h0 dX8_errorOfCall_68 rfl rfl h (fun c68 h => ?_) (fun c68 h => ?_)
      · refine r_iconst (pc' := 76) h0 dX8_errorOfCall_75 ki_0 rfl ?_
        refine r_sub (L' := []) [] rfl ?_
        exact w_X8_errorOfCall_76 h0 fu x1 x2 hE 0 S51 h
      · refine r_sub (L' := []) [] rfl ?_
        exact w_X8_errorOfCall_71 h0 fu x1 x2 hE S51 h
theorem w_X8_errorOfCall_48 {g : GR} {X : MX} {r : Int32} {S' : Mem} (h0 : CX RX8 cX8_errorOfCall 4 rm_X8_errorOfCall X (wR g)) (fu : Nat) (x1 : Int32) (x2 : Int32) (hE : EN (some .int) (some (.int r)) S' X (wR g)) : ∀ (S : Mem), f_X8_errorOfCall_48 fu x1 x2 S = some (r, S') → GV X (wR g) 4 0 0 S [(0, .ref (wA (wR g) 8 0)), (1, .int x1), (2, .int x2)] 48 [] := by
  intro S h
  rw [f_X8_errorOfCall_48] at h
  refine r_iconst (pc' := 49) h0 dX8_errorOfCall_48 ki_0 rfl ?_
  exact w_X8_errorOfCall_49 h0 fu x1 x2 hE 0 S h
theorem w_X8_errorOfCall_15 {g : GR} {X : MX} {r : Int32} {S' : Mem} (h0 : CX RX8 cX8_errorOfCall 4 rm_X8_errorOfCall X (wR g)) (fu : Nat) (x1 : Int32) (x2 : Int32) (hE : EN (some .int) (some (.int r)) S' X (wR g)) : ∀ (S : Mem), f_X8_errorOfCall_15 fu x1 x2 S = some (r, S') → GV X (wR g) 4 0 0 S [] 15 [] := by
  intro S h
  rw [f_X8_errorOfCall_15] at h
  refine r_iconst (pc' := 16) h0 dX8_errorOfCall_15 ki_1 rfl ?_
  exact r_iret h0 hE dX8_errorOfCall_16 h
/-- the machine does what f_X8_errorOfCall says -/
theorem c_X8_errorOfCall (g : GR) (fu : Nat) (x1 : Int32) (x2 : Int32) (S : Mem) {r : Int32} {S' : Mem} (h : f_X8_errorOfCall fu x1 x2 S = some (r, S')) : ctN yX8_errorOfCall cX8_errorOfCall 4 (some .int) rm_X8_errorOfCall (wR g) [.ref (wA (wR g) 8 0), .int x1, .int x2] S (some (.int r)) S' := by
  refine ct_of (own := RX8) (L := [(0, .ref (wA (wR g) 8 0)), (1, .int x1), (2, .int x2)]) (by decide +kernel) rfl (Nat.le_of_ble_eq_true rfl) rfl (fun X h0 hE => ?_)
  rw [f_X8_errorOfCall] at h
  refine r_aload_n (pc' := 1) h0 0 dX8_errorOfCall_0 rfl rfl rfl ?_
  refine r_iload_n (pc' := 2) h0 1 dX8_errorOfCall_1 rfl rfl rfl ?_
  obtain ⟨r2, h2, h⟩ := b1_some h
  refine go_V (k_X8_118 g) (st2 := [.int r2]) (pc' := 5) [.int x1] [] h0 (Nat.le_of_ble_eq_true rfl) (c_X8_isJunction g fu x1 S h2) rfl rfl dX8_errorOfCall_2 rfl (Nat.le_of_ble_eq_true rfl) ⟨rfl, rfl, Nat.le_of_ble_eq_true rfl, Nat.le_of_ble_eq_true rfl⟩ ⟨Nat.le_of_ble_eq_true rfl, Nat.le_of_ble_eq_true rfl⟩ rfl ?_
  refine r_if_eq (pt := 15) (pf := 8) h0 dX8_errorOfCall_5 rfl rfl h (fun c5 h => ?_) (fun c5 h => ?_)
  · refine r_sub (L' := []) [] rfl ?_
    exact w_X8_errorOfCall_15 h0 fu x1 x2 hE S h
  · refine r_iload_n (pc' := 9) h0 2 dX8_errorOfCall_8 rfl rfl rfl ?_
    obtain ⟨r9, h9, h⟩ := b1_some h
    refine go_S (k_X8_121 g) (st2 := [.int r9]) (pc' := 12) [.int x2] [] h0 (c_X8_isMovement g fu x2 S h9) rfl rfl dX8_errorOfCall_9 rfl (Nat.le_of_ble_eq_true rfl) ⟨rfl, rfl, Nat.le_of_ble_eq_true rfl, Nat.le_of_ble_eq_true rfl⟩ ⟨Nat.le_of_ble_eq_true rfl, Nat.le_of_ble_eq_true rfl⟩ rfl ?_
    refine r_if_ne (pt := 17) (pf := 15) h0 dX8_errorOfCall_12 rfl rfl h (fun c12 h => ?_) (fun c12 h => ?_)
    · refine r_aload_n (pc' := 18) h0 0 dX8_errorOfCall_17 rfl rfl rfl ?_
      refine gf_X8_53 (pc' := 21) h0 (Nat.le_of_ble_eq_true rfl) dX8_errorOfCall_18 rfl ?_
      refine r_iload_n (pc' := 22) h0 1 dX8_errorOfCall_21 rfl rfl rfl ?_
      refine r_zaldA (pc' := 23) h0 (iz_34 g) (Nat.le_of_ble_eq_true rfl) dX8_errorOfCall_22 rfl h (fun h => ?_)
      refine r_if_eq (pt := 48) (pf := 26) h0 dX8_errorOfCall_23 rfl rfl h (fun c23 h => ?_) (fun c23 h => ?_)
      · exact w_X8_errorOfCall_48 h0 fu x1 x2 hE S h
      · refine r_aload_n (pc' := 27) h0 0 dX8_errorOfCall_26 rfl rfl rfl ?_
        refine gf_X8_56 (pc' := 30) h0 (Nat.le_of_ble_eq_true rfl) dX8_errorOfCall_27 rfl ?_
        refine r_iload_n (pc' := 31) h0 1 dX8_errorOfCall_30 rfl rfl rfl ?_
        refine r_ialdA (pc' := 32) h0 (ia_35 g) (Nat.le_of_ble_eq_true rfl) dX8_errorOfCall_31 rfl h (fun h => ?_)
        refine r_aload_n (pc' := 33) h0 0 dX8_errorOfCall_32 rfl rfl rfl ?_
        refine r_iload_n (pc' := 34) h0 1 dX8_errorOfCall_33 rfl rfl rfl ?_
        refine r_aload_n (pc' := 35) h0 0 dX8_errorOfCall_34 rfl rfl rfl ?_
        refine gf_X8_90 (pc' := 38) h0 (Nat.le_of_ble_eq_true rfl) dX8_errorOfCall_35 rfl ?_
        obtain ⟨r38, h38, h⟩ := b1_some h
        refine go_V (k_X8_151 g) (st2 := [.int r38, .int (S.1 35 0 (x1 : Int32).toNatClampNeg)]) (pc' := 41) [.int x1, .int (S.1 8 0 14)] [.int (S.1 35 0 (x1 : Int32).toNatClampNeg)] h0 (Nat.le_of_ble_eq_true rfl) (c_X8_cycleOf g fu x1 (S.1 8 0 14) S h38) rfl rfl dX8_errorOfCall_38 rfl (Nat.le_of_ble_eq_true rfl) ⟨rfl, rfl, Nat.le_of_ble_eq_true rfl, Nat.le_of_ble_eq_true rfl⟩ ⟨Nat.le_of_ble_eq_true rfl, Nat.le_of_ble_eq_true rfl⟩ rfl ?_
        refine r_ic_ne (pt := 48) (pf := 44) h0 dX8_errorOfCall_41 rfl rfl h (fun c41 h => ?_) (fun c41 h => ?_)
        · exact w_X8_errorOfCall_48 h0 fu x1 x2 hE S h
        · refine r_iconst (pc' := 45) h0 dX8_errorOfCall_44 ki_1 rfl ?_
          refine r_goto (pc' := 49) h0 dX8_errorOfCall_45 rfl ?_
          exact w_X8_errorOfCall_49 h0 fu x1 x2 hE 1 S h
    · refine r_sub (L' := []) [] rfl ?_
      exact w_X8_errorOfCall_15 h0 fu x1 x2 hE S h
theorem w_X8_least_10 {g : GR} {X : MX} {r : Int32}  (h0 : CX RX8 cX8_least 2 rm_X8_least X (wR g)) (fu : Nat) (x0 : Int32) (x1 : Int32) (S : Mem) (hE : EN (some .int) (some (.int r)) S X (wR g)) : ∀ (t0 : Int32), f_X8_least_10 fu x0 x1 S t0 = some r → GV X (wR g) 2 0 0 S [] 10 [.int t0] := by
  intro t0 h
  rw [f_X8_least_10] at h
  exact r_iretR h0 hE dX8_least_10 h
/-- the machine does what f_X8_least says -/
theorem c_X8_least (g : GR) (fu : Nat) (x0 : Int32) (x1 : Int32) (S : Mem) {r : Int32}  (h : f_X8_least fu x0 x1 S = some r) : ctN yX8_least cX8_least 2 (some .int) rm_X8_least (wR g) [.int x0, .int x1] S (some (.int r)) S := by
  refine ct_of (own := RX8) (L := [(0, .int x0), (1, .int x1)]) (by decide +kernel) rfl (Nat.le_of_ble_eq_true rfl) rfl (fun X h0 hE => ?_)
  rw [f_X8_least] at h
  refine r_iload_n (pc' := 1) h0 0 dX8_least_0 rfl rfl rfl ?_
  refine r_iload_n (pc' := 2) h0 1 dX8_least_1 rfl rfl rfl ?_
  refine r_ic_ge (pt := 9) (pf := 5) h0 dX8_least_2 rfl rfl h (fun c2 h => ?_) (fun c2 h => ?_)
  · refine r_iload_n (pc' := 10) h0 1 dX8_least_9 rfl rfl rfl ?_
    refine r_sub (L' := []) [] rfl ?_
    exact w_X8_least_10 h0 fu x0 x1 S hE x1 h
  · refine r_iload_n (pc' := 6) h0 0 dX8_least_5 rfl rfl rfl ?_
    refine r_goto (pc' := 10) h0 dX8_least_6 rfl ?_
    refine r_sub (L' := []) [] rfl ?_
    exact w_X8_least_10 h0 fu x0 x1 S hE x0 h
/-- the machine does what f_X8_above says -/
theorem c_X8_above (g : GR) (fu : Nat) (x1 : Int32) (x2 : Int32) (S : Mem) {r : Int32}  (h : f_X8_above fu x1 x2 S = some r) : ctN yX8_above cX8_above 3 (some .int) rm_X8_above (wR g) [.ref (wA (wR g) 8 0), .int x1, .int x2] S (some (.int r)) S := by
  refine ct_of (own := RX8) (L := [(0, .ref (wA (wR g) 8 0)), (1, .int x1), (2, .int x2)]) (by decide +kernel) rfl (Nat.le_of_ble_eq_true rfl) rfl (fun X h0 hE => ?_)
  rw [f_X8_above] at h
  refine r_aload_n (pc' := 1) h0 0 dX8_above_0 rfl rfl rfl ?_
  refine gf_X8_31 (pc' := 4) h0 (Nat.le_of_ble_eq_true rfl) dX8_above_1 rfl ?_
  refine r_iconst (pc' := 5) h0 dX8_above_4 ki_4 rfl ?_
  refine r_iload_n (pc' := 6) h0 1 dX8_above_5 rfl rfl rfl ?_
  refine r_imul (pc' := 7) h0 dX8_above_6 rfl ?_
  refine r_iload_n (pc' := 8) h0 2 dX8_above_7 rfl rfl rfl ?_
  refine r_iadd (pc' := 9) h0 dX8_above_8 rfl ?_
  refine r_ialdA (pc' := 10) h0 (ia_27 g) (Nat.le_of_ble_eq_true rfl) dX8_above_9 rfl h (fun h => ?_)
  refine r_aload_n (pc' := 11) h0 0 dX8_above_10 rfl rfl rfl ?_
  refine r_iload_n (pc' := 12) h0 1 dX8_above_11 rfl rfl rfl ?_
  refine r_iload_n (pc' := 13) h0 2 dX8_above_12 rfl rfl rfl ?_
  obtain ⟨r13, h13, h⟩ := b1_some h
  refine go_V (k_X8_138 g) (st2 := [.int r13, .int (S.1 27 0 (((4 * x1) + x2) : Int32).toNatClampNeg)]) (pc' := 16) [.int x1, .int x2] [.int (S.1 27 0 (((4 * x1) + x2) : Int32).toNatClampNeg)] h0 (Nat.le_of_ble_eq_true rfl) (c_X8_leastOf g fu x1 x2 S h13) rfl rfl dX8_above_13 rfl (Nat.le_of_ble_eq_true rfl) ⟨rfl, rfl, Nat.le_of_ble_eq_true rfl, Nat.le_of_ble_eq_true rfl⟩ ⟨Nat.le_of_ble_eq_true rfl, Nat.le_of_ble_eq_true rfl⟩ rfl ?_
  refine r_isub (pc' := 17) h0 dX8_above_16 rfl ?_
  exact r_iretR h0 hE dX8_above_17 h
theorem w_X8_behind_67 {g : GR} {X : MX} {r : Int32}  (h0 : CX RX8 cX8_behind 4 rm_X8_behind X (wR g)) (fu : Nat) (x1 : Int32) (x2 : Int32) (S : Mem) (hE : EN (some .int) (some (.int r)) S X (wR g)) : ∀ (x3 : Int32), f_X8_behind_67 fu x1 x2 S x3 = some r → GV X (wR g) 4 0 0 S [(3, .int x3)] 67 [] := by
  intro x3 h
  rw [f_X8_behind_67] at h
  refine r_iload_n (pc' := 68) h0 0 dX8_behind_67 rfl rfl rfl ?_
  exact r_iretR h0 hE dX8_behind_68 h
theorem w_X8_behind_2 {g : GR} {X : MX} {r : Int32}  (h0 : CX RX8 cX8_behind 4 rm_X8_behind X (wR g)) (fu : Nat) (x1 : Int32) (x2 : Int32) (S : Mem) (hE : EN (some .int) (some (.int r)) S X (wR g)) : ∀ (n : Nat) (x3 : Int32), f_X8_behind_2 fu x1 x2 S n x3 = some r → GV X (wR g) 4 0 0 S [(0, .ref (wA (wR g) 8 0)), (1, .int x1), (2, .int x2), (3, .int x3)] 2 [] := by
  intro n
  induction n with
  | zero =>
    intro x3 h
    exact nomatch (show none = _ from h)
  | succ n ih =>
    intro x3 h
    rw [f_X8_behind_2] at h
    refine r_aload_n (pc' := 3) h0 0 dX8_behind_2 rfl rfl rfl ?_
    refine r_iload_n (pc' := 4) h0 1 dX8_behind_3 rfl rfl rfl ?_
    refine r_aload_n (pc' := 5) h0 0 dX8_behind_4 rfl rfl rfl ?_
    refine gf_X8_90 (pc' := 8) h0 (Nat.le_of_ble_eq_true rfl) dX8_behind_5 rfl ?_
    refine r_iload_n (pc' := 9) h0 3 dX8_behind_8 rfl rfl rfl ?_
    refine r_iadd (pc' := 10) h0 dX8_behind_9 rfl ?_
    refine r_iconst (pc' := 11) h0 dX8_behind_10 ki_1 rfl ?_
    refine r_iadd (pc' := 12) h0 dX8_behind_11 rfl ?_
    refine r_iconst (pc' := 13) h0 dX8_behind_12 ki_0 rfl ?_
    obtain ⟨r13, h13, h⟩ := b1_some h
    refine go_V (k_X8_154 g) (st2 := [.int r13]) (pc' := 16) [.int x1, .int (((S.1 8 0 14) + x3) + 1), .int 0] [] h0 (Nat.le_of_ble_eq_true rfl) (c_X8_phaseAt g fu x1 (((S.1 8 0 14) + x3) + 1) 0 S h13) rfl rfl dX8_behind_13 rfl (Nat.le_of_ble_eq_true rfl) ⟨rfl, rfl, Nat.le_of_ble_eq_true rfl, Nat.le_of_ble_eq_true rfl⟩ ⟨Nat.le_of_ble_eq_true rfl, Nat.le_of_ble_eq_true rfl⟩ rfl ?_
    refine r_iload_n (pc' := 17) h0 2 dX8_behind_16 rfl rfl rfl ?_
    refine r_ic_ne (pt := 67) (pf := 20) h0 dX8_behind_17 rfl rfl h (fun c17 h => ?_) (fun c17 h => ?_)
    · refine r_sub (L' := [(3, .int x3)]) [3] rfl ?_
      exact w_X8_behind_67 h0 fu x1 x2 S hE x3 h
    · refine r_iload_n (pc' := 21) h0 3 dX8_behind_20 rfl rfl rfl ?_
      refine r_aload_n (pc' := 22) h0 0 dX8_behind_21 rfl rfl rfl ?_
      refine gf_X8_31 (pc' := 25) h0 (Nat.le_of_ble_eq_true rfl) dX8_behind_22 rfl ?_
      refine r_iconst (pc' := 26) h0 dX8_behind_25 ki_4 rfl ?_
      refine r_iload_n (pc' := 27) h0 1 dX8_behind_26 rfl rfl rfl ?_
      refine r_imul (pc' := 28) h0 dX8_behind_27 rfl ?_
      refine r_iload_n (pc' := 29) h0 2 dX8_behind_28 rfl rfl rfl ?_
      refine r_iadd (pc' := 30) h0 dX8_behind_29 rfl ?_
      refine r_ialdA (pc' := 31) h0 (ia_27 g) (Nat.le_of_ble_eq_true rfl) dX8_behind_30 rfl h (fun h => ?_)
      refine r_iconst (pc' := 32) h0 dX8_behind_31 ki_1 rfl ?_
      refine r_isub (pc' := 33) h0 dX8_behind_32 rfl ?_
      refine r_ic_ge (pt := 67) (pf := 36) h0 dX8_behind_33 rfl rfl h (fun c33 h => ?_) (fun c33 h => ?_)
      · refine r_sub (L' := [(3, .int x3)]) [3] rfl ?_
        exact w_X8_behind_67 h0 fu x1 x2 S hE x3 h
      · refine r_aload_n (pc' := 37) h0 0 dX8_behind_36 rfl rfl rfl ?_
        refine r_iload_n (pc' := 38) h0 1 dX8_behind_37 rfl rfl rfl ?_
        refine r_aload_n (pc' := 39) h0 0 dX8_behind_38 rfl rfl rfl ?_
        refine gf_X8_90 (pc' := 42) h0 (Nat.le_of_ble_eq_true rfl) dX8_behind_39 rfl ?_
        refine r_iload_n (pc' := 43) h0 3 dX8_behind_42 rfl rfl rfl ?_
        refine r_iadd (pc' := 44) h0 dX8_behind_43 rfl ?_
        refine r_iconst (pc' := 45) h0 dX8_behind_44 ki_1 rfl ?_
        refine r_iadd (pc' := 46) h0 dX8_behind_45 rfl ?_
        obtain ⟨r46, h46, h⟩ := b1_some h
        refine go_V (k_X8_151 g) (st2 := [.int r46]) (pc' := 49) [.int x1, .int (((S.1 8 0 14) + x3) + 1)] [] h0 (Nat.le_of_ble_eq_true rfl) (c_X8_cycleOf g fu x1 (((S.1 8 0 14) + x3) + 1) S h46) rfl rfl dX8_behind_46 rfl (Nat.le_of_ble_eq_true rfl) ⟨rfl, rfl, Nat.le_of_ble_eq_true rfl, Nat.le_of_ble_eq_true rfl⟩ ⟨Nat.le_of_ble_eq_true rfl, Nat.le_of_ble_eq_true rfl⟩ rfl ?_
        refine r_aload_n (pc' := 50) h0 0 dX8_behind_49 rfl rfl rfl ?_
        refine r_iload_n (pc' := 51) h0 1 dX8_behind_50 rfl rfl rfl ?_
        refine r_aload_n (pc' := 52) h0 0 dX8_behind_51 rfl rfl rfl ?_
        refine gf_X8_90 (pc' := 55) h0 (Nat.le_of_ble_eq_true rfl) dX8_behind_52 rfl ?_
        obtain ⟨r55, h55, h⟩ := b1_some h
        refine go_V (k_X8_151 g) (st2 := [.int r55, .int r46]) (pc' := 58) [.int x1, .int (S.1 8 0 14)] [.int r46] h0 (Nat.le_of_ble_eq_true rfl) (c_X8_cycleOf g fu x1 (S.1 8 0 14) S h55) rfl rfl dX8_behind_55 rfl (Nat.le_of_ble_eq_true rfl) ⟨rfl, rfl, Nat.le_of_ble_eq_true rfl, Nat.le_of_ble_eq_true rfl⟩ ⟨Nat.le_of_ble_eq_true rfl, Nat.le_of_ble_eq_true rfl⟩ rfl ?_
        refine r_ic_ne (pt := 67) (pf := 61) h0 dX8_behind_58 rfl rfl h (fun c58 h => ?_) (fun c58 h => ?_)
        · refine r_sub (L' := [(3, .int x3)]) [3] rfl ?_
          exact w_X8_behind_67 h0 fu x1 x2 S hE x3 h
        · refine r_iinc (pc' := 64) (L' := [(3, .int (x3 + 1)), (0, .ref (wA (wR g) 8 0)), (1, .int x1), (2, .int x2)]) h0 3 dX8_behind_61 rfl ki_1 (Nat.le_of_ble_eq_true rfl) rfl rfl ?_
          refine r_goto (pc' := 2) h0 dX8_behind_64 rfl ?_
          refine r_sub (L' := [(0, .ref (wA (wR g) 8 0)), (1, .int x1), (2, .int x2), (3, .int (x3 + 1))]) [1, 2, 3, 0] rfl ?_
          exact ih (x3 + 1) h
/-- the machine does what f_X8_behind says -/
theorem c_X8_behind (g : GR) (fu : Nat) (x1 : Int32) (x2 : Int32) (S : Mem) {r : Int32}  (h : f_X8_behind fu x1 x2 S = some r) : ctN yX8_behind cX8_behind 4 (some .int) rm_X8_behind (wR g) [.ref (wA (wR g) 8 0), .int x1, .int x2] S (some (.int r)) S := by
  refine ct_of (own := RX8) (L := [(0, .ref (wA (wR g) 8 0)), (1, .int x1), (2, .int x2)]) (by decide +kernel) rfl (Nat.le_of_ble_eq_true rfl) rfl (fun X h0 hE => ?_)
  rw [f_X8_behind] at h
  refine r_iconst (pc' := 1) h0 dX8_behind_0 ki_0 rfl ?_
  refine r_istore_n (pc' := 2) (L' := [(3, .int 0), (0, .ref (wA (wR g) 8 0)), (1, .int x1), (2, .int x2)]) h0 dX8_behind_1 rfl (Nat.le_of_ble_eq_true rfl) rfl rfl ?_
  refine r_sub (L' := [(0, .ref (wA (wR g) 8 0)), (1, .int x1), (2, .int x2), (3, .int 0)]) [1, 2, 3, 0] rfl ?_
  exact w_X8_behind_2 h0 fu x1 x2 S hE fu 0 h
