theorem w_X3_greatestClearance_51 {g : GC} {X : MX} {r : Int32}  (h0 : CX RX3 cX3_greatestClearance 6 rm_X3_greatestClearance X (wC g)) (fu : Nat) (k : Nat) (hk : k < 5) (x1 : Int32) (x2 : Int32) (S : Mem) (hE : EN (some .int) (some (.int r)) S X (wC g)) (K14 : Int32 → Int32 → Int32 → Option Int32) (kK14 : ∀ (x3 : Int32) (x4 : Int32) (x5 : Int32), K14 x3 x4 x5 = some r → GV X (wC g) 6 0 0 S [(0, .ref (wA (wC g) 3 k)), (1, .int x1), (2, .int x2), (3, .int x3), (4, .int x4), (5, .int x5)] 14 []) : ∀ (x3 : Int32) (x4 : Int32) (x5 : Int32), f_X3_greatestClearance_51 fu K14 k x1 x2 S x3 x4 x5 = some r → GV X (wC g) 6 0 0 S [(0, .ref (wA (wC g) 3 k)), (1, .int x1), (2, .int x2), (3, .int x3), (4, .int x4), (5, .int x5)] 51 [] := by
  intro x3 x4 x5 h
  rw [f_X3_greatestClearance_51] at h
  refine r_iinc (pc' := 54) (L' := [(5, .int (x5 + 1)), (0, .ref (wA (wC g) 3 k)), (1, .int x1), (2, .int x2), (3, .int x3), (4, .int x4)]) h0 5 dX3_greatestClearance_51 rfl ki_1 (Nat.le_of_ble_eq_true rfl) rfl rfl ?_
  refine r_goto (pc' := 14) h0 dX3_greatestClearance_54 rfl ?_
  refine r_sub (L' := [(0, .ref (wA (wC g) 3 k)), (1, .int x1), (2, .int x2), (3, .int x3), (4, .int x4), (5, .int (x5 + 1))]) [1, 2, 3, 4, 5, 0] rfl ?_
  exact kK14 x3 x4 (x5 + 1) h
theorem w_X3_greatestClearance_14 {g : GC} {X : MX} {r : Int32}  (h0 : CX RX3 cX3_greatestClearance 6 rm_X3_greatestClearance X (wC g)) (fu : Nat) (k : Nat) (hk : k < 5) (x1 : Int32) (x2 : Int32) (S : Mem) (hE : EN (some .int) (some (.int r)) S X (wC g)) (K5 : Int32 → Int32 → Option Int32) (kK5 : ∀ (x3 : Int32) (x4 : Int32), K5 x3 x4 = some r → GV X (wC g) 6 0 0 S [(0, .ref (wA (wC g) 3 k)), (1, .int x1), (2, .int x2), (3, .int x3), (4, .int x4)] 5 []) : ∀ (n : Nat) (x3 : Int32) (x4 : Int32) (x5 : Int32), f_X3_greatestClearance_14 fu K5 k x1 x2 S n x3 x4 x5 = some r → GV X (wC g) 6 0 0 S [(0, .ref (wA (wC g) 3 k)), (1, .int x1), (2, .int x2), (3, .int x3), (4, .int x4), (5, .int x5)] 14 [] := by
  intro n
  induction n with
  | zero =>
    intro x3 x4 x5 h
    exact nomatch (show none = _ from h)
  | succ n ih =>
    intro x3 x4 x5 h
    rw [f_X3_greatestClearance_14] at h
    refine r_iload (pc' := 16) h0 5 dX3_greatestClearance_14 rfl rfl ?_
    refine r_iconst (pc' := 17) h0 dX3_greatestClearance_16 ki_4 rfl ?_
    refine r_ic_ge (pt := 57) (pf := 20) h0 dX3_greatestClearance_17 rfl rfl h (fun c17 h => ?_) (fun c17 h => ?_)
    · refine r_iinc (pc' := 60) (L' := [(4, .int (x4 + 1)), (0, .ref (wA (wC g) 3 k)), (1, .int x1), (2, .int x2), (3, .int x3), (5, .int x5)]) h0 4 dX3_greatestClearance_57 rfl ki_1 (Nat.le_of_ble_eq_true rfl) rfl rfl ?_
      refine r_goto (pc' := 5) h0 dX3_greatestClearance_60 rfl ?_
      refine r_sub (L' := [(0, .ref (wA (wC g) 3 k)), (1, .int x1), (2, .int x2), (3, .int x3), (4, .int (x4 + 1))]) [1, 2, 3, 4, 0] rfl ?_
      exact kK5 x3 (x4 + 1) h
    · refine r_iload_n (pc' := 21) h0 1 dX3_greatestClearance_20 rfl rfl rfl ?_
      refine r_iload (pc' := 23) h0 4 dX3_greatestClearance_21 rfl rfl ?_
      obtain ⟨r23, h23, h⟩ := b1_some h
      refine go_S (k_X3_93 g) (st2 := [.int r23]) (pc' := 26) [.int x1, .int x4] [] h0 (c_X7_hasBit g fu x1 x4 S h23) rfl rfl dX3_greatestClearance_23 rfl (Nat.le_of_ble_eq_true rfl) ⟨rfl, rfl, Nat.le_of_ble_eq_true rfl, Nat.le_of_ble_eq_true rfl⟩ ⟨Nat.le_of_ble_eq_true rfl, Nat.le_of_ble_eq_true rfl⟩ rfl ?_
      refine r_if_eq (pt := 51) (pf := 29) h0 dX3_greatestClearance_26 rfl rfl h (fun c26 h => ?_) (fun c26 h => ?_)
      · exact w_X3_greatestClearance_51 h0 fu k hk x1 x2 S hE (f_X3_greatestClearance_14 fu K5 k x1 x2 S n) ih x3 x4 x5 h
      · refine r_iload_n (pc' := 30) h0 2 dX3_greatestClearance_29 rfl rfl rfl ?_
        refine r_iload (pc' := 32) h0 5 dX3_greatestClearance_30 rfl rfl ?_
        obtain ⟨r32, h32, h⟩ := b1_some h
        refine go_S (k_X3_93 g) (st2 := [.int r32]) (pc' := 35) [.int x2, .int x5] [] h0 (c_X7_hasBit g fu x2 x5 S h32) rfl rfl dX3_greatestClearance_32 rfl (Nat.le_of_ble_eq_true rfl) ⟨rfl, rfl, Nat.le_of_ble_eq_true rfl, Nat.le_of_ble_eq_true rfl⟩ ⟨Nat.le_of_ble_eq_true rfl, Nat.le_of_ble_eq_true rfl⟩ rfl ?_
        refine r_if_eq (pt := 51) (pf := 38) h0 dX3_greatestClearance_35 rfl rfl h (fun c35 h => ?_) (fun c35 h => ?_)
        · exact w_X3_greatestClearance_51 h0 fu k hk x1 x2 S hE (f_X3_greatestClearance_14 fu K5 k x1 x2 S n) ih x3 x4 x5 h
        · refine r_iload_n (pc' := 39) h0 3 dX3_greatestClearance_38 rfl rfl rfl ?_
          refine r_aload_n (pc' := 40) h0 0 dX3_greatestClearance_39 rfl rfl rfl ?_
          refine r_iload (pc' := 42) h0 4 dX3_greatestClearance_40 rfl rfl ?_
          refine r_iload (pc' := 44) h0 5 dX3_greatestClearance_42 rfl rfl ?_
          obtain ⟨r44, h44, h⟩ := b1_some h
          refine go_V (k_X3_101 g) (st2 := [.int r44, .int x3]) (pc' := 47) [.int x4, .int x5] [.int x3] h0 hk (c_X3_clearanceOf g fu k hk x4 x5 S h44) rfl rfl dX3_greatestClearance_44 rfl (Nat.le_of_ble_eq_true rfl) ⟨rfl, rfl, Nat.le_of_ble_eq_true rfl, Nat.le_of_ble_eq_true rfl⟩ ⟨Nat.le_of_ble_eq_true rfl, Nat.le_of_ble_eq_true rfl⟩ rfl ?_
          refine r_max (pc' := 50) h0 v_367 v_368 v_41 v_369 dX3_greatestClearance_47 rfl (Nat.le_of_ble_eq_true rfl) ⟨Nat.le_of_ble_eq_true rfl, Nat.le_of_ble_eq_true rfl⟩ ⟨Nat.le_of_ble_eq_true rfl, Nat.le_of_ble_eq_true rfl⟩ ?_
          refine r_istore_n (pc' := 51) (L' := [(3, .int (jmax x3 r44)), (0, .ref (wA (wC g) 3 k)), (1, .int x1), (2, .int x2), (4, .int x4), (5, .int x5)]) h0 dX3_greatestClearance_50 rfl (Nat.le_of_ble_eq_true rfl) rfl rfl ?_
          refine r_sub (L' := [(0, .ref (wA (wC g) 3 k)), (1, .int x1), (2, .int x2), (3, .int (jmax x3 r44)), (4, .int x4), (5, .int x5)]) [1, 2, 3, 0, 4, 5] rfl ?_
          exact w_X3_greatestClearance_51 h0 fu k hk x1 x2 S hE (f_X3_greatestClearance_14 fu K5 k x1 x2 S n) ih (jmax x3 r44) x4 x5 h
theorem w_X3_greatestClearance_5 {g : GC} {X : MX} {r : Int32}  (h0 : CX RX3 cX3_greatestClearance 6 rm_X3_greatestClearance X (wC g)) (fu : Nat) (k : Nat) (hk : k < 5) (x1 : Int32) (x2 : Int32) (S : Mem) (hE : EN (some .int) (some (.int r)) S X (wC g)) : ∀ (n : Nat) (x3 : Int32) (x4 : Int32), f_X3_greatestClearance_5 fu k x1 x2 S n x3 x4 = some r → GV X (wC g) 6 0 0 S [(0, .ref (wA (wC g) 3 k)), (1, .int x1), (2, .int x2), (3, .int x3), (4, .int x4)] 5 [] := by
  intro n
  induction n with
  | zero =>
    intro x3 x4 h
    exact nomatch (show none = _ from h)
  | succ n ih =>
    intro x3 x4 h
    rw [f_X3_greatestClearance_5] at h
    refine r_iload (pc' := 7) h0 4 dX3_greatestClearance_5 rfl rfl ?_
    refine r_iconst (pc' := 8) h0 dX3_greatestClearance_7 ki_4 rfl ?_
    refine r_ic_ge (pt := 63) (pf := 11) h0 dX3_greatestClearance_8 rfl rfl h (fun c8 h => ?_) (fun c8 h => ?_)
    · refine r_iload_n (pc' := 64) h0 3 dX3_greatestClearance_63 rfl rfl rfl ?_
      exact r_iretR h0 hE dX3_greatestClearance_64 h
    · refine r_iconst (pc' := 12) h0 dX3_greatestClearance_11 ki_0 rfl ?_
      refine r_istore (pc' := 14) (L' := [(5, .int 0), (0, .ref (wA (wC g) 3 k)), (1, .int x1), (2, .int x2), (3, .int x3), (4, .int x4)]) h0 dX3_greatestClearance_12 (Nat.le_of_ble_eq_true rfl) rfl rfl ?_
      refine r_sub (L' := [(0, .ref (wA (wC g) 3 k)), (1, .int x1), (2, .int x2), (3, .int x3), (4, .int x4), (5, .int 0)]) [1, 2, 3, 4, 5, 0] rfl ?_
      exact w_X3_greatestClearance_14 h0 fu k hk x1 x2 S hE (f_X3_greatestClearance_5 fu k x1 x2 S n) ih fu x3 x4 0 h
/-- the machine does what f_X3_greatestClearance says -/
theorem c_X3_greatestClearance (g : GC) (fu : Nat) (k : Nat) (hk : k < 5) (x1 : Int32) (x2 : Int32) (S : Mem) {r : Int32}  (h : f_X3_greatestClearance fu k x1 x2 S = some r) : ctN yX3_greatestClearance cX3_greatestClearance 6 (some .int) rm_X3_greatestClearance (wC g) [.ref (wA (wC g) 3 k), .int x1, .int x2] S (some (.int r)) S := by
  refine ct_of (own := RX3) (L := [(0, .ref (wA (wC g) 3 k)), (1, .int x1), (2, .int x2)]) (by decide +kernel) rfl (Nat.le_of_ble_eq_true rfl) rfl (fun X h0 hE => ?_)
  rw [f_X3_greatestClearance] at h
  refine r_iconst (pc' := 1) h0 dX3_greatestClearance_0 ki_m1 rfl ?_
  refine r_istore_n (pc' := 2) (L' := [(3, .int (-1)), (0, .ref (wA (wC g) 3 k)), (1, .int x1), (2, .int x2)]) h0 dX3_greatestClearance_1 rfl (Nat.le_of_ble_eq_true rfl) rfl rfl ?_
  refine r_iconst (pc' := 3) h0 dX3_greatestClearance_2 ki_0 rfl ?_
  refine r_istore (pc' := 5) (L' := [(4, .int 0), (3, .int (-1)), (0, .ref (wA (wC g) 3 k)), (1, .int x1), (2, .int x2)]) h0 dX3_greatestClearance_3 (Nat.le_of_ble_eq_true rfl) rfl rfl ?_
  refine r_sub (L' := [(0, .ref (wA (wC g) 3 k)), (1, .int x1), (2, .int x2), (3, .int (-1)), (4, .int 0)]) [2, 3, 4, 1, 0] rfl ?_
  exact w_X3_greatestClearance_5 h0 fu k hk x1 x2 S hE fu (-1) 0 h
theorem w_X3_leastGreen_21 {g : GC} {X : MX} {r : Int32}  (h0 : CX RX3 cX3_leastGreen 2 rm_X3_leastGreen X (wC g)) (fu : Nat) (k : Nat) (hk : k < 5) (x1 : Int32) (S : Mem) (hE : EN (some .int) (some (.int r)) S X (wC g)) : ∀ (t0 : Int32), f_X3_leastGreen_21 fu k x1 S t0 = some r → GV X (wC g) 2 0 0 S [] 21 [.int t0] := by
  intro t0 h
  rw [f_X3_leastGreen_21] at h
  exact r_iretR h0 hE dX3_leastGreen_21 h
/-- the machine does what f_X3_leastGreen says -/
theorem c_X3_leastGreen (g : GC) (fu : Nat) (k : Nat) (hk : k < 5) (x1 : Int32) (S : Mem) {r : Int32}  (h : f_X3_leastGreen fu k x1 S = some r) : ctN yX3_leastGreen cX3_leastGreen 2 (some .int) rm_X3_leastGreen (wC g) [.ref (wA (wC g) 3 k), .int x1] S (some (.int r)) S := by
  refine ct_of (own := RX3) (L := [(0, .ref (wA (wC g) 3 k)), (1, .int x1)]) (by decide +kernel) rfl (Nat.le_of_ble_eq_true rfl) rfl (fun X h0 hE => ?_)
  rw [f_X3_leastGreen] at h
  refine r_aload_n (pc' := 1) h0 0 dX3_leastGreen_0 rfl rfl rfl ?_
  refine gf_X3_15 (pc' := 4) h0 hk dX3_leastGreen_1 rfl ?_
  refine r_iload_n (pc' := 5) h0 1 dX3_leastGreen_4 rfl rfl rfl ?_
  obtain ⟨r5, h5, h⟩ := b1_some h
  refine go_S (k_X3_82 g) (st2 := [.int r5]) (pc' := 8) [.ref (wA (wC g) 12 k), .int x1] [] h0 (c_X7_read g fu 12 4 k (ia_12 g) hk x1 S h5) rfl rfl dX3_leastGreen_5 rfl (Nat.le_of_ble_eq_true rfl) ⟨rfl, rfl, Nat.le_of_ble_eq_true rfl, Nat.le_of_ble_eq_true rfl⟩ ⟨Nat.le_of_ble_eq_true rfl, Nat.le_of_ble_eq_true rfl⟩ rfl ?_
  refine r_iconst (pc' := 9) h0 dX3_leastGreen_8 ki_3 rfl ?_
  obtain ⟨r9, h9, h⟩ := b1_some h
  refine go_S (k_X3_93 g) (st2 := [.int r9]) (pc' := 12) [.int r5, .int 3] [] h0 (c_X7_hasBit g fu r5 3 S h9) rfl rfl dX3_leastGreen_9 rfl (Nat.le_of_ble_eq_true rfl) ⟨rfl, rfl, Nat.le_of_ble_eq_true rfl, Nat.le_of_ble_eq_true rfl⟩ ⟨Nat.le_of_ble_eq_true rfl, Nat.le_of_ble_eq_true rfl⟩ rfl ?_
  refine r_if_eq (pt := 20) (pf := 15) h0 dX3_leastGreen_12 rfl rfl h (fun c12 h => ?_) (fun c12 h => ?_)
  · refine r_iconst (pc' := 21) h0 dX3_leastGreen_20 ki_5 rfl ?_
    refine r_sub (L' := []) [] rfl ?_
    exact w_X3_leastGreen_21 h0 fu k hk x1 S hE 5 h
  · refine r_bipush (pc' := 17) h0 dX3_leastGreen_15 kb_8 rfl ?_
    refine r_goto (pc' := 21) h0 dX3_leastGreen_17 rfl ?_
    refine r_sub (L' := []) [] rfl ?_
    exact w_X3_leastGreen_21 h0 fu k hk x1 S hE 8 h
theorem w_X3_weightOf_37 {g : GC} {X : MX} {r : Int32}  (h0 : CX RX3 cX3_weightOf 4 rm_X3_weightOf X (wC g)) (fu : Nat) (k : Nat) (hk : k < 5) (x1 : Int32) (S : Mem) (hE : EN (some .int) (some (.int r)) S X (wC g)) (K4 : Int32 → Int32 → Option Int32) (kK4 : ∀ (x2 : Int32) (x3 : Int32), K4 x2 x3 = some r → GV X (wC g) 4 0 0 S [(0, .ref (wA (wC g) 3 k)), (1, .int x1), (2, .int x2), (3, .int x3)] 4 []) : ∀ (x2 : Int32) (x3 : Int32), f_X3_weightOf_37 fu K4 k x1 S x2 x3 = some r → GV X (wC g) 4 0 0 S [(0, .ref (wA (wC g) 3 k)), (1, .int x1), (2, .int x2), (3, .int x3)] 37 [] := by
  intro x2 x3 h
  rw [f_X3_weightOf_37] at h
  refine r_iinc (pc' := 40) (L' := [(3, .int (x3 + 1)), (0, .ref (wA (wC g) 3 k)), (1, .int x1), (2, .int x2)]) h0 3 dX3_weightOf_37 rfl ki_1 (Nat.le_of_ble_eq_true rfl) rfl rfl ?_
  refine r_goto (pc' := 4) h0 dX3_weightOf_40 rfl ?_
  refine r_sub (L' := [(0, .ref (wA (wC g) 3 k)), (1, .int x1), (2, .int x2), (3, .int (x3 + 1))]) [1, 2, 3, 0] rfl ?_
  exact kK4 x2 (x3 + 1) h
theorem w_X3_weightOf_4 {g : GC} {X : MX} {r : Int32}  (h0 : CX RX3 cX3_weightOf 4 rm_X3_weightOf X (wC g)) (fu : Nat) (k : Nat) (hk : k < 5) (x1 : Int32) (S : Mem) (hE : EN (some .int) (some (.int r)) S X (wC g)) : ∀ (n : Nat) (x2 : Int32) (x3 : Int32), f_X3_weightOf_4 fu k x1 S n x2 x3 = some r → GV X (wC g) 4 0 0 S [(0, .ref (wA (wC g) 3 k)), (1, .int x1), (2, .int x2), (3, .int x3)] 4 [] := by
  intro n
  induction n with
  | zero =>
    intro x2 x3 h
    exact nomatch (show none = _ from h)
  | succ n ih =>
    intro x2 x3 h
    rw [f_X3_weightOf_4] at h
    refine r_iload_n (pc' := 5) h0 3 dX3_weightOf_4 rfl rfl rfl ?_
    refine r_iconst (pc' := 6) h0 dX3_weightOf_5 ki_4 rfl ?_
    refine r_ic_ge (pt := 43) (pf := 9) h0 dX3_weightOf_6 rfl rfl h (fun c6 h => ?_) (fun c6 h => ?_)
    · refine r_iload_n (pc' := 44) h0 2 dX3_weightOf_43 rfl rfl rfl ?_
      exact r_iretR h0 hE dX3_weightOf_44 h
    · refine r_aload_n (pc' := 10) h0 0 dX3_weightOf_9 rfl rfl rfl ?_
      refine gf_X3_15 (pc' := 13) h0 hk dX3_weightOf_10 rfl ?_
      refine r_iload_n (pc' := 14) h0 1 dX3_weightOf_13 rfl rfl rfl ?_
      obtain ⟨r14, h14, h⟩ := b1_some h
      refine go_S (k_X3_82 g) (st2 := [.int r14]) (pc' := 17) [.ref (wA (wC g) 12 k), .int x1] [] h0 (c_X7_read g fu 12 4 k (ia_12 g) hk x1 S h14) rfl rfl dX3_weightOf_14 rfl (Nat.le_of_ble_eq_true rfl) ⟨rfl, rfl, Nat.le_of_ble_eq_true rfl, Nat.le_of_ble_eq_true rfl⟩ ⟨Nat.le_of_ble_eq_true rfl, Nat.le_of_ble_eq_true rfl⟩ rfl ?_
      refine r_iload_n (pc' := 18) h0 3 dX3_weightOf_17 rfl rfl rfl ?_
      obtain ⟨r18, h18, h⟩ := b1_some h
      refine go_S (k_X3_93 g) (st2 := [.int r18]) (pc' := 21) [.int r14, .int x3] [] h0 (c_X7_hasBit g fu r14 x3 S h18) rfl rfl dX3_weightOf_18 rfl (Nat.le_of_ble_eq_true rfl) ⟨rfl, rfl, Nat.le_of_ble_eq_true rfl, Nat.le_of_ble_eq_true rfl⟩ ⟨Nat.le_of_ble_eq_true rfl, Nat.le_of_ble_eq_true rfl⟩ rfl ?_
      refine r_if_eq (pt := 37) (pf := 24) h0 dX3_weightOf_21 rfl rfl h (fun c21 h => ?_) (fun c21 h => ?_)
      · exact w_X3_weightOf_37 h0 fu k hk x1 S hE (f_X3_weightOf_4 fu k x1 S n) ih x2 x3 h
      · refine r_iload_n (pc' := 25) h0 2 dX3_weightOf_24 rfl rfl rfl ?_
        refine r_aload_n (pc' := 26) h0 0 dX3_weightOf_25 rfl rfl rfl ?_
        refine gf_X3_18 (pc' := 29) h0 hk dX3_weightOf_26 rfl ?_
        refine r_iload_n (pc' := 30) h0 3 dX3_weightOf_29 rfl rfl rfl ?_
        obtain ⟨r30, h30, h⟩ := b1_some h
        refine go_S (k_X3_82 g) (st2 := [.int r30, .int x2]) (pc' := 33) [.ref (wA (wC g) 13 k), .int x3] [.int x2] h0 (c_X7_read g fu 13 4 k (ia_13 g) hk x3 S h30) rfl rfl dX3_weightOf_30 rfl (Nat.le_of_ble_eq_true rfl) ⟨rfl, rfl, Nat.le_of_ble_eq_true rfl, Nat.le_of_ble_eq_true rfl⟩ ⟨Nat.le_of_ble_eq_true rfl, Nat.le_of_ble_eq_true rfl⟩ rfl ?_
        refine r_max (pc' := 36) h0 v_367 v_368 v_41 v_369 dX3_weightOf_33 rfl (Nat.le_of_ble_eq_true rfl) ⟨Nat.le_of_ble_eq_true rfl, Nat.le_of_ble_eq_true rfl⟩ ⟨Nat.le_of_ble_eq_true rfl, Nat.le_of_ble_eq_true rfl⟩ ?_
        refine r_istore_n (pc' := 37) (L' := [(2, .int (jmax x2 r30)), (0, .ref (wA (wC g) 3 k)), (1, .int x1), (3, .int x3)]) h0 dX3_weightOf_36 rfl (Nat.le_of_ble_eq_true rfl) rfl rfl ?_
        refine r_sub (L' := [(0, .ref (wA (wC g) 3 k)), (1, .int x1), (2, .int (jmax x2 r30)), (3, .int x3)]) [1, 2, 0, 3] rfl ?_
        exact w_X3_weightOf_37 h0 fu k hk x1 S hE (f_X3_weightOf_4 fu k x1 S n) ih (jmax x2 r30) x3 h
/-- the machine does what f_X3_weightOf says -/
theorem c_X3_weightOf (g : GC) (fu : Nat) (k : Nat) (hk : k < 5) (x1 : Int32) (S : Mem) {r : Int32}  (h : f_X3_weightOf fu k x1 S = some r) : ctN yX3_weightOf cX3_weightOf 4 (some .int) rm_X3_weightOf (wC g) [.ref (wA (wC g) 3 k), .int x1] S (some (.int r)) S := by
  refine ct_of (own := RX3) (L := [(0, .ref (wA (wC g) 3 k)), (1, .int x1)]) (by decide +kernel) rfl (Nat.le_of_ble_eq_true rfl) rfl (fun X h0 hE => ?_)
  rw [f_X3_weightOf] at h
  refine r_iconst (pc' := 1) h0 dX3_weightOf_0 ki_0 rfl ?_
  refine r_istore_n (pc' := 2) (L' := [(2, .int 0), (0, .ref (wA (wC g) 3 k)), (1, .int x1)]) h0 dX3_weightOf_1 rfl (Nat.le_of_ble_eq_true rfl) rfl rfl ?_
  refine r_iconst (pc' := 3) h0 dX3_weightOf_2 ki_0 rfl ?_
  refine r_istore_n (pc' := 4) (L' := [(3, .int 0), (2, .int 0), (0, .ref (wA (wC g) 3 k)), (1, .int x1)]) h0 dX3_weightOf_3 rfl (Nat.le_of_ble_eq_true rfl) rfl rfl ?_
  refine r_sub (L' := [(0, .ref (wA (wC g) 3 k)), (1, .int x1), (2, .int 0), (3, .int 0)]) [2, 3, 1, 0] rfl ?_
  exact w_X3_weightOf_4 h0 fu k hk x1 S hE fu 0 0 h
theorem w_X7_share_11 {g : GC} {X : MX} {r : Int32}  (h0 : CX RX7 cX7_share 2 rm_X7_share X (wC g)) (fu : Nat) (x0 : Int32) (x1 : Int32) (S : Mem) (hE : EN (some .int) (some (.int r)) S X (wC g)) : ∀ (t0 : Int32), f_X7_share_11 fu x0 x1 S t0 = some r → GV X (wC g) 2 0 0 S [] 11 [.int t0] := by
  intro t0 h
  rw [f_X7_share_11] at h
  exact r_iretR h0 hE dX7_share_11 h
/-- the machine does what f_X7_share says -/
theorem c_X7_share (g : GC) (fu : Nat) (x0 : Int32) (x1 : Int32) (S : Mem) {r : Int32}  (h : f_X7_share fu x0 x1 S = some r) : ctN yX7_share cX7_share 2 (some .int) rm_X7_share (wC g) [.int x0, .int x1] S (some (.int r)) S := by
  refine ct_of (own := RX7) (L := [(0, .int x0), (1, .int x1)]) (by decide +kernel) rfl (Nat.le_of_ble_eq_true rfl) rfl (fun X h0 hE => ?_)
  rw [f_X7_share] at h
  refine r_iload_n (pc' := 1) h0 1 dX7_share_0 rfl rfl rfl ?_
  refine r_if_le (pt := 10) (pf := 4) h0 dX7_share_1 rfl rfl h (fun c1 h => ?_) (fun c1 h => ?_)
  · refine r_iconst (pc' := 11) h0 dX7_share_10 ki_0 rfl ?_
    refine r_sub (L' := []) [] rfl ?_
    exact w_X7_share_11 h0 fu x0 x1 S hE 0 h
  · refine r_iload_n (pc' := 5) h0 0 dX7_share_4 rfl rfl rfl ?_
    refine r_iload_n (pc' := 6) h0 1 dX7_share_5 rfl rfl rfl ?_
    refine r_idiv (pc' := 7) h0 dX7_share_6 rfl h (fun h => ?_)
    refine r_goto (pc' := 11) h0 dX7_share_7 rfl ?_
    refine r_sub (L' := []) [] rfl ?_
    exact w_X7_share_11 h0 fu x0 x1 S hE (x0 / x1) h
theorem w_X3_shareOut_116 {g : GC} {X : MX} {S' : Mem} (h0 : CX RX3 cX3_shareOut 6 rm_X3_shareOut X (wC g)) (fu : Nat) (k : Nat) (hk : k < 5) (x1 : Int32) (x2 : Int32) (hE : EN none none S' X (wC g)) : ∀ (S : Mem), f_X3_shareOut_116 fu k x1 x2 S = some ((), S') → GV X (wC g) 6 0 0 S [] 116 [] := by
  intro S h
  rw [f_X3_shareOut_116] at h
  exact r_vret h0 hE dX3_shareOut_116 h
theorem w_X3_shareOut_75 {g : GC} {X : MX} {S' : Mem} (h0 : CX RX3 cX3_shareOut 6 rm_X3_shareOut X (wC g)) (fu : Nat) (k : Nat) (hk : k < 5) (x1 : Int32) (x2 : Int32) (hE : EN none none S' X (wC g)) : ∀ (n : Nat) (x3 : Int32) (x4 : Int32) (S : Mem), f_X3_shareOut_75 fu k x1 x2 n x3 x4 S = some ((), S') → GV X (wC g) 6 0 0 S [(0, .ref (wA (wC g) 3 k)), (3, .int x3), (4, .int x4)] 75 [] := by
  intro n
  induction n with
  | zero =>
    intro x3 x4 S h
    exact nomatch (show none = _ from h)
  | succ n ih =>
    intro x3 x4 S h
    rw [f_X3_shareOut_75] at h
    refine r_iload (pc' := 77) h0 2 dX3_shareOut_75 rfl rfl ?_
    refine r_aload_n (pc' := 78) h0 0 dX3_shareOut_77 rfl rfl rfl ?_
    refine gf_X3_90 (pc' := 81) h0 hk dX3_shareOut_78 rfl ?_
    refine r_ic_ge (pt := 116) (pf := 84) h0 dX3_shareOut_81 rfl rfl h (fun c81 h => ?_) (fun c81 h => ?_)
    · refine r_sub (L' := []) [] rfl ?_
      exact w_X3_shareOut_116 h0 fu k hk x1 x2 hE S h
    · refine r_iload (pc' := 86) h0 2 dX3_shareOut_84 rfl rfl ?_
      refine r_iload_n (pc' := 87) h0 1 dX3_shareOut_86 rfl rfl rfl ?_
      refine r_ic_ge (pt := 116) (pf := 90) h0 dX3_shareOut_87 rfl rfl h (fun c87 h => ?_) (fun c87 h => ?_)
      · refine r_sub (L' := []) [] rfl ?_
        exact w_X3_shareOut_116 h0 fu k hk x1 x2 hE S h
      · refine r_aload_n (pc' := 91) h0 0 dX3_shareOut_90 rfl rfl rfl ?_
        refine gf_X3_21 (pc' := 94) h0 hk dX3_shareOut_91 rfl ?_
        refine r_iload (pc' := 96) h0 2 dX3_shareOut_94 rfl rfl ?_
        refine r_aload_n (pc' := 97) h0 0 dX3_shareOut_96 rfl rfl rfl ?_
        refine gf_X3_21 (pc' := 100) h0 hk dX3_shareOut_97 rfl ?_
        refine r_iload (pc' := 102) h0 2 dX3_shareOut_100 rfl rfl ?_
        obtain ⟨r102, h102, h⟩ := b1_some h
        refine go_S (k_X3_82 g) (st2 := [.int r102, .int x4, .ref (wA (wC g) 14 k)]) (pc' := 105) [.ref (wA (wC g) 14 k), .int x4] [.int x4, .ref (wA (wC g) 14 k)] h0 (c_X7_read g fu 14 4 k (ia_14 g) hk x4 S h102) rfl rfl dX3_shareOut_102 rfl (Nat.le_of_ble_eq_true rfl) ⟨rfl, rfl, Nat.le_of_ble_eq_true rfl, Nat.le_of_ble_eq_true rfl⟩ ⟨Nat.le_of_ble_eq_true rfl, Nat.le_of_ble_eq_true rfl⟩ rfl ?_
        refine r_iconst (pc' := 106) h0 dX3_shareOut_105 ki_1 rfl ?_
        refine r_iadd (pc' := 107) h0 dX3_shareOut_106 rfl ?_
        obtain ⟨r107, S107, h107, h⟩ := b2_some h
        refine go_S (k_X3_86 g) (st2 := []) (pc' := 110) [.ref (wA (wC g) 14 k), .int x4, .int (r102 + 1)] [] h0 (c_X7_write g fu 14 4 k (ia_14 g) hk x4 (r102 + 1) S h107) rfl rfl dX3_shareOut_107 rfl (Nat.le_of_ble_eq_true rfl) ⟨rfl, rfl, Nat.le_of_ble_eq_true rfl, Nat.le_of_ble_eq_true rfl⟩ ⟨Nat.le_of_ble_eq_true rfl, Nat.le_of_ble_eq_true rfl⟩ rfl ?_
        refine r_iinc (pc' := 113) (L' := [(4, .int (x4 + 1)), (0, .ref (wA (wC g) 3 k)), (3, .int x3)]) h0 2 dX3_shareOut_110 rfl ki_1 (Nat.le_of_ble_eq_true rfl) rfl rfl ?_
        refine r_goto (pc' := 75) h0 dX3_shareOut_113 rfl ?_
        refine r_sub (L' := [(0, .ref (wA (wC g) 3 k)), (3, .int x3), (4, .int (x4 + 1))]) [1, 2, 0] rfl ?_
        exact ih x3 (x4 + 1) S107 h
theorem w_X3_shareOut_41 {g : GC} {X : MX} {S' : Mem} (h0 : CX RX3 cX3_shareOut 6 rm_X3_shareOut X (wC g)) (fu : Nat) (k : Nat) (hk : k < 5) (x1 : Int32) (x2 : Int32) (hE : EN none none S' X (wC g)) (K5 : Int32 → Int32 → Mem → Option (Unit × Mem)) (kK5 : ∀ (x3 : Int32) (x4 : Int32) (S : Mem), K5 x3 x4 S = some ((), S') → GV X (wC g) 6 0 0 S [(0, .ref (wA (wC g) 3 k)), (1, .int x1), (2, .int x2), (3, .int x3), (4, .int x4)] 5 []) : ∀ (x3 : Int32) (x4 : Int32) (t0 : Int32) (S : Mem), f_X3_shareOut_41 fu K5 k x1 x2 x3 x4 t0 S = some ((), S') → GV X (wC g) 6 0 0 S [(0, .ref (wA (wC g) 3 k)), (1, .int x1), (2, .int x2), (3, .int x3), (4, .int x4)] 41 [.int t0] := by
  intro x3 x4 t0 S h
  rw [f_X3_shareOut_41] at h
  refine r_istore (pc' := 43) (L' := [(5, .int t0), (0, .ref (wA (wC g) 3 k)), (1, .int x1), (2, .int x2), (3, .int x3), (4, .int x4)]) h0 dX3_shareOut_41 (Nat.le_of_ble_eq_true rfl) rfl rfl ?_
  refine r_aload_n (pc' := 44) h0 1 dX3_shareOut_43 rfl rfl rfl ?_
  refine gf_X3_21 (pc' := 47) h0 hk dX3_shareOut_44 rfl ?_
  refine r_iload (pc' := 49) h0 5 dX3_shareOut_47 rfl rfl ?_
  refine r_aload_n (pc' := 50) h0 1 dX3_shareOut_49 rfl rfl rfl ?_
  refine r_iload (pc' := 52) h0 5 dX3_shareOut_50 rfl rfl ?_
  obtain ⟨r52, h52, h⟩ := b1_some h
  refine go_V (k_X3_109 g) (st2 := [.int r52, .int x4, .ref (wA (wC g) 14 k)]) (pc' := 55) [.int x4] [.int x4, .ref (wA (wC g) 14 k)] h0 hk (c_X3_leastGreen g fu k hk x4 S h52) rfl rfl dX3_shareOut_52 rfl (Nat.le_of_ble_eq_true rfl) ⟨rfl, rfl, Nat.le_of_ble_eq_true rfl, Nat.le_of_ble_eq_true rfl⟩ ⟨Nat.le_of_ble_eq_true rfl, Nat.le_of_ble_eq_true rfl⟩ rfl ?_
  refine r_iload (pc' := 57) h0 0 dX3_shareOut_55 rfl rfl ?_
  refine r_iadd (pc' := 58) h0 dX3_shareOut_57 rfl ?_
  obtain ⟨r58, S58, h58, h⟩ := b2_some h
  refine go_S (k_X3_86 g) (st2 := []) (pc' := 61) [.ref (wA (wC g) 14 k), .int x4, .int (r52 + t0)] [] h0 (c_X7_write g fu 14 4 k (ia_14 g) hk x4 (r52 + t0) S h58) rfl rfl dX3_shareOut_58 rfl (Nat.le_of_ble_eq_true rfl) ⟨rfl, rfl, Nat.le_of_ble_eq_true rfl, Nat.le_of_ble_eq_true rfl⟩ ⟨Nat.le_of_ble_eq_true rfl, Nat.le_of_ble_eq_true rfl⟩ rfl ?_
  refine r_iload_n (pc' := 62) h0 4 dX3_shareOut_61 rfl rfl rfl ?_
  refine r_iload (pc' := 64) h0 0 dX3_shareOut_62 rfl rfl ?_
  refine r_isub (pc' := 65) h0 dX3_shareOut_64 rfl ?_
  refine r_istore_n (pc' := 66) (L' := [(3, .int (x3 - t0)), (5, .int t0), (0, .ref (wA (wC g) 3 k)), (1, .int x1), (2, .int x2), (4, .int x4)]) h0 dX3_shareOut_65 rfl (Nat.le_of_ble_eq_true rfl) rfl rfl ?_
  refine r_iinc (pc' := 69) (L' := [(4, .int (x4 + 1)), (3, .int (x3 - t0)), (5, .int t0), (0, .ref (wA (wC g) 3 k)), (1, .int x1), (2, .int x2)]) h0 5 dX3_shareOut_66 rfl ki_1 (Nat.le_of_ble_eq_true rfl) rfl rfl ?_
  refine r_goto (pc' := 5) h0 dX3_shareOut_69 rfl ?_
  refine r_sub (L' := [(0, .ref (wA (wC g) 3 k)), (1, .int x1), (2, .int x2), (3, .int (x3 - t0)), (4, .int (x4 + 1))]) [3, 4, 5, 1, 0] rfl ?_
  exact kK5 (x3 - t0) (x4 + 1) S58 h
theorem w_X3_shareOut_5 {g : GC} {X : MX} {S' : Mem} (h0 : CX RX3 cX3_shareOut 6 rm_X3_shareOut X (wC g)) (fu : Nat) (k : Nat) (hk : k < 5) (x1 : Int32) (x2 : Int32) (hE : EN none none S' X (wC g)) : ∀ (n : Nat) (x3 : Int32) (x4 : Int32) (S : Mem), f_X3_shareOut_5 fu k x1 x2 n x3 x4 S = some ((), S') → GV X (wC g) 6 0 0 S [(0, .ref (wA (wC g) 3 k)), (1, .int x1), (2, .int x2), (3, .int x3), (4, .int x4)] 5 [] := by
  intro n
  induction n with
  | zero =>
    intro x3 x4 S h
    exact nomatch (show none = _ from h)
  | succ n ih =>
    intro x3 x4 S h
    rw [f_X3_shareOut_5] at h
    refine r_iload (pc' := 7) h0 4 dX3_shareOut_5 rfl rfl ?_
    refine r_aload_n (pc' := 8) h0 0 dX3_shareOut_7 rfl rfl rfl ?_
    refine gf_X3_90 (pc' := 11) h0 hk dX3_shareOut_8 rfl ?_
    refine r_ic_ge (pt := 72) (pf := 14) h0 dX3_shareOut_11 rfl rfl h (fun c11 h => ?_) (fun c11 h => ?_)
    · refine r_iconst (pc' := 73) h0 dX3_shareOut_72 ki_0 rfl ?_
      refine r_istore (pc' := 75) (L' := [(4, .int 0), (0, .ref (wA (wC g) 3 k)), (1, .int x1), (2, .int x2), (3, .int x3)]) h0 dX3_shareOut_73 (Nat.le_of_ble_eq_true rfl) rfl rfl ?_
      refine r_sub (L' := [(0, .ref (wA (wC g) 3 k)), (3, .int x3), (4, .int 0)]) [1, 4, 0] rfl ?_
      exact w_X3_shareOut_75 h0 fu k hk x1 x2 hE fu x3 0 S h
    · refine r_iload_n (pc' := 15) h0 2 dX3_shareOut_14 rfl rfl rfl ?_
      refine r_if_ne (pt := 29) (pf := 18) h0 dX3_shareOut_15 rfl rfl h (fun c15 h => ?_) (fun c15 h => ?_)
      · refine r_iload_n (pc' := 30) h0 1 dX3_shareOut_29 rfl rfl rfl ?_
        refine r_aload_n (pc' := 31) h0 0 dX3_shareOut_30 rfl rfl rfl ?_
        refine r_iload (pc' := 33) h0 4 dX3_shareOut_31 rfl rfl ?_
        obtain ⟨r33, h33, h⟩ := b1_some h
        refine go_V (k_X3_113 g) (st2 := [.int r33, .int x1]) (pc' := 36) [.int x4] [.int x1] h0 hk (c_X3_weightOf g fu k hk x4 S h33) rfl rfl dX3_shareOut_33 rfl (Nat.le_of_ble_eq_true rfl) ⟨rfl, rfl, Nat.le_of_ble_eq_true rfl, Nat.le_of_ble_eq_true rfl⟩ ⟨Nat.le_of_ble_eq_true rfl, Nat.le_of_ble_eq_true rfl⟩ rfl ?_
        refine r_imul (pc' := 37) h0 dX3_shareOut_36 rfl ?_
        refine r_iload_n (pc' := 38) h0 2 dX3_shareOut_37 rfl rfl rfl ?_
        obtain ⟨r38, h38, h⟩ := b1_some h
        refine go_S (k_X3_127 g) (st2 := [.int r38]) (pc' := 41) [.int (x1 * r33), .int x2] [] h0 (c_X7_share g fu (x1 * r33) x2 S h38) rfl rfl dX3_shareOut_38 rfl (Nat.le_of_ble_eq_true rfl) ⟨rfl, rfl, Nat.le_of_ble_eq_true rfl, Nat.le_of_ble_eq_true rfl⟩ ⟨Nat.le_of_ble_eq_true rfl, Nat.le_of_ble_eq_true rfl⟩ rfl ?_
        exact w_X3_shareOut_41 h0 fu k hk x1 x2 hE (f_X3_shareOut_5 fu k x1 x2 n) ih x3 x4 r38 S h
      · refine r_iload_n (pc' := 19) h0 1 dX3_shareOut_18 rfl rfl rfl ?_
        refine r_aload_n (pc' := 20) h0 0 dX3_shareOut_19 rfl rfl rfl ?_
        refine gf_X3_90 (pc' := 23) h0 hk dX3_shareOut_20 rfl ?_
        obtain ⟨r23, h23, h⟩ := b1_some h
        refine go_S (k_X3_127 g) (st2 := [.int r23]) (pc' := 26) [.int x1, .int (S.1 3 k 7)] [] h0 (c_X7_share g fu x1 (S.1 3 k 7) S h23) rfl rfl dX3_shareOut_23 rfl (Nat.le_of_ble_eq_true rfl) ⟨rfl, rfl, Nat.le_of_ble_eq_true rfl, Nat.le_of_ble_eq_true rfl⟩ ⟨Nat.le_of_ble_eq_true rfl, Nat.le_of_ble_eq_true rfl⟩ rfl ?_
        refine r_goto (pc' := 41) h0 dX3_shareOut_26 rfl ?_
        exact w_X3_shareOut_41 h0 fu k hk x1 x2 hE (f_X3_shareOut_5 fu k x1 x2 n) ih x3 x4 r23 S h
/-- the machine does what f_X3_shareOut says -/
theorem c_X3_shareOut (g : GC) (fu : Nat) (k : Nat) (hk : k < 5) (x1 : Int32) (x2 : Int32) (S : Mem) {S' : Mem} (h : f_X3_shareOut fu k x1 x2 S = some ((), S')) : ctN yX3_shareOut cX3_shareOut 6 none rm_X3_shareOut (wC g) [.ref (wA (wC g) 3 k), .int x1, .int x2] S none S' := by
  refine ct_of (own := RX3) (L := [(0, .ref (wA (wC g) 3 k)), (1, .int x1), (2, .int x2)]) (by decide +kernel) rfl (Nat.le_of_ble_eq_true rfl) rfl (fun X h0 hE => ?_)
  rw [f_X3_shareOut] at h
  refine r_iload_n (pc' := 1) h0 1 dX3_shareOut_0 rfl rfl rfl ?_
  refine r_istore_n (pc' := 2) (L' := [(3, .int x1), (0, .ref (wA (wC g) 3 k)), (1, .int x1), (2, .int x2)]) h0 dX3_shareOut_1 rfl (Nat.le_of_ble_eq_true rfl) rfl rfl ?_
  refine r_iconst (pc' := 3) h0 dX3_shareOut_2 ki_0 rfl ?_
  refine r_istore (pc' := 5) (L' := [(4, .int 0), (3, .int x1), (0, .ref (wA (wC g) 3 k)), (1, .int x1), (2, .int x2)]) h0 dX3_shareOut_3 (Nat.le_of_ble_eq_true rfl) rfl rfl ?_
  refine r_sub (L' := [(0, .ref (wA (wC g) 3 k)), (1, .int x1), (2, .int x2), (3, .int x1), (4, .int 0)]) [2, 3, 4, 1, 0] rfl ?_
  exact w_X3_shareOut_5 h0 fu k hk x1 x2 hE fu x1 0 S h
theorem w_X3_drawLights_69 {g : GC} {X : MX} {S' : Mem} (h0 : CX RX3 cX3_drawLights 6 rm_X3_drawLights X (wC g)) (fu : Nat) (k : Nat) (hk : k < 5) (hE : EN none none S' X (wC g)) (K38 : Int32 → Int32 → Int32 → Int32 → Mem → Option (Unit × Mem)) (kK38 : ∀ (x2 : Int32) (x3 : Int32) (x4 : Int32) (x5 : Int32) (S : Mem), K38 x2 x3 x4 x5 S = some ((), S') → GV X (wC g) 6 0 0 S [(0, .ref (wA (wC g) 3 k)), (2, .int x2), (3, .int x3), (4, .int x4), (5, .int x5)] 38 []) : ∀ (x2 : Int32) (x3 : Int32) (x4 : Int32) (x5 : Int32) (t0 : Int32) (t1 : Int32) (S : Mem), f_X3_drawLights_69 fu K38 k x2 x3 x4 x5 t0 t1 S = some ((), S') → GV X (wC g) 6 0 0 S [(0, .ref (wA (wC g) 3 k)), (2, .int x2), (3, .int x3), (4, .int x4), (5, .int x5)] 69 [.int t0, .int t1, .ref (wA (wC g) 16 k)] := by
  intro x2 x3 x4 x5 t0 t1 S h
  rw [f_X3_drawLights_69] at h
  obtain ⟨r69, S69, h69, h⟩ := b2_some h
  refine go_S (k_X3_86 g) (st2 := []) (pc' := 72) [.ref (wA (wC g) 16 k), .int t1, .int t0] [] h0 (c_X7_write g fu 16 90 k (ia_16 g) hk t1 t0 S h69) rfl rfl dX3_drawLights_69 rfl (Nat.le_of_ble_eq_true rfl) ⟨rfl, rfl, Nat.le_of_ble_eq_true rfl, Nat.le_of_ble_eq_true rfl⟩ ⟨Nat.le_of_ble_eq_true rfl, Nat.le_of_ble_eq_true rfl⟩ rfl ?_
  refine r_iinc (pc' := 75) (L' := [(5, .int (x5 + 1)), (0, .ref (wA (wC g) 3 k)), (2, .int x2), (3, .int x3), (4, .int x4)]) h0 4 dX3_drawLights_72 rfl ki_1 (Nat.le_of_ble_eq_true rfl) rfl rfl ?_
  refine r_goto (pc' := 38) h0 dX3_drawLights_75 rfl ?_
  refine r_sub (L' := [(0, .ref (wA (wC g) 3 k)), (2, .int x2), (3, .int x3), (4, .int x4), (5, .int (x5 + 1))]) [1, 2, 3, 4, 0] rfl ?_
  exact kK38 x2 x3 x4 (x5 + 1) S69 h
theorem w_X3_drawLights_38 {g : GC} {X : MX} {S' : Mem} (h0 : CX RX3 cX3_drawLights 6 rm_X3_drawLights X (wC g)) (fu : Nat) (k : Nat) (hk : k < 5) (hE : EN none none S' X (wC g)) (K4 : Int32 → Int32 → Mem → Option (Unit × Mem)) (kK4 : ∀ (x1 : Int32) (x2 : Int32) (S : Mem), K4 x1 x2 S = some ((), S') → GV X (wC g) 6 0 0 S [(0, .ref (wA (wC g) 3 k)), (1, .int x1), (2, .int x2)] 4 []) : ∀ (n : Nat) (x2 : Int32) (x3 : Int32) (x4 : Int32) (x5 : Int32) (S : Mem), f_X3_drawLights_38 fu K4 k n x2 x3 x4 x5 S = some ((), S') → GV X (wC g) 6 0 0 S [(0, .ref (wA (wC g) 3 k)), (2, .int x2), (3, .int x3), (4, .int x4), (5, .int x5)] 38 [] := by
  intro n
  induction n with
  | zero =>
    intro x2 x3 x4 x5 S h
    exact nomatch (show none = _ from h)
  | succ n ih =>
    intro x2 x3 x4 x5 S h
    rw [f_X3_drawLights_38] at h
    refine r_iload (pc' := 40) h0 4 dX3_drawLights_38 rfl rfl ?_
    refine r_iload (pc' := 42) h0 3 dX3_drawLights_40 rfl rfl ?_
    refine r_ic_ge (pt := 78) (pf := 45) h0 dX3_drawLights_42 rfl rfl h (fun c42 h => ?_) (fun c42 h => ?_)
    · refine r_iload (pc' := 80) h0 3 dX3_drawLights_78 rfl rfl ?_
      refine r_istore_n (pc' := 81) (L' := [(1, .int x4), (0, .ref (wA (wC g) 3 k)), (2, .int x2), (3, .int x3), (4, .int x4), (5, .int x5)]) h0 dX3_drawLights_80 rfl (Nat.le_of_ble_eq_true rfl) rfl rfl ?_
      refine r_iinc (pc' := 84) (L' := [(2, .int (x2 + 1)), (1, .int x4), (0, .ref (wA (wC g) 3 k)), (3, .int x3), (4, .int x4), (5, .int x5)]) h0 2 dX3_drawLights_81 rfl ki_1 (Nat.le_of_ble_eq_true rfl) rfl rfl ?_
      refine r_goto (pc' := 4) h0 dX3_drawLights_84 rfl ?_
      refine r_sub (L' := [(0, .ref (wA (wC g) 3 k)), (1, .int x4), (2, .int (x2 + 1))]) [2, 1, 0] rfl ?_
      exact kK4 x4 (x2 + 1) S h
    · refine r_aload_n (pc' := 46) h0 0 dX3_drawLights_45 rfl rfl rfl ?_
      refine gf_X3_27 (pc' := 49) h0 hk dX3_drawLights_46 rfl ?_
      refine r_iload (pc' := 51) h0 4 dX3_drawLights_49 rfl rfl ?_
      refine r_iload (pc' := 53) h0 4 dX3_drawLights_51 rfl rfl ?_
      refine r_iload_n (pc' := 54) h0 2 dX3_drawLights_53 rfl rfl rfl ?_
      refine r_ic_ge (pt := 68) (pf := 57) h0 dX3_drawLights_54 rfl rfl h (fun c54 h => ?_) (fun c54 h => ?_)
      · refine r_iconst (pc' := 69) h0 dX3_drawLights_68 ki_0 rfl ?_
        exact w_X3_drawLights_69 h0 fu k hk hE (f_X3_drawLights_38 fu K4 k n) ih x2 x3 x4 x5 0 x5 S h
      · refine r_aload_n (pc' := 58) h0 0 dX3_drawLights_57 rfl rfl rfl ?_
        refine gf_X3_15 (pc' := 61) h0 hk dX3_drawLights_58 rfl ?_
        refine r_iload_n (pc' := 62) h0 1 dX3_drawLights_61 rfl rfl rfl ?_
        obtain ⟨r62, h62, h⟩ := b1_some h
        refine go_S (k_X3_82 g) (st2 := [.int r62, .int x5, .ref (wA (wC g) 16 k)]) (pc' := 65) [.ref (wA (wC g) 12 k), .int x2] [.int x5, .ref (wA (wC g) 16 k)] h0 (c_X7_read g fu 12 4 k (ia_12 g) hk x2 S h62) rfl rfl dX3_drawLights_62 rfl (Nat.le_of_ble_eq_true rfl) ⟨rfl, rfl, Nat.le_of_ble_eq_true rfl, Nat.le_of_ble_eq_true rfl⟩ ⟨Nat.le_of_ble_eq_true rfl, Nat.le_of_ble_eq_true rfl⟩ rfl ?_
        refine r_goto (pc' := 69) h0 dX3_drawLights_65 rfl ?_
        exact w_X3_drawLights_69 h0 fu k hk hE (f_X3_drawLights_38 fu K4 k n) ih x2 x3 x4 x5 r62 x5 S h
theorem w_X3_drawLights_4 {g : GC} {X : MX} {S' : Mem} (h0 : CX RX3 cX3_drawLights 6 rm_X3_drawLights X (wC g)) (fu : Nat) (k : Nat) (hk : k < 5) (hE : EN none none S' X (wC g)) : ∀ (n : Nat) (x1 : Int32) (x2 : Int32) (S : Mem), f_X3_drawLights_4 fu k n x1 x2 S = some ((), S') → GV X (wC g) 6 0 0 S [(0, .ref (wA (wC g) 3 k)), (1, .int x1), (2, .int x2)] 4 [] := by
  intro n
  induction n with
  | zero =>
    intro x1 x2 S h
    exact nomatch (show none = _ from h)
  | succ n ih =>
    intro x1 x2 S h
    rw [f_X3_drawLights_4] at h
    refine r_iload_n (pc' := 5) h0 2 dX3_drawLights_4 rfl rfl rfl ?_
    refine r_aload_n (pc' := 6) h0 0 dX3_drawLights_5 rfl rfl rfl ?_
    refine gf_X3_90 (pc' := 9) h0 hk dX3_drawLights_6 rfl ?_
    refine r_ic_ge (pt := 87) (pf := 12) h0 dX3_drawLights_9 rfl rfl h (fun c9 h => ?_) (fun c9 h => ?_)
    · exact r_vret h0 hE dX3_drawLights_87 h
    · refine r_iload_n (pc' := 13) h0 1 dX3_drawLights_12 rfl rfl rfl ?_
      refine r_aload_n (pc' := 14) h0 0 dX3_drawLights_13 rfl rfl rfl ?_
      refine gf_X3_21 (pc' := 17) h0 hk dX3_drawLights_14 rfl ?_
      refine r_iload_n (pc' := 18) h0 2 dX3_drawLights_17 rfl rfl rfl ?_
      obtain ⟨r18, h18, h⟩ := b1_some h
      refine go_S (k_X3_82 g) (st2 := [.int r18, .int x1]) (pc' := 21) [.ref (wA (wC g) 14 k), .int x2] [.int x1] h0 (c_X7_read g fu 14 4 k (ia_14 g) hk x2 S h18) rfl rfl dX3_drawLights_18 rfl (Nat.le_of_ble_eq_true rfl) ⟨rfl, rfl, Nat.le_of_ble_eq_true rfl, Nat.le_of_ble_eq_true rfl⟩ ⟨Nat.le_of_ble_eq_true rfl, Nat.le_of_ble_eq_true rfl⟩ rfl ?_
      refine r_iadd (pc' := 22) h0 dX3_drawLights_21 rfl ?_
      refine r_istore_n (pc' := 23) (L' := [(3, .int (x1 + r18)), (0, .ref (wA (wC g) 3 k)), (1, .int x1), (2, .int x2)]) h0 dX3_drawLights_22 rfl (Nat.le_of_ble_eq_true rfl) rfl rfl ?_
      refine r_iload_n (pc' := 24) h0 0 dX3_drawLights_23 rfl rfl rfl ?_
      refine r_aload_n (pc' := 25) h0 1 dX3_drawLights_24 rfl rfl rfl ?_
      refine gf_X3_24 (pc' := 28) h0 hk dX3_drawLights_25 rfl ?_
      refine r_iload_n (pc' := 29) h0 3 dX3_drawLights_28 rfl rfl rfl ?_
      obtain ⟨r29, h29, h⟩ := b1_some h
      refine go_S (k_X3_82 g) (st2 := [.int r29, .int (x1 + r18)]) (pc' := 32) [.ref (wA (wC g) 15 k), .int x2] [.int (x1 + r18)] h0 (c_X7_read g fu 15 4 k (ia_15 g) hk x2 S h29) rfl rfl dX3_drawLights_29 rfl (Nat.le_of_ble_eq_true rfl) ⟨rfl, rfl, Nat.le_of_ble_eq_true rfl, Nat.le_of_ble_eq_true rfl⟩ ⟨Nat.le_of_ble_eq_true rfl, Nat.le_of_ble_eq_true rfl⟩ rfl ?_
      refine r_iadd (pc' := 33) h0 dX3_drawLights_32 rfl ?_
      refine r_istore (pc' := 35) (L' := [(4, .int ((x1 + r18) + r29)), (3, .int (x1 + r18)), (0, .ref (wA (wC g) 3 k)), (1, .int x1), (2, .int x2)]) h0 dX3_drawLights_33 (Nat.le_of_ble_eq_true rfl) rfl rfl ?_
      refine r_iload_n (pc' := 36) h0 3 dX3_drawLights_35 rfl rfl rfl ?_
      refine r_istore (pc' := 38) (L' := [(5, .int x1), (4, .int ((x1 + r18) + r29)), (3, .int (x1 + r18)), (0, .ref (wA (wC g) 3 k)), (1, .int x1), (2, .int x2)]) h0 dX3_drawLights_36 (Nat.le_of_ble_eq_true rfl) rfl rfl ?_
      refine r_sub (L' := [(0, .ref (wA (wC g) 3 k)), (2, .int x2), (3, .int (x1 + r18)), (4, .int ((x1 + r18) + r29)), (5, .int x1)]) [3, 5, 2, 1, 0] rfl ?_
      exact w_X3_drawLights_38 h0 fu k hk hE (f_X3_drawLights_4 fu k n) ih fu x2 (x1 + r18) ((x1 + r18) + r29) x1 S h
/-- the machine does what f_X3_drawLights says -/
theorem c_X3_drawLights (g : GC) (fu : Nat) (k : Nat) (hk : k < 5) (S : Mem) {S' : Mem} (h : f_X3_drawLights fu k S = some ((), S')) : ctN yX3_drawLights cX3_drawLights 6 none rm_X3_drawLights (wC g) [.ref (wA (wC g) 3 k)] S none S' := by
  refine ct_of (own := RX3) (L := [(0, .ref (wA (wC g) 3 k))]) (by decide +kernel) rfl (Nat.le_of_ble_eq_true rfl) rfl (fun X h0 hE => ?_)
  rw [f_X3_drawLights] at h
  refine r_iconst (pc' := 1) h0 dX3_drawLights_0 ki_0 rfl ?_
  refine r_istore_n (pc' := 2) (L' := [(1, .int 0), (0, .ref (wA (wC g) 3 k))]) h0 dX3_drawLights_1 rfl (Nat.le_of_ble_eq_true rfl) rfl rfl ?_
  refine r_iconst (pc' := 3) h0 dX3_drawLights_2 ki_0 rfl ?_
  refine r_istore_n (pc' := 4) (L' := [(2, .int 0), (1, .int 0), (0, .ref (wA (wC g) 3 k))]) h0 dX3_drawLights_3 rfl (Nat.le_of_ble_eq_true rfl) rfl rfl ?_
  refine r_sub (L' := [(0, .ref (wA (wC g) 3 k)), (1, .int 0), (2, .int 0)]) [2, 1, 0] rfl ?_
  exact w_X3_drawLights_4 h0 fu k hk hE fu 0 0 S h
theorem w_X3_makePlan_128 {g : GC} {X : MX} {S' : Mem} (h0 : CX RX3 cX3_makePlan 6 rm_X3_makePlan X (wC g)) (fu : Nat) (k : Nat) (hk : k < 5) (hE : EN none none S' X (wC g)) : ∀ (S : Mem), f_X3_makePlan_128 fu k S = some ((), S') → GV X (wC g) 6 0 0 S [] 128 [] := by
  intro S h
  rw [f_X3_makePlan_128] at h
  exact r_vret h0 hE dX3_makePlan_128 h
theorem w_X3_makePlan_108 {g : GC} {X : MX} {S' : Mem} (h0 : CX RX3 cX3_makePlan 6 rm_X3_makePlan X (wC g)) (fu : Nat) (k : Nat) (hk : k < 5) (hE : EN none none S' X (wC g)) : ∀ (x1 : Int32) (x2 : Int32) (t0 : Int32) (S : Mem), f_X3_makePlan_108 fu k x1 x2 t0 S = some ((), S') → GV X (wC g) 6 0 0 S [(0, .ref (wA (wC g) 3 k)), (1, .int x1), (2, .int x2)] 108 [.int t0, .ref (wA (wC g) 3 k)] := by
  intro x1 x2 t0 S h
  rw [f_X3_makePlan_108] at h
  obtain ⟨hz, h⟩ := gd_some h
  refine pf_X3_116 (pc' := 111) h0 hk dX3_makePlan_108 rfl (eq_of_beq hz) ?_
  refine r_aload_n (pc' := 112) h0 0 dX3_makePlan_111 rfl rfl rfl ?_
  refine gf_X3_116 (pc' := 115) h0 hk dX3_makePlan_112 rfl ?_
  refine r_if_eq (pt := 128) (pf := 118) h0 dX3_makePlan_115 rfl rfl h (fun c115 h => ?_) (fun c115 h => ?_)
  · refine r_sub (L' := []) [] rfl ?_
    exact w_X3_makePlan_128 h0 fu k hk hE (wI S 3 k 10 t0) h
  · refine r_aload_n (pc' := 119) h0 0 dX3_makePlan_118 rfl rfl rfl ?_
    refine r_iload_n (pc' := 120) h0 1 dX3_makePlan_119 rfl rfl rfl ?_
    refine r_iload_n (pc' := 121) h0 2 dX3_makePlan_120 rfl rfl rfl ?_
    obtain ⟨r121, S121, h121, h⟩ := b2_some h
    refine go_V (k_X3_120 g) (st2 := []) (pc' := 124) [.int x1, .int x2] [] h0 hk (c_X3_shareOut g fu k hk x1 x2 (wI S 3 k 10 t0) h121) rfl rfl dX3_makePlan_121 rfl (Nat.le_of_ble_eq_true rfl) ⟨rfl, rfl, Nat.le_of_ble_eq_true rfl, Nat.le_of_ble_eq_true rfl⟩ ⟨Nat.le_of_ble_eq_true rfl, Nat.le_of_ble_eq_true rfl⟩ rfl ?_
    refine r_aload_n (pc' := 125) h0 0 dX3_makePlan_124 rfl rfl rfl ?_
    obtain ⟨r125, S125, h125, h⟩ := b2_some h
    refine go_V (k_X3_124 g) (st2 := []) (pc' := 128) [] [] h0 hk (c_X3_drawLights g fu k hk S121 h125) rfl rfl dX3_makePlan_125 rfl (Nat.le_of_ble_eq_true rfl) ⟨rfl, rfl, Nat.le_of_ble_eq_true rfl, Nat.le_of_ble_eq_true rfl⟩ ⟨Nat.le_of_ble_eq_true rfl, Nat.le_of_ble_eq_true rfl⟩ rfl ?_
    refine r_sub (L' := []) [] rfl ?_
    exact w_X3_makePlan_128 h0 fu k hk hE S125 h
theorem w_X3_makePlan_34 {g : GC} {X : MX} {S' : Mem} (h0 : CX RX3 cX3_makePlan 6 rm_X3_makePlan X (wC g)) (fu : Nat) (k : Nat) (hk : k < 5) (hE : EN none none S' X (wC g)) (K9 : Int32 → Int32 → Int32 → Mem → Option (Unit × Mem)) (kK9 : ∀ (x1 : Int32) (x2 : Int32) (x3 : Int32) (S : Mem), K9 x1 x2 x3 S = some ((), S') → GV X (wC g) 6 0 0 S [(0, .ref (wA (wC g) 3 k)), (1, .int x1), (2, .int x2), (3, .int x3)] 9 []) : ∀ (x1 : Int32) (x2 : Int32) (x3 : Int32) (t0 : Int32) (S : Mem), f_X3_makePlan_34 fu K9 k x1 x2 x3 t0 S = some ((), S') → GV X (wC g) 6 0 0 S [(0, .ref (wA (wC g) 3 k)), (1, .int x1), (2, .int x2), (3, .int x3)] 34 [.int t0] := by
  intro x1 x2 x3 t0 S h
  rw [f_X3_makePlan_34] at h
  refine r_istore (pc' := 36) (L' := [(4, .int t0), (0, .ref (wA (wC g) 3 k)), (1, .int x1), (2, .int x2), (3, .int x3)]) h0 dX3_makePlan_34 (Nat.le_of_ble_eq_true rfl) rfl rfl ?_
  refine r_iconst (pc' := 37) h0 dX3_makePlan_36 ki_0 rfl ?_
  refine r_aload_n (pc' := 38) h0 1 dX3_makePlan_37 rfl rfl rfl ?_
  refine r_aload_n (pc' := 39) h0 1 dX3_makePlan_38 rfl rfl rfl ?_
  refine gf_X3_15 (pc' := 42) h0 hk dX3_makePlan_39 rfl ?_
  refine r_iload_n (pc' := 43) h0 4 dX3_makePlan_42 rfl rfl rfl ?_
  obtain ⟨r43, h43, h⟩ := b1_some h
  refine go_S (k_X3_82 g) (st2 := [.int r43, .ref (wA (wC g) 3 k), .int 0]) (pc' := 46) [.ref (wA (wC g) 12 k), .int x3] [.ref (wA (wC g) 3 k), .int 0] h0 (c_X7_read g fu 12 4 k (ia_12 g) hk x3 S h43) rfl rfl dX3_makePlan_43 rfl (Nat.le_of_ble_eq_true rfl) ⟨rfl, rfl, Nat.le_of_ble_eq_true rfl, Nat.le_of_ble_eq_true rfl⟩ ⟨Nat.le_of_ble_eq_true rfl, Nat.le_of_ble_eq_true rfl⟩ rfl ?_
  refine r_aload_n (pc' := 47) h0 1 dX3_makePlan_46 rfl rfl rfl ?_
  refine gf_X3_15 (pc' := 50) h0 hk dX3_makePlan_47 rfl ?_
  refine r_iload (pc' := 52) h0 0 dX3_makePlan_50 rfl rfl ?_
  obtain ⟨r52, h52, h⟩ := b1_some h
  refine go_S (k_X3_82 g) (st2 := [.int r52, .int r43, .ref (wA (wC g) 3 k), .int 0]) (pc' := 55) [.ref (wA (wC g) 12 k), .int t0] [.int r43, .ref (wA (wC g) 3 k), .int 0] h0 (c_X7_read g fu 12 4 k (ia_12 g) hk t0 S h52) rfl rfl dX3_makePlan_52 rfl (Nat.le_of_ble_eq_true rfl) ⟨rfl, rfl, Nat.le_of_ble_eq_true rfl, Nat.le_of_ble_eq_true rfl⟩ ⟨Nat.le_of_ble_eq_true rfl, Nat.le_of_ble_eq_true rfl⟩ rfl ?_
  obtain ⟨r55, h55, h⟩ := b1_some h
  refine go_V (k_X3_97 g) (st2 := [.int r55, .int 0]) (pc' := 58) [.int r43, .int r52] [.int 0] h0 hk (c_X3_greatestClearance g fu k hk r43 r52 S h55) rfl rfl dX3_makePlan_55 rfl (Nat.le_of_ble_eq_true rfl) ⟨rfl, rfl, Nat.le_of_ble_eq_true rfl, Nat.le_of_ble_eq_true rfl⟩ ⟨Nat.le_of_ble_eq_true rfl, Nat.le_of_ble_eq_true rfl⟩ rfl ?_
  refine r_max (pc' := 61) h0 v_367 v_368 v_41 v_369 dX3_makePlan_58 rfl (Nat.le_of_ble_eq_true rfl) ⟨Nat.le_of_ble_eq_true rfl, Nat.le_of_ble_eq_true rfl⟩ ⟨Nat.le_of_ble_eq_true rfl, Nat.le_of_ble_eq_true rfl⟩ ?_
  refine r_istore (pc' := 63) (L' := [(5, .int (jmax 0 r55)), (4, .int t0), (0, .ref (wA (wC g) 3 k)), (1, .int x1), (2, .int x2), (3, .int x3)]) h0 dX3_makePlan_61 (Nat.le_of_ble_eq_true rfl) rfl rfl ?_
  refine r_aload_n (pc' := 64) h0 2 dX3_makePlan_63 rfl rfl rfl ?_
  refine gf_X3_24 (pc' := 67) h0 hk dX3_makePlan_64 rfl ?_
  refine r_iload_n (pc' := 68) h0 5 dX3_makePlan_67 rfl rfl rfl ?_
  refine r_iload (pc' := 70) h0 0 dX3_makePlan_68 rfl rfl ?_
  obtain ⟨r70, S70, h70, h⟩ := b2_some h
  refine go_S (k_X3_86 g) (st2 := []) (pc' := 73) [.ref (wA (wC g) 15 k), .int x3, .int (jmax 0 r55)] [] h0 (c_X7_write g fu 15 4 k (ia_15 g) hk x3 (jmax 0 r55) S h70) rfl rfl dX3_makePlan_70 rfl (Nat.le_of_ble_eq_true rfl) ⟨rfl, rfl, Nat.le_of_ble_eq_true rfl, Nat.le_of_ble_eq_true rfl⟩ ⟨Nat.le_of_ble_eq_true rfl, Nat.le_of_ble_eq_true rfl⟩ rfl ?_
  refine r_iload_n (pc' := 74) h0 3 dX3_makePlan_73 rfl rfl rfl ?_
  refine r_iload (pc' := 76) h0 0 dX3_makePlan_74 rfl rfl ?_
  refine r_aload_n (pc' := 77) h0 2 dX3_makePlan_76 rfl rfl rfl ?_
  refine r_iload_n (pc' := 78) h0 5 dX3_makePlan_77 rfl rfl rfl ?_
  obtain ⟨r78, h78, h⟩ := b1_some h
  refine go_V (k_X3_109 g) (st2 := [.int r78, .int (jmax 0 r55), .int x1]) (pc' := 81) [.int x3] [.int (jmax 0 r55), .int x1] h0 hk (c_X3_leastGreen g fu k hk x3 S70 h78) rfl rfl dX3_makePlan_78 rfl (Nat.le_of_ble_eq_true rfl) ⟨rfl, rfl, Nat.le_of_ble_eq_true rfl, Nat.le_of_ble_eq_true rfl⟩ ⟨Nat.le_of_ble_eq_true rfl, Nat.le_of_ble_eq_true rfl⟩ rfl ?_
  refine r_iadd (pc' := 82) h0 dX3_makePlan_81 rfl ?_
  refine r_isub (pc' := 83) h0 dX3_makePlan_82 rfl ?_
  refine r_istore_n (pc' := 84) (L' := [(1, .int (x1 - ((jmax 0 r55) + r78))), (5, .int (jmax 0 r55)), (4, .int t0), (0, .ref (wA (wC g) 3 k)), (2, .int x2), (3, .int x3)]) h0 dX3_makePlan_83 rfl (Nat.le_of_ble_eq_true rfl) rfl rfl ?_
  refine r_iload_n (pc' := 85) h0 4 dX3_makePlan_84 rfl rfl rfl ?_
  refine r_aload_n (pc' := 86) h0 3 dX3_makePlan_85 rfl rfl rfl ?_
  refine r_iload_n (pc' := 87) h0 5 dX3_makePlan_86 rfl rfl rfl ?_
  obtain ⟨r87, h87, h⟩ := b1_some h
  refine go_V (k_X3_113 g) (st2 := [.int r87, .int x2]) (pc' := 90) [.int x3] [.int x2] h0 hk (c_X3_weightOf g fu k hk x3 S70 h87) rfl rfl dX3_makePlan_87 rfl (Nat.le_of_ble_eq_true rfl) ⟨rfl, rfl, Nat.le_of_ble_eq_true rfl, Nat.le_of_ble_eq_true rfl⟩ ⟨Nat.le_of_ble_eq_true rfl, Nat.le_of_ble_eq_true rfl⟩ rfl ?_
  refine r_iadd (pc' := 91) h0 dX3_makePlan_90 rfl ?_
  refine r_istore_n (pc' := 92) (L' := [(2, .int (x2 + r87)), (1, .int (x1 - ((jmax 0 r55) + r78))), (5, .int (jmax 0 r55)), (4, .int t0), (0, .ref (wA (wC g) 3 k)), (3, .int x3)]) h0 dX3_makePlan_91 rfl (Nat.le_of_ble_eq_true rfl) rfl rfl ?_
  refine r_iinc (pc' := 95) (L' := [(3, .int (x3 + 1)), (2, .int (x2 + r87)), (1, .int (x1 - ((jmax 0 r55) + r78))), (5, .int (jmax 0 r55)), (4, .int t0), (0, .ref (wA (wC g) 3 k))]) h0 5 dX3_makePlan_92 rfl ki_1 (Nat.le_of_ble_eq_true rfl) rfl rfl ?_
  refine r_goto (pc' := 9) h0 dX3_makePlan_95 rfl ?_
  refine r_sub (L' := [(0, .ref (wA (wC g) 3 k)), (1, .int (x1 - ((jmax 0 r55) + r78))), (2, .int (x2 + r87)), (3, .int (x3 + 1))]) [5, 2, 1, 0] rfl ?_
  exact kK9 (x1 - ((jmax 0 r55) + r78)) (x2 + r87) (x3 + 1) S70 h
theorem w_X3_makePlan_9 {g : GC} {X : MX} {S' : Mem} (h0 : CX RX3 cX3_makePlan 6 rm_X3_makePlan X (wC g)) (fu : Nat) (k : Nat) (hk : k < 5) (hE : EN none none S' X (wC g)) : ∀ (n : Nat) (x1 : Int32) (x2 : Int32) (x3 : Int32) (S : Mem), f_X3_makePlan_9 fu k n x1 x2 x3 S = some ((), S') → GV X (wC g) 6 0 0 S [(0, .ref (wA (wC g) 3 k)), (1, .int x1), (2, .int x2), (3, .int x3)] 9 [] := by
  intro n
  induction n with
  | zero =>
    intro x1 x2 x3 S h
    exact nomatch (show none = _ from h)
  | succ n ih =>
    intro x1 x2 x3 S h
    rw [f_X3_makePlan_9] at h
    refine r_iload_n (pc' := 10) h0 3 dX3_makePlan_9 rfl rfl rfl ?_
    refine r_aload_n (pc' := 11) h0 0 dX3_makePlan_10 rfl rfl rfl ?_
    refine gf_X3_90 (pc' := 14) h0 hk dX3_makePlan_11 rfl ?_
    refine r_ic_ge (pt := 98) (pf := 17) h0 dX3_makePlan_14 rfl rfl h (fun c14 h => ?_) (fun c14 h => ?_)
    · refine r_aload_n (pc' := 99) h0 0 dX3_makePlan_98 rfl rfl rfl ?_
      refine r_iload_n (pc' := 100) h0 1 dX3_makePlan_99 rfl rfl rfl ?_
      refine r_if_lt (pt := 107) (pf := 103) h0 dX3_makePlan_100 rfl rfl h (fun c100 h => ?_) (fun c100 h => ?_)
      · refine r_iconst (pc' := 108) h0 dX3_makePlan_107 ki_0 rfl ?_
        refine r_sub (L' := [(0, .ref (wA (wC g) 3 k)), (1, .int x1), (2, .int x2)]) [0, 1, 2] rfl ?_
        exact w_X3_makePlan_108 h0 fu k hk hE x1 x2 0 S h
      · refine r_iconst (pc' := 104) h0 dX3_makePlan_103 ki_1 rfl ?_
        refine r_goto (pc' := 108) h0 dX3_makePlan_104 rfl ?_
        refine r_sub (L' := [(0, .ref (wA (wC g) 3 k)), (1, .int x1), (2, .int x2)]) [0, 1, 2] rfl ?_
        exact w_X3_makePlan_108 h0 fu k hk hE x1 x2 1 S h
    · refine r_iload_n (pc' := 18) h0 3 dX3_makePlan_17 rfl rfl rfl ?_
      refine r_iconst (pc' := 19) h0 dX3_makePlan_18 ki_1 rfl ?_
      refine r_iadd (pc' := 20) h0 dX3_makePlan_19 rfl ?_
      refine r_aload_n (pc' := 21) h0 0 dX3_makePlan_20 rfl rfl rfl ?_
      refine gf_X3_90 (pc' := 24) h0 hk dX3_makePlan_21 rfl ?_
      refine r_ic_ge (pt := 33) (pf := 27) h0 dX3_makePlan_24 rfl rfl h (fun c24 h => ?_) (fun c24 h => ?_)
      · refine r_iconst (pc' := 34) h0 dX3_makePlan_33 ki_0 rfl ?_
        exact w_X3_makePlan_34 h0 fu k hk hE (f_X3_makePlan_9 fu k n) ih x1 x2 x3 0 S h
      · refine r_iload_n (pc' := 28) h0 3 dX3_makePlan_27 rfl rfl rfl ?_
        refine r_iconst (pc' := 29) h0 dX3_makePlan_28 ki_1 rfl ?_
        refine r_iadd (pc' := 30) h0 dX3_makePlan_29 rfl ?_
        refine r_goto (pc' := 34) h0 dX3_makePlan_30 rfl ?_
        exact w_X3_makePlan_34 h0 fu k hk hE (f_X3_makePlan_9 fu k n) ih x1 x2 x3 (x3 + 1) S h
/-- the machine does what f_X3_makePlan says -/
theorem c_X3_makePlan (g : GC) (fu : Nat) (k : Nat) (hk : k < 5) (S : Mem) {S' : Mem} (h : f_X3_makePlan fu k S = some ((), S')) : ctN yX3_makePlan cX3_makePlan 6 none rm_X3_makePlan (wC g) [.ref (wA (wC g) 3 k)] S none S' := by
  refine ct_of (own := RX3) (L := [(0, .ref (wA (wC g) 3 k))]) (by decide +kernel) rfl (Nat.le_of_ble_eq_true rfl) rfl (fun X h0 hE => ?_)
  rw [f_X3_makePlan] at h
  refine r_aload_n (pc' := 1) h0 0 dX3_makePlan_0 rfl rfl rfl ?_
  refine gf_X3_37 (pc' := 4) h0 hk dX3_makePlan_1 rfl ?_
  refine r_istore_n (pc' := 5) (L' := [(1, .int (S.1 3 k 8)), (0, .ref (wA (wC g) 3 k))]) h0 dX3_makePlan_4 rfl (Nat.le_of_ble_eq_true rfl) rfl rfl ?_
  refine r_iconst (pc' := 6) h0 dX3_makePlan_5 ki_0 rfl ?_
  refine r_istore_n (pc' := 7) (L' := [(2, .int 0), (1, .int (S.1 3 k 8)), (0, .ref (wA (wC g) 3 k))]) h0 dX3_makePlan_6 rfl (Nat.le_of_ble_eq_true rfl) rfl rfl ?_
  refine r_iconst (pc' := 8) h0 dX3_makePlan_7 ki_0 rfl ?_
  refine r_istore_n (pc' := 9) (L' := [(3, .int 0), (2, .int 0), (1, .int (S.1 3 k 8)), (0, .ref (wA (wC g) 3 k))]) h0 dX3_makePlan_8 rfl (Nat.le_of_ble_eq_true rfl) rfl rfl ?_
  refine r_sub (L' := [(0, .ref (wA (wC g) 3 k)), (1, .int (S.1 3 k 8)), (2, .int 0), (3, .int 0)]) [3, 2, 1, 0] rfl ?_
  exact w_X3_makePlan_9 h0 fu k hk hE fu (S.1 3 k 8) 0 0 S h
/-- the machine does what f_X3_reset says -/
theorem c_X3_reset (g : GC) (fu : Nat) (k : Nat) (hk : k < 5) (x1 : Int32) (S : Mem) {S' : Mem} (h : f_X3_reset fu k x1 S = some ((), S')) : ctN yX3_reset cX3_reset 2 none rm_X3_reset (wC g) [.ref (wA (wC g) 3 k), .int x1] S none S' := by
  refine ct_of (own := RX3) (L := [(0, .ref (wA (wC g) 3 k)), (1, .int x1)]) (by decide +kernel) rfl (Nat.le_of_ble_eq_true rfl) rfl (fun X h0 hE => ?_)
  rw [f_X3_reset] at h
  refine r_aload_n (pc' := 1) h0 0 dX3_reset_0 rfl rfl rfl ?_
  refine r_iload_n (pc' := 2) h0 1 dX3_reset_1 rfl rfl rfl ?_
  refine pf_X3_37 (pc' := 5) h0 hk dX3_reset_2 rfl ?_
  refine r_aload_n (pc' := 6) h0 0 dX3_reset_5 rfl rfl rfl ?_
  refine r_iconst (pc' := 7) h0 dX3_reset_6 ki_0 rfl ?_
  refine pf_X3_41 (pc' := 10) h0 hk dX3_reset_7 rfl ?_
  refine r_aload_n (pc' := 11) h0 0 dX3_reset_10 rfl rfl rfl ?_
  refine r_iconst (pc' := 12) h0 dX3_reset_11 ki_0 rfl ?_
  refine pf_X3_44 (pc' := 15) h0 hk dX3_reset_12 rfl ?_
  refine r_aload_n (pc' := 16) h0 0 dX3_reset_15 rfl rfl rfl ?_
  refine r_iconst (pc' := 17) h0 dX3_reset_16 ki_0 rfl ?_
  refine pf_X3_47 (pc' := 20) h0 hk dX3_reset_17 rfl ?_
  refine r_aload_n (pc' := 21) h0 0 dX3_reset_20 rfl rfl rfl ?_
  refine r_iconst (pc' := 22) h0 dX3_reset_21 ki_0 rfl ?_
  refine pf_X3_50 (pc' := 25) h0 hk dX3_reset_22 rfl ?_
  refine r_aload_n (pc' := 26) h0 0 dX3_reset_25 rfl rfl rfl ?_
  refine r_iconst (pc' := 27) h0 dX3_reset_26 ki_m1 rfl ?_
  refine pf_X3_53 (pc' := 30) h0 hk dX3_reset_27 rfl ?_
  refine r_aload_n (pc' := 31) h0 0 dX3_reset_30 rfl rfl rfl ?_
  refine r_iconst (pc' := 32) h0 dX3_reset_31 ki_m1 rfl ?_
  refine pf_X3_56 (pc' := 35) h0 hk dX3_reset_32 rfl ?_
  refine r_aload_n (pc' := 36) h0 0 dX3_reset_35 rfl rfl rfl ?_
  refine r_iconst (pc' := 37) h0 dX3_reset_36 ki_0 rfl ?_
  refine pf_X3_59 (pc' := 40) h0 hk dX3_reset_37 rfl ?_
  refine r_aload_n (pc' := 41) h0 0 dX3_reset_40 rfl rfl rfl ?_
  refine gf_X3_33 (pc' := 44) h0 hk dX3_reset_41 rfl ?_
  obtain ⟨r44, S44, h44, h⟩ := b2_some h
  refine go_V (k_X3_62 g) (st2 := []) (pc' := 47) [] [] h0 hk (c_X4_reset g fu k hk (wI (wI (wI (wI (wI (wI (wI (wI S 3 k 8 x1) 3 k 9 0) 3 k 11 0) 3 k 12 0) 3 k 13 0) 3 k 14 (-1)) 3 k 15 (-1)) 3 k 16 0) h44) rfl rfl dX3_reset_44 rfl (Nat.le_of_ble_eq_true rfl) ⟨rfl, rfl, Nat.le_of_ble_eq_true rfl, Nat.le_of_ble_eq_true rfl⟩ ⟨Nat.le_of_ble_eq_true rfl, Nat.le_of_ble_eq_true rfl⟩ rfl ?_
  refine r_aload_n (pc' := 48) h0 0 dX3_reset_47 rfl rfl rfl ?_
  refine gf_X3_18 (pc' := 51) h0 hk dX3_reset_48 rfl ?_
  refine r_iconst (pc' := 52) h0 dX3_reset_51 ki_0 rfl ?_
  obtain ⟨r52, S52, h52, h⟩ := b2_some h
  refine go_S (k_X3_65 g) (st2 := []) (pc' := 55) [.ref (wA (wC g) 13 k), .int 0] [] h0 (c_J7_fill_53178 (wC g) fu 13 4 k (ia_13 g) hk 0 S44 h52) rfl rfl dX3_reset_52 rfl (Nat.le_of_ble_eq_true rfl) ⟨rfl, rfl, Nat.le_of_ble_eq_true rfl, Nat.le_of_ble_eq_true rfl⟩ ⟨Nat.le_of_ble_eq_true rfl, Nat.le_of_ble_eq_true rfl⟩ rfl ?_
  refine r_aload_n (pc' := 56) h0 0 dX3_reset_55 rfl rfl rfl ?_
  refine gf_X3_9 (pc' := 59) h0 hk dX3_reset_56 rfl ?_
  refine r_iconst (pc' := 60) h0 dX3_reset_59 ki_m1 rfl ?_
  obtain ⟨r60, S60, h60, h⟩ := b2_some h
  refine go_S (k_X3_65 g) (st2 := []) (pc' := 63) [.ref (wA (wC g) 11 k), .int (-1)] [] h0 (c_J7_fill_53178 (wC g) fu 11 16 k (ia_11 g) hk (-1) S52 h60) rfl rfl dX3_reset_60 rfl (Nat.le_of_ble_eq_true rfl) ⟨rfl, rfl, Nat.le_of_ble_eq_true rfl, Nat.le_of_ble_eq_true rfl⟩ ⟨Nat.le_of_ble_eq_true rfl, Nat.le_of_ble_eq_true rfl⟩ rfl ?_
  refine r_aload_n (pc' := 64) h0 0 dX3_reset_63 rfl rfl rfl ?_
  refine r_iconst (pc' := 65) h0 dX3_reset_64 ki_0 rfl ?_
  refine r_iconst (pc' := 66) h0 dX3_reset_65 ki_2 rfl ?_
  refine r_iconst (pc' := 67) h0 dX3_reset_66 ki_3 rfl ?_
  obtain ⟨r67, S67, h67, h⟩ := b2_some h
  refine go_V (k_X3_71 g) (st2 := []) (pc' := 70) [.int 0, .int 2, .int 3] [] h0 hk (c_X3_writeClearance g fu k hk 0 2 3 S60 h67) rfl rfl dX3_reset_67 rfl (Nat.le_of_ble_eq_true rfl) ⟨rfl, rfl, Nat.le_of_ble_eq_true rfl, Nat.le_of_ble_eq_true rfl⟩ ⟨Nat.le_of_ble_eq_true rfl, Nat.le_of_ble_eq_true rfl⟩ rfl ?_
  refine r_aload_n (pc' := 71) h0 0 dX3_reset_70 rfl rfl rfl ?_
  refine r_iconst (pc' := 72) h0 dX3_reset_71 ki_0 rfl ?_
  refine r_iconst (pc' := 73) h0 dX3_reset_72 ki_3 rfl ?_
  refine r_iconst (pc' := 74) h0 dX3_reset_73 ki_3 rfl ?_
  obtain ⟨r74, S74, h74, h⟩ := b2_some h
  refine go_V (k_X3_71 g) (st2 := []) (pc' := 77) [.int 0, .int 3, .int 3] [] h0 hk (c_X3_writeClearance g fu k hk 0 3 3 S67 h74) rfl rfl dX3_reset_74 rfl (Nat.le_of_ble_eq_true rfl) ⟨rfl, rfl, Nat.le_of_ble_eq_true rfl, Nat.le_of_ble_eq_true rfl⟩ ⟨Nat.le_of_ble_eq_true rfl, Nat.le_of_ble_eq_true rfl⟩ rfl ?_
  refine r_aload_n (pc' := 78) h0 0 dX3_reset_77 rfl rfl rfl ?_
  refine r_iconst (pc' := 79) h0 dX3_reset_78 ki_1 rfl ?_
  refine r_iconst (pc' := 80) h0 dX3_reset_79 ki_2 rfl ?_
  refine r_iconst (pc' := 81) h0 dX3_reset_80 ki_3 rfl ?_
  obtain ⟨r81, S81, h81, h⟩ := b2_some h
  refine go_V (k_X3_71 g) (st2 := []) (pc' := 84) [.int 1, .int 2, .int 3] [] h0 hk (c_X3_writeClearance g fu k hk 1 2 3 S74 h81) rfl rfl dX3_reset_81 rfl (Nat.le_of_ble_eq_true rfl) ⟨rfl, rfl, Nat.le_of_ble_eq_true rfl, Nat.le_of_ble_eq_true rfl⟩ ⟨Nat.le_of_ble_eq_true rfl, Nat.le_of_ble_eq_true rfl⟩ rfl ?_
  refine r_aload_n (pc' := 85) h0 0 dX3_reset_84 rfl rfl rfl ?_
  refine r_iconst (pc' := 86) h0 dX3_reset_85 ki_1 rfl ?_
  refine r_iconst (pc' := 87) h0 dX3_reset_86 ki_3 rfl ?_
  refine r_iconst (pc' := 88) h0 dX3_reset_87 ki_3 rfl ?_
  obtain ⟨r88, S88, h88, h⟩ := b2_some h
  refine go_V (k_X3_71 g) (st2 := []) (pc' := 91) [.int 1, .int 3, .int 3] [] h0 hk (c_X3_writeClearance g fu k hk 1 3 3 S81 h88) rfl rfl dX3_reset_88 rfl (Nat.le_of_ble_eq_true rfl) ⟨rfl, rfl, Nat.le_of_ble_eq_true rfl, Nat.le_of_ble_eq_true rfl⟩ ⟨Nat.le_of_ble_eq_true rfl, Nat.le_of_ble_eq_true rfl⟩ rfl ?_
  refine r_aload_n (pc' := 92) h0 0 dX3_reset_91 rfl rfl rfl ?_
  refine r_iconst (pc' := 93) h0 dX3_reset_92 ki_3 rfl ?_
  refine r_bipush (pc' := 95) h0 dX3_reset_93 kb_12 rfl ?_
  refine r_iconst (pc' := 96) h0 dX3_reset_95 ki_0 rfl ?_
  refine r_iconst (pc' := 97) h0 dX3_reset_96 ki_0 rfl ?_
  obtain ⟨r97, S97, h97, h⟩ := b2_some h
  refine go_V (k_X3_75 g) (st2 := []) (pc' := 100) [.int 3, .int 12, .int 0, .int 0] [] h0 hk (c_X3_writeSets g fu k hk 3 12 0 0 S88 h97) rfl rfl dX3_reset_97 rfl (Nat.le_of_ble_eq_true rfl) ⟨rfl, rfl, Nat.le_of_ble_eq_true rfl, Nat.le_of_ble_eq_true rfl⟩ ⟨Nat.le_of_ble_eq_true rfl, Nat.le_of_ble_eq_true rfl⟩ rfl ?_
  refine r_aload_n (pc' := 101) h0 0 dX3_reset_100 rfl rfl rfl ?_
  obtain ⟨r101, S101, h101, h⟩ := b2_some h
  refine go_V (k_X3_79 g) (st2 := []) (pc' := 104) [] [] h0 hk (c_X3_makePlan g fu k hk S97 h101) rfl rfl dX3_reset_101 rfl (Nat.le_of_ble_eq_true rfl) ⟨rfl, rfl, Nat.le_of_ble_eq_true rfl, Nat.le_of_ble_eq_true rfl⟩ ⟨Nat.le_of_ble_eq_true rfl, Nat.le_of_ble_eq_true rfl⟩ rfl ?_
  exact r_vret h0 hE dX3_reset_104 h
theorem w_X1_reset_12 {g : GC} {X : MX} {S' : Mem} (h0 : CX RX1 cX1_reset 4 rm_X1_reset X (wC g)) (fu : Nat) (x1 : Int32) (x2 : Int32) (hE : EN none none S' X (wC g)) : ∀ (n : Nat) (x3 : Int32) (S : Mem), f_X1_reset_12 fu x1 x2 n x3 S = some ((), S') → GV X (wC g) 4 0 0 S [(0, .ref (wA (wC g) 1 0)), (2, .int x2), (3, .int x3)] 12 [] := by
  intro n
  induction n with
  | zero =>
    intro x3 S h
    exact nomatch (show none = _ from h)
  | succ n ih =>
    intro x3 S h
    rw [f_X1_reset_12] at h
    refine r_iload_n (pc' := 13) h0 2 dX1_reset_12 rfl rfl rfl ?_
    refine r_aload_n (pc' := 14) h0 0 dX1_reset_13 rfl rfl rfl ?_
    refine gf_X1_18 (pc' := 17) h0 (Nat.le_of_ble_eq_true rfl) dX1_reset_14 rfl ?_
    refine r_ic_ge (pt := 35) (pf := 20) h0 dX1_reset_17 rfl rfl h (fun c17 h => ?_) (fun c17 h => ?_)
    · exact r_vret h0 hE dX1_reset_35 h
    · refine r_aload_n (pc' := 21) h0 0 dX1_reset_20 rfl rfl rfl ?_
      refine r_iload_n (pc' := 22) h0 2 dX1_reset_21 rfl rfl rfl ?_
      obtain ⟨r22, h22, h⟩ := b1_some h
      refine go_V (k_X1_25 g) (st2 := [.ref (wA (wC g) 3 r22)]) (pc' := 25) [.int x3] [] h0 (Nat.le_of_ble_eq_true rfl) (c_X1_at g fu x3 S h22) rfl rfl dX1_reset_22 rfl (Nat.le_of_ble_eq_true rfl) ⟨rfl, rfl, Nat.le_of_ble_eq_true rfl, Nat.le_of_ble_eq_true rfl⟩ ⟨Nat.le_of_ble_eq_true rfl, Nat.le_of_ble_eq_true rfl⟩ rfl ?_
      refine r_iload_n (pc' := 26) h0 1 dX1_reset_25 rfl rfl rfl ?_
      obtain ⟨r26, S26, h26, h⟩ := b2_some h
      refine go_V (k_X1_29 g) (st2 := []) (pc' := 29) [.int x2] [] h0 (b_X1_at h22) (c_X3_reset g fu r22 (b_X1_at h22) x2 S h26) rfl rfl dX1_reset_26 rfl (Nat.le_of_ble_eq_true rfl) ⟨rfl, rfl, Nat.le_of_ble_eq_true rfl, Nat.le_of_ble_eq_true rfl⟩ ⟨Nat.le_of_ble_eq_true rfl, Nat.le_of_ble_eq_true rfl⟩ rfl ?_
      refine r_iinc (pc' := 32) (L' := [(3, .int (x3 + 1)), (0, .ref (wA (wC g) 1 0)), (2, .int x2)]) h0 2 dX1_reset_29 rfl ki_1 (Nat.le_of_ble_eq_true rfl) rfl rfl ?_
      refine r_goto (pc' := 12) h0 dX1_reset_32 rfl ?_
      refine r_sub (L' := [(0, .ref (wA (wC g) 1 0)), (2, .int x2), (3, .int (x3 + 1))]) [1, 2, 0] rfl ?_
      exact ih (x3 + 1) S26 h
/-- the machine does what f_X1_reset says -/
theorem c_X1_reset (g : GC) (fu : Nat) (x1 : Int32) (x2 : Int32) (S : Mem) {S' : Mem} (h : f_X1_reset fu x1 x2 S = some ((), S')) : ctN yX1_reset cX1_reset 4 none rm_X1_reset (wC g) [.ref (wA (wC g) 1 0), .int x1, .int x2] S none S' := by
  refine ct_of (own := RX1) (L := [(0, .ref (wA (wC g) 1 0)), (1, .int x1), (2, .int x2)]) (by decide +kernel) rfl (Nat.le_of_ble_eq_true rfl) rfl (fun X h0 hE => ?_)
  rw [f_X1_reset] at h
  refine r_aload_n (pc' := 1) h0 0 dX1_reset_0 rfl rfl rfl ?_
  refine r_iload_n (pc' := 2) h0 1 dX1_reset_1 rfl rfl rfl ?_
  refine pf_X1_18 (pc' := 5) h0 (Nat.le_of_ble_eq_true rfl) dX1_reset_2 rfl ?_
  refine r_aload_n (pc' := 6) h0 0 dX1_reset_5 rfl rfl rfl ?_
  refine r_iload_n (pc' := 7) h0 2 dX1_reset_6 rfl rfl rfl ?_
  refine pf_X1_22 (pc' := 10) h0 (Nat.le_of_ble_eq_true rfl) dX1_reset_7 rfl ?_
  refine r_iconst (pc' := 11) h0 dX1_reset_10 ki_0 rfl ?_
  refine r_istore_n (pc' := 12) (L' := [(3, .int 0), (0, .ref (wA (wC g) 1 0)), (1, .int x1), (2, .int x2)]) h0 dX1_reset_11 rfl (Nat.le_of_ble_eq_true rfl) rfl rfl ?_
  refine r_sub (L' := [(0, .ref (wA (wC g) 1 0)), (2, .int x2), (3, .int 0)]) [1, 3, 0] rfl ?_
  exact w_X1_reset_12 h0 fu x1 x2 hE fu 0 (wI (wI S 1 0 1 x1) 1 0 2 x2) h
theorem w_X1_isLast_15 {g : GC} {X : MX} {r : Int32}  (h0 : CX RX1 cX1_isLast 2 rm_X1_isLast X (wC g)) (fu : Nat) (x1 : Int32) (S : Mem) (hE : EN (some .boolean) (some (.int r)) S X (wC g)) : ∀ (t0 : Int32), f_X1_isLast_15 fu x1 S t0 = some r → GV X (wC g) 2 0 0 S [] 15 [.int t0] := by
  intro t0 h
  rw [f_X1_isLast_15] at h
  exact r_zretR h0 hE dX1_isLast_15 h
/-- the machine does what f_X1_isLast says -/
theorem c_X1_isLast (g : GC) (fu : Nat) (x1 : Int32) (S : Mem) {r : Int32}  (h : f_X1_isLast fu x1 S = some r) : ctN yX1_isLast cX1_isLast 2 (some .boolean) rm_X1_isLast (wC g) [.ref (wA (wC g) 1 0), .int x1] S (some (.int r)) S := by
  refine ct_of (own := RX1) (L := [(0, .ref (wA (wC g) 1 0)), (1, .int x1)]) (by decide +kernel) rfl (Nat.le_of_ble_eq_true rfl) rfl (fun X h0 hE => ?_)
  rw [f_X1_isLast] at h
  refine r_iload_n (pc' := 1) h0 1 dX1_isLast_0 rfl rfl rfl ?_
  refine r_aload_n (pc' := 2) h0 0 dX1_isLast_1 rfl rfl rfl ?_
  refine gf_X1_18 (pc' := 5) h0 (Nat.le_of_ble_eq_true rfl) dX1_isLast_2 rfl ?_
  refine r_iconst (pc' := 6) h0 dX1_isLast_5 ki_1 rfl ?_
  refine r_isub (pc' := 7) h0 dX1_isLast_6 rfl ?_
  refine r_ic_ne (pt := 14) (pf := 10) h0 dX1_isLast_7 rfl rfl h (fun c7 h => ?_) (fun c7 h => ?_)
  · refine r_iconst (pc' := 15) h0 dX1_isLast_14 ki_0 rfl ?_
    refine r_sub (L' := []) [] rfl ?_
    exact w_X1_isLast_15 h0 fu x1 S hE 0 h
  · refine r_iconst (pc' := 11) h0 dX1_isLast_10 ki_1 rfl ?_
    refine r_goto (pc' := 15) h0 dX1_isLast_11 rfl ?_
    refine r_sub (L' := []) [] rfl ?_
    exact w_X1_isLast_15 h0 fu x1 S hE 1 h
/-- the machine does what f_X1_linkFrom says -/
theorem c_X1_linkFrom (g : GC) (fu : Nat) (x1 : Int32) (S : Mem) {r : Nat}  (h : f_X1_linkFrom fu x1 S = some r) : ctN yX1_linkFrom cX1_linkFrom 3 (some (.object "Greenwave$Link")) rm_X1_linkFrom (wC g) [.ref (wA (wC g) 1 0), .int x1] S (some (.ref (wA (wC g) 4 r))) S := by
  refine ct_of (own := RX1) (L := [(0, .ref (wA (wC g) 1 0)), (1, .int x1)]) (by decide +kernel) rfl (Nat.le_of_ble_eq_true rfl) rfl (fun X h0 hE => ?_)
  rw [f_X1_linkFrom] at h
  refine r_aload_n (pc' := 1) h0 0 dX1_linkFrom_0 rfl rfl rfl ?_
  refine r_iload_n (pc' := 2) h0 1 dX1_linkFrom_1 rfl rfl rfl ?_
  obtain ⟨r2, h2, h⟩ := b1_some h
  refine go_V (k_X1_25 g) (st2 := [.ref (wA (wC g) 3 r2)]) (pc' := 5) [.int x1] [] h0 (Nat.le_of_ble_eq_true rfl) (c_X1_at g fu x1 S h2) rfl rfl dX1_linkFrom_2 rfl (Nat.le_of_ble_eq_true rfl) ⟨rfl, rfl, Nat.le_of_ble_eq_true rfl, Nat.le_of_ble_eq_true rfl⟩ ⟨Nat.le_of_ble_eq_true rfl, Nat.le_of_ble_eq_true rfl⟩ rfl ?_
  refine r_astore_n (pc' := 6) (L' := [(2, .ref (wA (wC g) 3 r2)), (0, .ref (wA (wC g) 1 0)), (1, .int x1)]) h0 dX1_linkFrom_5 rfl (Nat.le_of_ble_eq_true rfl) rfl rfl ?_
  refine r_aload_n (pc' := 7) h0 1 dX1_linkFrom_6 rfl rfl rfl ?_
  refine r_iload_n (pc' := 8) h0 2 dX1_linkFrom_7 rfl rfl rfl ?_
  obtain ⟨r8, h8, h⟩ := b1_some h
  refine go_V (k_X1_40 g) (st2 := [.int r8]) (pc' := 11) [.int x1] [] h0 (Nat.le_of_ble_eq_true rfl) (c_X1_isLast g fu x1 S h8) rfl rfl dX1_linkFrom_8 rfl (Nat.le_of_ble_eq_true rfl) ⟨rfl, rfl, Nat.le_of_ble_eq_true rfl, Nat.le_of_ble_eq_true rfl⟩ ⟨Nat.le_of_ble_eq_true rfl, Nat.le_of_ble_eq_true rfl⟩ rfl ?_
  refine r_if_eq (pt := 24) (pf := 14) h0 dX1_linkFrom_11 rfl rfl h (fun c11 h => ?_) (fun c11 h => ?_)
  · refine r_aload_n (pc' := 25) h0 0 dX1_linkFrom_24 rfl rfl rfl ?_
    refine gf_X1_46 (pc' := 28) h0 (b_X1_at h2) dX1_linkFrom_25 rfl ?_
    exact r_aretR h0 hE dX1_linkFrom_28 h
  · exact nomatch h
/-- the machine does what f_X1_vehiclesOnLinkFrom says -/
theorem c_X1_vehiclesOnLinkFrom (g : GC) (fu : Nat) (x1 : Int32) (S : Mem) {r : Int32}  (h : f_X1_vehiclesOnLinkFrom fu x1 S = some r) : ctN yX1_vehiclesOnLinkFrom cX1_vehiclesOnLinkFrom 2 (some .int) rm_X1_vehiclesOnLinkFrom (wC g) [.ref (wA (wC g) 1 0), .int x1] S (some (.int r)) S := by
  refine ct_of (own := RX1) (L := [(0, .ref (wA (wC g) 1 0)), (1, .int x1)]) (by decide +kernel) rfl (Nat.le_of_ble_eq_true rfl) rfl (fun X h0 hE => ?_)
  rw [f_X1_vehiclesOnLinkFrom] at h
  refine r_aload_n (pc' := 1) h0 0 dX1_vehiclesOnLinkFrom_0 rfl rfl rfl ?_
  refine r_iload_n (pc' := 2) h0 1 dX1_vehiclesOnLinkFrom_1 rfl rfl rfl ?_
  obtain ⟨r2, h2, h⟩ := b1_some h
  refine go_V (k_X1_50 g) (st2 := [.ref (wA (wC g) 4 r2)]) (pc' := 5) [.int x1] [] h0 (Nat.le_of_ble_eq_true rfl) (c_X1_linkFrom g fu x1 S h2) rfl rfl dX1_vehiclesOnLinkFrom_2 rfl (Nat.le_of_ble_eq_true rfl) ⟨rfl, rfl, Nat.le_of_ble_eq_true rfl, Nat.le_of_ble_eq_true rfl⟩ ⟨Nat.le_of_ble_eq_true rfl, Nat.le_of_ble_eq_true rfl⟩ rfl ?_
  refine gf_X1_54 (pc' := 8) h0 (b_X1_linkFrom h2) dX1_vehiclesOnLinkFrom_5 rfl ?_
  refine r_aload_n (pc' := 9) h0 0 dX1_vehiclesOnLinkFrom_8 rfl rfl rfl ?_
  refine r_iload_n (pc' := 10) h0 1 dX1_vehiclesOnLinkFrom_9 rfl rfl rfl ?_
  refine r_iconst (pc' := 11) h0 dX1_vehiclesOnLinkFrom_10 ki_1 rfl ?_
  refine r_iadd (pc' := 12) h0 dX1_vehiclesOnLinkFrom_11 rfl ?_
  obtain ⟨r12, h12, h⟩ := b1_some h
  refine go_V (k_X1_25 g) (st2 := [.ref (wA (wC g) 3 r12), .int (S.1 4 r2 3)]) (pc' := 15) [.int (x1 + 1)] [.int (S.1 4 r2 3)] h0 (Nat.le_of_ble_eq_true rfl) (c_X1_at g fu (x1 + 1) S h12) rfl rfl dX1_vehiclesOnLinkFrom_12 rfl (Nat.le_of_ble_eq_true rfl) ⟨rfl, rfl, Nat.le_of_ble_eq_true rfl, Nat.le_of_ble_eq_true rfl⟩ ⟨Nat.le_of_ble_eq_true rfl, Nat.le_of_ble_eq_true rfl⟩ rfl ?_
  refine gf_X1_59 (pc' := 18) h0 (b_X1_at h12) dX1_vehiclesOnLinkFrom_15 rfl ?_
  refine r_iadd (pc' := 19) h0 dX1_vehiclesOnLinkFrom_18 rfl ?_
  exact r_iretR h0 hE dX1_vehiclesOnLinkFrom_19 h
theorem w_X1_isPlanned_2 {g : GC} {X : MX} {r : Int32}  (h0 : CX RX1 cX1_isPlanned 2 rm_X1_isPlanned X (wC g)) (fu : Nat) (S : Mem) (hE : EN (some .boolean) (some (.int r)) S X (wC g)) : ∀ (n : Nat) (x1 : Int32), f_X1_isPlanned_2 fu S n x1 = some r → GV X (wC g) 2 0 0 S [(0, .ref (wA (wC g) 1 0)), (1, .int x1)] 2 [] := by
  intro n
  induction n with
  | zero =>
    intro x1 h
    exact nomatch (show none = _ from h)
  | succ n ih =>
    intro x1 h
    rw [f_X1_isPlanned_2] at h
    refine r_iload_n (pc' := 3) h0 1 dX1_isPlanned_2 rfl rfl rfl ?_
    refine r_aload_n (pc' := 4) h0 0 dX1_isPlanned_3 rfl rfl rfl ?_
    refine gf_X1_18 (pc' := 7) h0 (Nat.le_of_ble_eq_true rfl) dX1_isPlanned_4 rfl ?_
    refine r_ic_ge (pt := 29) (pf := 10) h0 dX1_isPlanned_7 rfl rfl h (fun c7 h => ?_) (fun c7 h => ?_)
    · refine r_iconst (pc' := 30) h0 dX1_isPlanned_29 ki_1 rfl ?_
      exact r_zretR h0 hE dX1_isPlanned_30 h
    · refine r_aload_n (pc' := 11) h0 0 dX1_isPlanned_10 rfl rfl rfl ?_
      refine r_iload_n (pc' := 12) h0 1 dX1_isPlanned_11 rfl rfl rfl ?_
      obtain ⟨r12, h12, h⟩ := b1_some h
      refine go_V (k_X1_25 g) (st2 := [.ref (wA (wC g) 3 r12)]) (pc' := 15) [.int x1] [] h0 (Nat.le_of_ble_eq_true rfl) (c_X1_at g fu x1 S h12) rfl rfl dX1_isPlanned_12 rfl (Nat.le_of_ble_eq_true rfl) ⟨rfl, rfl, Nat.le_of_ble_eq_true rfl, Nat.le_of_ble_eq_true rfl⟩ ⟨Nat.le_of_ble_eq_true rfl, Nat.le_of_ble_eq_true rfl⟩ rfl ?_
      refine gf_X1_65 (pc' := 18) h0 (b_X1_at h12) dX1_isPlanned_15 rfl ?_
      refine r_if_ne (pt := 23) (pf := 21) h0 dX1_isPlanned_18 rfl rfl h (fun c18 h => ?_) (fun c18 h => ?_)
      · refine r_iinc (pc' := 26) (L' := [(1, .int (x1 + 1)), (0, .ref (wA (wC g) 1 0))]) h0 1 dX1_isPlanned_23 rfl ki_1 (Nat.le_of_ble_eq_true rfl) rfl rfl ?_
        refine r_goto (pc' := 2) h0 dX1_isPlanned_26 rfl ?_
        refine r_sub (L' := [(0, .ref (wA (wC g) 1 0)), (1, .int (x1 + 1))]) [1, 0] rfl ?_
        exact ih (x1 + 1) h
      · refine r_iconst (pc' := 22) h0 dX1_isPlanned_21 ki_0 rfl ?_
        exact r_zretR h0 hE dX1_isPlanned_22 h
/-- the machine does what f_X1_isPlanned says -/
theorem c_X1_isPlanned (g : GC) (fu : Nat) (S : Mem) {r : Int32}  (h : f_X1_isPlanned fu S = some r) : ctN yX1_isPlanned cX1_isPlanned 2 (some .boolean) rm_X1_isPlanned (wC g) [.ref (wA (wC g) 1 0)] S (some (.int r)) S := by
  refine ct_of (own := RX1) (L := [(0, .ref (wA (wC g) 1 0))]) (by decide +kernel) rfl (Nat.le_of_ble_eq_true rfl) rfl (fun X h0 hE => ?_)
  rw [f_X1_isPlanned] at h
  refine r_iconst (pc' := 1) h0 dX1_isPlanned_0 ki_0 rfl ?_
  refine r_istore_n (pc' := 2) (L' := [(1, .int 0), (0, .ref (wA (wC g) 1 0))]) h0 dX1_isPlanned_1 rfl (Nat.le_of_ble_eq_true rfl) rfl rfl ?_
  refine r_sub (L' := [(0, .ref (wA (wC g) 1 0)), (1, .int 0)]) [1, 0] rfl ?_
  exact w_X1_isPlanned_2 h0 fu S hE fu 0 h
/-- the machine does what f_X3_changeClearance says -/
theorem c_X3_changeClearance (g : GC) (fu : Nat) (k : Nat) (hk : k < 5) (x1 : Int32) (x2 : Int32) (x3 : Int32) (S : Mem) {S' : Mem} (h : f_X3_changeClearance fu k x1 x2 x3 S = some ((), S')) : ctN yX3_changeClearance cX3_changeClearance 4 none rm_X3_changeClearance (wC g) [.ref (wA (wC g) 3 k), .int x1, .int x2, .int x3] S none S' := by
  refine ct_of (own := RX3) (L := [(0, .ref (wA (wC g) 3 k)), (1, .int x1), (2, .int x2), (3, .int x3)]) (by decide +kernel) rfl (Nat.le_of_ble_eq_true rfl) rfl (fun X h0 hE => ?_)
  rw [f_X3_changeClearance] at h
  refine r_aload_n (pc' := 1) h0 0 dX3_changeClearance_0 rfl rfl rfl ?_
  refine r_iload_n (pc' := 2) h0 1 dX3_changeClearance_1 rfl rfl rfl ?_
  refine r_iload_n (pc' := 3) h0 2 dX3_changeClearance_2 rfl rfl rfl ?_
  refine r_iload_n (pc' := 4) h0 3 dX3_changeClearance_3 rfl rfl rfl ?_
  obtain ⟨r4, S4, h4, h⟩ := b2_some h
  refine go_V (k_X3_71 g) (st2 := []) (pc' := 7) [.int x1, .int x2, .int x3] [] h0 hk (c_X3_writeClearance g fu k hk x1 x2 x3 S h4) rfl rfl dX3_changeClearance_4 rfl (Nat.le_of_ble_eq_true rfl) ⟨rfl, rfl, Nat.le_of_ble_eq_true rfl, Nat.le_of_ble_eq_true rfl⟩ ⟨Nat.le_of_ble_eq_true rfl, Nat.le_of_ble_eq_true rfl⟩ rfl ?_
  refine r_aload_n (pc' := 8) h0 0 dX3_changeClearance_7 rfl rfl rfl ?_
  obtain ⟨r8, S8, h8, h⟩ := b2_some h
  refine go_V (k_X3_79 g) (st2 := []) (pc' := 11) [] [] h0 hk (c_X3_makePlan g fu k hk S4 h8) rfl rfl dX3_changeClearance_8 rfl (Nat.le_of_ble_eq_true rfl) ⟨rfl, rfl, Nat.le_of_ble_eq_true rfl, Nat.le_of_ble_eq_true rfl⟩ ⟨Nat.le_of_ble_eq_true rfl, Nat.le_of_ble_eq_true rfl⟩ rfl ?_
  exact r_vret h0 hE dX3_changeClearance_11 h
/-- the machine does what f_X3_changePhases says -/
theorem c_X3_changePhases (g : GC) (fu : Nat) (k : Nat) (hk : k < 5) (x1 : Int32) (x2 : Int32) (x3 : Int32) (x4 : Int32) (S : Mem) {S' : Mem} (h : f_X3_changePhases fu k x1 x2 x3 x4 S = some ((), S')) : ctN yX3_changePhases cX3_changePhases 5 none rm_X3_changePhases (wC g) [.ref (wA (wC g) 3 k), .int x1, .int x2, .int x3, .int x4] S none S' := by
  refine ct_of (own := RX3) (L := [(0, .ref (wA (wC g) 3 k)), (1, .int x1), (2, .int x2), (3, .int x3), (4, .int x4)]) (by decide +kernel) rfl (Nat.le_of_ble_eq_true rfl) rfl (fun X h0 hE => ?_)
  rw [f_X3_changePhases] at h
  refine r_aload_n (pc' := 1) h0 0 dX3_changePhases_0 rfl rfl rfl ?_
  refine r_iload_n (pc' := 2) h0 1 dX3_changePhases_1 rfl rfl rfl ?_
  refine r_iload_n (pc' := 3) h0 2 dX3_changePhases_2 rfl rfl rfl ?_
  refine r_iload_n (pc' := 4) h0 3 dX3_changePhases_3 rfl rfl rfl ?_
  refine r_iload (pc' := 6) h0 4 dX3_changePhases_4 rfl rfl ?_
  obtain ⟨r6, S6, h6, h⟩ := b2_some h
  refine go_V (k_X3_75 g) (st2 := []) (pc' := 9) [.int x1, .int x2, .int x3, .int x4] [] h0 hk (c_X3_writeSets g fu k hk x1 x2 x3 x4 S h6) rfl rfl dX3_changePhases_6 rfl (Nat.le_of_ble_eq_true rfl) ⟨rfl, rfl, Nat.le_of_ble_eq_true rfl, Nat.le_of_ble_eq_true rfl⟩ ⟨Nat.le_of_ble_eq_true rfl, Nat.le_of_ble_eq_true rfl⟩ rfl ?_
  refine r_aload_n (pc' := 10) h0 0 dX3_changePhases_9 rfl rfl rfl ?_
  obtain ⟨r10, S10, h10, h⟩ := b2_some h
  refine go_V (k_X3_79 g) (st2 := []) (pc' := 13) [] [] h0 hk (c_X3_makePlan g fu k hk S6 h10) rfl rfl dX3_changePhases_10 rfl (Nat.le_of_ble_eq_true rfl) ⟨rfl, rfl, Nat.le_of_ble_eq_true rfl, Nat.le_of_ble_eq_true rfl⟩ ⟨Nat.le_of_ble_eq_true rfl, Nat.le_of_ble_eq_true rfl⟩ rfl ?_
  exact r_vret h0 hE dX3_changePhases_13 h
/-- the machine does what f_X3_flowOf says -/
theorem c_X3_flowOf (g : GC) (fu : Nat) (k : Nat) (hk : k < 5) (x1 : Int32) (S : Mem) {r : Int32}  (h : f_X3_flowOf fu k x1 S = some r) : ctN yX3_flowOf cX3_flowOf 2 (some .int) rm_X3_flowOf (wC g) [.ref (wA (wC g) 3 k), .int x1] S (some (.int r)) S := by
  refine ct_of (own := RX3) (L := [(0, .ref (wA (wC g) 3 k)), (1, .int x1)]) (by decide +kernel) rfl (Nat.le_of_ble_eq_true rfl) rfl (fun X h0 hE => ?_)
  rw [f_X3_flowOf] at h
  refine r_aload_n (pc' := 1) h0 0 dX3_flowOf_0 rfl rfl rfl ?_
  refine gf_X3_18 (pc' := 4) h0 hk dX3_flowOf_1 rfl ?_
  refine r_iload_n (pc' := 5) h0 1 dX3_flowOf_4 rfl rfl rfl ?_
  obtain ⟨r5, h5, h⟩ := b1_some h
  refine go_S (k_X3_82 g) (st2 := [.int r5]) (pc' := 8) [.ref (wA (wC g) 13 k), .int x1] [] h0 (c_X7_read g fu 13 4 k (ia_13 g) hk x1 S h5) rfl rfl dX3_flowOf_5 rfl (Nat.le_of_ble_eq_true rfl) ⟨rfl, rfl, Nat.le_of_ble_eq_true rfl, Nat.le_of_ble_eq_true rfl⟩ ⟨Nat.le_of_ble_eq_true rfl, Nat.le_of_ble_eq_true rfl⟩ rfl ?_
  exact r_iretR h0 hE dX3_flowOf_8 h
/-- the machine does what f_X3_changeFlow says -/
theorem c_X3_changeFlow (g : GC) (fu : Nat) (k : Nat) (hk : k < 5) (x1 : Int32) (x2 : Int32) (S : Mem) {S' : Mem} (h : f_X3_changeFlow fu k x1 x2 S = some ((), S')) : ctN yX3_changeFlow cX3_changeFlow 3 none rm_X3_changeFlow (wC g) [.ref (wA (wC g) 3 k), .int x1, .int x2] S none S' := by
  refine ct_of (own := RX3) (L := [(0, .ref (wA (wC g) 3 k)), (1, .int x1), (2, .int x2)]) (by decide +kernel) rfl (Nat.le_of_ble_eq_true rfl) rfl (fun X h0 hE => ?_)
  rw [f_X3_changeFlow] at h
  refine r_aload_n (pc' := 1) h0 0 dX3_changeFlow_0 rfl rfl rfl ?_
  refine gf_X3_18 (pc' := 4) h0 hk dX3_changeFlow_1 rfl ?_
  refine r_iload_n (pc' := 5) h0 1 dX3_changeFlow_4 rfl rfl rfl ?_
  refine r_iload_n (pc' := 6) h0 2 dX3_changeFlow_5 rfl rfl rfl ?_
  obtain ⟨r6, S6, h6, h⟩ := b2_some h
  refine go_S (k_X3_86 g) (st2 := []) (pc' := 9) [.ref (wA (wC g) 13 k), .int x1, .int x2] [] h0 (c_X7_write g fu 13 4 k (ia_13 g) hk x1 x2 S h6) rfl rfl dX3_changeFlow_6 rfl (Nat.le_of_ble_eq_true rfl) ⟨rfl, rfl, Nat.le_of_ble_eq_true rfl, Nat.le_of_ble_eq_true rfl⟩ ⟨Nat.le_of_ble_eq_true rfl, Nat.le_of_ble_eq_true rfl⟩ rfl ?_
  refine r_aload_n (pc' := 10) h0 0 dX3_changeFlow_9 rfl rfl rfl ?_
  obtain ⟨r10, S10, h10, h⟩ := b2_some h
  refine go_V (k_X3_79 g) (st2 := []) (pc' := 13) [] [] h0 hk (c_X3_makePlan g fu k hk S6 h10) rfl rfl dX3_changeFlow_10 rfl (Nat.le_of_ble_eq_true rfl) ⟨rfl, rfl, Nat.le_of_ble_eq_true rfl, Nat.le_of_ble_eq_true rfl⟩ ⟨Nat.le_of_ble_eq_true rfl, Nat.le_of_ble_eq_true rfl⟩ rfl ?_
  exact r_vret h0 hE dX3_changeFlow_13 h
theorem w_X3_haveOnePhase_40 {g : GC} {X : MX} {r : Int32}  (h0 : CX RX3 cX3_haveOnePhase 5 rm_X3_haveOnePhase X (wC g)) (fu : Nat) (k : Nat) (hk : k < 5) (x1 : Int32) (x2 : Int32) (S : Mem) (hE : EN (some .boolean) (some (.int r)) S X (wC g)) (K2 : Int32 → Option Int32) (kK2 : ∀ (x3 : Int32), K2 x3 = some r → GV X (wC g) 5 0 0 S [(0, .ref (wA (wC g) 3 k)), (1, .int x1), (2, .int x2), (3, .int x3)] 2 []) : ∀ (x3 : Int32), f_X3_haveOnePhase_40 fu K2 k x1 x2 S x3 = some r → GV X (wC g) 5 0 0 S [(0, .ref (wA (wC g) 3 k)), (1, .int x1), (2, .int x2), (3, .int x3)] 40 [] := by
  intro x3 h
  rw [f_X3_haveOnePhase_40] at h
  refine r_iinc (pc' := 43) (L' := [(3, .int (x3 + 1)), (0, .ref (wA (wC g) 3 k)), (1, .int x1), (2, .int x2)]) h0 3 dX3_haveOnePhase_40 rfl ki_1 (Nat.le_of_ble_eq_true rfl) rfl rfl ?_
  refine r_goto (pc' := 2) h0 dX3_haveOnePhase_43 rfl ?_
  refine r_sub (L' := [(0, .ref (wA (wC g) 3 k)), (1, .int x1), (2, .int x2), (3, .int (x3 + 1))]) [1, 2, 3, 0] rfl ?_
  exact kK2 (x3 + 1) h
theorem w_X3_haveOnePhase_2 {g : GC} {X : MX} {r : Int32}  (h0 : CX RX3 cX3_haveOnePhase 5 rm_X3_haveOnePhase X (wC g)) (fu : Nat) (k : Nat) (hk : k < 5) (x1 : Int32) (x2 : Int32) (S : Mem) (hE : EN (some .boolean) (some (.int r)) S X (wC g)) : ∀ (n : Nat) (x3 : Int32), f_X3_haveOnePhase_2 fu k x1 x2 S n x3 = some r → GV X (wC g) 5 0 0 S [(0, .ref (wA (wC g) 3 k)), (1, .int x1), (2, .int x2), (3, .int x3)] 2 [] := by
  intro n
  induction n with
  | zero =>
    intro x3 h
    exact nomatch (show none = _ from h)
  | succ n ih =>
    intro x3 h
    rw [f_X3_haveOnePhase_2] at h
    refine r_iload_n (pc' := 3) h0 3 dX3_haveOnePhase_2 rfl rfl rfl ?_
    refine r_aload_n (pc' := 4) h0 0 dX3_haveOnePhase_3 rfl rfl rfl ?_
    refine gf_X3_90 (pc' := 7) h0 hk dX3_haveOnePhase_4 rfl ?_
    refine r_ic_ge (pt := 46) (pf := 10) h0 dX3_haveOnePhase_7 rfl rfl h (fun c7 h => ?_) (fun c7 h => ?_)
    · refine r_iconst (pc' := 47) h0 dX3_haveOnePhase_46 ki_0 rfl ?_
      exact r_zretR h0 hE dX3_haveOnePhase_47 h
    · refine r_aload_n (pc' := 11) h0 0 dX3_haveOnePhase_10 rfl rfl rfl ?_
      refine gf_X3_15 (pc' := 14) h0 hk dX3_haveOnePhase_11 rfl ?_
      refine r_iload_n (pc' := 15) h0 3 dX3_haveOnePhase_14 rfl rfl rfl ?_
      obtain ⟨r15, h15, h⟩ := b1_some h
      refine go_S (k_X3_82 g) (st2 := [.int r15]) (pc' := 18) [.ref (wA (wC g) 12 k), .int x3] [] h0 (c_X7_read g fu 12 4 k (ia_12 g) hk x3 S h15) rfl rfl dX3_haveOnePhase_15 rfl (Nat.le_of_ble_eq_true rfl) ⟨rfl, rfl, Nat.le_of_ble_eq_true rfl, Nat.le_of_ble_eq_true rfl⟩ ⟨Nat.le_of_ble_eq_true rfl, Nat.le_of_ble_eq_true rfl⟩ rfl ?_
      refine r_istore (pc' := 20) (L' := [(4, .int r15), (0, .ref (wA (wC g) 3 k)), (1, .int x1), (2, .int x2), (3, .int x3)]) h0 dX3_haveOnePhase_18 (Nat.le_of_ble_eq_true rfl) rfl rfl ?_
      refine r_iload (pc' := 22) h0 0 dX3_haveOnePhase_20 rfl rfl ?_
      refine r_iload_n (pc' := 23) h0 2 dX3_haveOnePhase_22 rfl rfl rfl ?_
      obtain ⟨r23, h23, h⟩ := b1_some h
      refine go_S (k_X3_93 g) (st2 := [.int r23]) (pc' := 26) [.int r15, .int x1] [] h0 (c_X7_hasBit g fu r15 x1 S h23) rfl rfl dX3_haveOnePhase_23 rfl (Nat.le_of_ble_eq_true rfl) ⟨rfl, rfl, Nat.le_of_ble_eq_true rfl, Nat.le_of_ble_eq_true rfl⟩ ⟨Nat.le_of_ble_eq_true rfl, Nat.le_of_ble_eq_true rfl⟩ rfl ?_
      refine r_if_eq (pt := 40) (pf := 29) h0 dX3_haveOnePhase_26 rfl rfl h (fun c26 h => ?_) (fun c26 h => ?_)
      · refine r_sub (L' := [(0, .ref (wA (wC g) 3 k)), (1, .int x1), (2, .int x2), (3, .int x3)]) [1, 2, 3, 4] rfl ?_
        exact w_X3_haveOnePhase_40 h0 fu k hk x1 x2 S hE (f_X3_haveOnePhase_2 fu k x1 x2 S n) ih x3 h
      · refine r_iload (pc' := 31) h0 0 dX3_haveOnePhase_29 rfl rfl ?_
        refine r_iload_n (pc' := 32) h0 3 dX3_haveOnePhase_31 rfl rfl rfl ?_
        obtain ⟨r32, h32, h⟩ := b1_some h
        refine go_S (k_X3_93 g) (st2 := [.int r32]) (pc' := 35) [.int r15, .int x2] [] h0 (c_X7_hasBit g fu r15 x2 S h32) rfl rfl dX3_haveOnePhase_32 rfl (Nat.le_of_ble_eq_true rfl) ⟨rfl, rfl, Nat.le_of_ble_eq_true rfl, Nat.le_of_ble_eq_true rfl⟩ ⟨Nat.le_of_ble_eq_true rfl, Nat.le_of_ble_eq_true rfl⟩ rfl ?_
        refine r_if_eq (pt := 40) (pf := 38) h0 dX3_haveOnePhase_35 rfl rfl h (fun c35 h => ?_) (fun c35 h => ?_)
        · refine r_sub (L' := [(0, .ref (wA (wC g) 3 k)), (1, .int x1), (2, .int x2), (3, .int x3)]) [1, 2, 3, 4] rfl ?_
          exact w_X3_haveOnePhase_40 h0 fu k hk x1 x2 S hE (f_X3_haveOnePhase_2 fu k x1 x2 S n) ih x3 h
        · refine r_iconst (pc' := 39) h0 dX3_haveOnePhase_38 ki_1 rfl ?_
          exact r_zretR h0 hE dX3_haveOnePhase_39 h
/-- the machine does what f_X3_haveOnePhase says -/
theorem c_X3_haveOnePhase (g : GC) (fu : Nat) (k : Nat) (hk : k < 5) (x1 : Int32) (x2 : Int32) (S : Mem) {r : Int32}  (h : f_X3_haveOnePhase fu k x1 x2 S = some r) : ctN yX3_haveOnePhase cX3_haveOnePhase 5 (some .boolean) rm_X3_haveOnePhase (wC g) [.ref (wA (wC g) 3 k), .int x1, .int x2] S (some (.int r)) S := by
  refine ct_of (own := RX3) (L := [(0, .ref (wA (wC g) 3 k)), (1, .int x1), (2, .int x2)]) (by decide +kernel) rfl (Nat.le_of_ble_eq_true rfl) rfl (fun X h0 hE => ?_)
  rw [f_X3_haveOnePhase] at h
  refine r_iconst (pc' := 1) h0 dX3_haveOnePhase_0 ki_0 rfl ?_
  refine r_istore_n (pc' := 2) (L' := [(3, .int 0), (0, .ref (wA (wC g) 3 k)), (1, .int x1), (2, .int x2)]) h0 dX3_haveOnePhase_1 rfl (Nat.le_of_ble_eq_true rfl) rfl rfl ?_
  refine r_sub (L' := [(0, .ref (wA (wC g) 3 k)), (1, .int x1), (2, .int x2), (3, .int 0)]) [1, 2, 3, 0] rfl ?_
  exact w_X3_haveOnePhase_2 h0 fu k hk x1 x2 S hE fu 0 h
theorem w_X3_hasConflictIn_15 {g : GC} {X : MX} {r : Int32}  (h0 : CX RX3 cX3_hasConflictIn 2 rm_X3_hasConflictIn X (wC g)) (fu : Nat) (k : Nat) (hk : k < 5) (x1 : Int32) (S : Mem) (hE : EN (some .boolean) (some (.int r)) S X (wC g)) : ∀ (t0 : Int32), f_X3_hasConflictIn_15 fu k x1 S t0 = some r → GV X (wC g) 2 0 0 S [] 15 [.int t0] := by
  intro t0 h
  rw [f_X3_hasConflictIn_15] at h
  exact r_zretR h0 hE dX3_hasConflictIn_15 h
/-- the machine does what f_X3_hasConflictIn says -/
theorem c_X3_hasConflictIn (g : GC) (fu : Nat) (k : Nat) (hk : k < 5) (x1 : Int32) (S : Mem) {r : Int32}  (h : f_X3_hasConflictIn fu k x1 S = some r) : ctN yX3_hasConflictIn cX3_hasConflictIn 2 (some .boolean) rm_X3_hasConflictIn (wC g) [.ref (wA (wC g) 3 k), .int x1] S (some (.int r)) S := by
  refine ct_of (own := RX3) (L := [(0, .ref (wA (wC g) 3 k)), (1, .int x1)]) (by decide +kernel) rfl (Nat.le_of_ble_eq_true rfl) rfl (fun X h0 hE => ?_)
  rw [f_X3_hasConflictIn] at h
  refine r_aload_n (pc' := 1) h0 0 dX3_hasConflictIn_0 rfl rfl rfl ?_
  refine r_iload_n (pc' := 2) h0 1 dX3_hasConflictIn_1 rfl rfl rfl ?_
  refine r_iload_n (pc' := 3) h0 1 dX3_hasConflictIn_2 rfl rfl rfl ?_
  obtain ⟨r3, h3, h⟩ := b1_some h
  refine go_V (k_X3_97 g) (st2 := [.int r3]) (pc' := 6) [.int x1, .int x1] [] h0 hk (c_X3_greatestClearance g fu k hk x1 x1 S h3) rfl rfl dX3_hasConflictIn_3 rfl (Nat.le_of_ble_eq_true rfl) ⟨rfl, rfl, Nat.le_of_ble_eq_true rfl, Nat.le_of_ble_eq_true rfl⟩ ⟨Nat.le_of_ble_eq_true rfl, Nat.le_of_ble_eq_true rfl⟩ rfl ?_
  refine r_iconst (pc' := 7) h0 dX3_hasConflictIn_6 ki_m1 rfl ?_
  refine r_ic_eq (pt := 14) (pf := 10) h0 dX3_hasConflictIn_7 rfl rfl h (fun c7 h => ?_) (fun c7 h => ?_)
  · refine r_iconst (pc' := 15) h0 dX3_hasConflictIn_14 ki_0 rfl ?_
    refine r_sub (L' := []) [] rfl ?_
    exact w_X3_hasConflictIn_15 h0 fu k hk x1 S hE 0 h
  · refine r_iconst (pc' := 11) h0 dX3_hasConflictIn_10 ki_1 rfl ?_
    refine r_goto (pc' := 15) h0 dX3_hasConflictIn_11 rfl ?_
    refine r_sub (L' := []) [] rfl ?_
    exact w_X3_hasConflictIn_15 h0 fu k hk x1 S hE 1 h
/-- the machine does what f_X3_isLit says -/
theorem c_X3_isLit (g : GC) (fu : Nat) (k : Nat) (hk : k < 5) (x1 : Int32) (x2 : Int32) (S : Mem) {r : Int32}  (h : f_X3_isLit fu k x1 x2 S = some r) : ctN yX3_isLit cX3_isLit 3 (some .boolean) rm_X3_isLit (wC g) [.ref (wA (wC g) 3 k), .int x1, .int x2] S (some (.int r)) S := by
  refine ct_of (own := RX3) (L := [(0, .ref (wA (wC g) 3 k)), (1, .int x1), (2, .int x2)]) (by decide +kernel) rfl (Nat.le_of_ble_eq_true rfl) rfl (fun X h0 hE => ?_)
  rw [f_X3_isLit] at h
  refine r_aload_n (pc' := 1) h0 0 dX3_isLit_0 rfl rfl rfl ?_
  refine r_aload_n (pc' := 2) h0 0 dX3_isLit_1 rfl rfl rfl ?_
  refine gf_X3_41 (pc' := 5) h0 hk dX3_isLit_2 rfl ?_
  refine r_iload_n (pc' := 6) h0 1 dX3_isLit_5 rfl rfl rfl ?_
  refine r_iload_n (pc' := 7) h0 2 dX3_isLit_6 rfl rfl rfl ?_
  obtain ⟨r7, h7, h⟩ := b1_some h
  refine go_V (k_X3_130 g) (st2 := [.int r7]) (pc' := 10) [.int (S.1 3 k 9), .int x1, .int x2] [] h0 hk (c_X3_isLitFrom g fu k hk (S.1 3 k 9) x1 x2 S h7) rfl rfl dX3_isLit_7 rfl (Nat.le_of_ble_eq_true rfl) ⟨rfl, rfl, Nat.le_of_ble_eq_true rfl, Nat.le_of_ble_eq_true rfl⟩ ⟨Nat.le_of_ble_eq_true rfl, Nat.le_of_ble_eq_true rfl⟩ rfl ?_
  exact r_zretR h0 hE dX3_isLit_10 h
theorem w_X3_isLitTooSoon_3 {g : GC} {X : MX} {r : Int32}  (h0 : CX RX3 cX3_isLitTooSoon 5 rm_X3_isLitTooSoon X (wC g)) (fu : Nat) (k : Nat) (hk : k < 5) (x1 : Int32) (x2 : Int32) (x3 : Int32) (S : Mem) (hE : EN (some .boolean) (some (.int r)) S X (wC g)) : ∀ (n : Nat) (x4 : Int32), f_X3_isLitTooSoon_3 fu k x1 x2 x3 S n x4 = some r → GV X (wC g) 5 0 0 S [(0, .ref (wA (wC g) 3 k)), (1, .int x1), (2, .int x2), (3, .int x3), (4, .int x4)] 3 [] := by
  intro n
  induction n with
  | zero =>
    intro x4 h
    exact nomatch (show none = _ from h)
  | succ n ih =>
    intro x4 h
    rw [f_X3_isLitTooSoon_3] at h
    refine r_iload (pc' := 5) h0 4 dX3_isLitTooSoon_3 rfl rfl ?_
    refine r_iload_n (pc' := 6) h0 3 dX3_isLitTooSoon_5 rfl rfl rfl ?_
    refine r_ic_gt (pt := 29) (pf := 9) h0 dX3_isLitTooSoon_6 rfl rfl h (fun c6 h => ?_) (fun c6 h => ?_)
    · refine r_iconst (pc' := 30) h0 dX3_isLitTooSoon_29 ki_0 rfl ?_
      exact r_zretR h0 hE dX3_isLitTooSoon_30 h
    · refine r_aload_n (pc' := 10) h0 0 dX3_isLitTooSoon_9 rfl rfl rfl ?_
      refine r_iload_n (pc' := 11) h0 1 dX3_isLitTooSoon_10 rfl rfl rfl ?_
      refine r_iload_n (pc' := 12) h0 2 dX3_isLitTooSoon_11 rfl rfl rfl ?_
      refine r_iload (pc' := 14) h0 4 dX3_isLitTooSoon_12 rfl rfl ?_
      refine r_iadd (pc' := 15) h0 dX3_isLitTooSoon_14 rfl ?_
      obtain ⟨r15, h15, h⟩ := b1_some h
      refine go_V (k_X3_141 g) (st2 := [.int r15]) (pc' := 18) [.int x1, .int (x2 + x4)] [] h0 hk (c_X3_isLit g fu k hk x1 (x2 + x4) S h15) rfl rfl dX3_isLitTooSoon_15 rfl (Nat.le_of_ble_eq_true rfl) ⟨rfl, rfl, Nat.le_of_ble_eq_true rfl, Nat.le_of_ble_eq_true rfl⟩ ⟨Nat.le_of_ble_eq_true rfl, Nat.le_of_ble_eq_true rfl⟩ rfl ?_
      refine r_if_eq (pt := 23) (pf := 21) h0 dX3_isLitTooSoon_18 rfl rfl h (fun c18 h => ?_) (fun c18 h => ?_)
      · refine r_iinc (pc' := 26) (L' := [(4, .int (x4 + 1)), (0, .ref (wA (wC g) 3 k)), (1, .int x1), (2, .int x2), (3, .int x3)]) h0 4 dX3_isLitTooSoon_23 rfl ki_1 (Nat.le_of_ble_eq_true rfl) rfl rfl ?_
        refine r_goto (pc' := 3) h0 dX3_isLitTooSoon_26 rfl ?_
        refine r_sub (L' := [(0, .ref (wA (wC g) 3 k)), (1, .int x1), (2, .int x2), (3, .int x3), (4, .int (x4 + 1))]) [1, 2, 3, 4, 0] rfl ?_
        exact ih (x4 + 1) h
      · refine r_iconst (pc' := 22) h0 dX3_isLitTooSoon_21 ki_1 rfl ?_
        exact r_zretR h0 hE dX3_isLitTooSoon_22 h
/-- the machine does what f_X3_isLitTooSoon says -/
theorem c_X3_isLitTooSoon (g : GC) (fu : Nat) (k : Nat) (hk : k < 5) (x1 : Int32) (x2 : Int32) (x3 : Int32) (S : Mem) {r : Int32}  (h : f_X3_isLitTooSoon fu k x1 x2 x3 S = some r) : ctN yX3_isLitTooSoon cX3_isLitTooSoon 5 (some .boolean) rm_X3_isLitTooSoon (wC g) [.ref (wA (wC g) 3 k), .int x1, .int x2, .int x3] S (some (.int r)) S := by
  refine ct_of (own := RX3) (L := [(0, .ref (wA (wC g) 3 k)), (1, .int x1), (2, .int x2), (3, .int x3)]) (by decide +kernel) rfl (Nat.le_of_ble_eq_true rfl) rfl (fun X h0 hE => ?_)
  rw [f_X3_isLitTooSoon] at h
  refine r_iconst (pc' := 1) h0 dX3_isLitTooSoon_0 ki_0 rfl ?_
  refine r_istore (pc' := 3) (L' := [(4, .int 0), (0, .ref (wA (wC g) 3 k)), (1, .int x1), (2, .int x2), (3, .int x3)]) h0 dX3_isLitTooSoon_1 (Nat.le_of_ble_eq_true rfl) rfl rfl ?_
  refine r_sub (L' := [(0, .ref (wA (wC g) 3 k)), (1, .int x1), (2, .int x2), (3, .int x3), (4, .int 0)]) [1, 2, 3, 4, 0] rfl ?_
  exact w_X3_isLitTooSoon_3 h0 fu k hk x1 x2 x3 S hE fu 0 h
theorem w_X3_isBreached_40 {g : GC} {X : MX} {r : Int32}  (h0 : CX RX3 cX3_isBreached 4 rm_X3_isBreached X (wC g)) (fu : Nat) (k : Nat) (hk : k < 5) (x1 : Int32) (S : Mem) (hE : EN (some .boolean) (some (.int r)) S X (wC g)) (K9 : Int32 → Int32 → Option Int32) (kK9 : ∀ (x2 : Int32) (x3 : Int32), K9 x2 x3 = some r → GV X (wC g) 4 0 0 S [(0, .ref (wA (wC g) 3 k)), (1, .int x1), (2, .int x2), (3, .int x3)] 9 []) : ∀ (x2 : Int32) (x3 : Int32), f_X3_isBreached_40 fu K9 k x1 S x2 x3 = some r → GV X (wC g) 4 0 0 S [(0, .ref (wA (wC g) 3 k)), (1, .int x1), (2, .int x2), (3, .int x3)] 40 [] := by
  intro x2 x3 h
  rw [f_X3_isBreached_40] at h
  refine r_iinc (pc' := 43) (L' := [(3, .int (x3 + 1)), (0, .ref (wA (wC g) 3 k)), (1, .int x1), (2, .int x2)]) h0 3 dX3_isBreached_40 rfl ki_1 (Nat.le_of_ble_eq_true rfl) rfl rfl ?_
  refine r_goto (pc' := 9) h0 dX3_isBreached_43 rfl ?_
  refine r_sub (L' := [(0, .ref (wA (wC g) 3 k)), (1, .int x1), (2, .int x2), (3, .int (x3 + 1))]) [1, 2, 3, 0] rfl ?_
  exact kK9 x2 (x3 + 1) h
theorem w_X3_isBreached_9 {g : GC} {X : MX} {r : Int32}  (h0 : CX RX3 cX3_isBreached 4 rm_X3_isBreached X (wC g)) (fu : Nat) (k : Nat) (hk : k < 5) (x1 : Int32) (S : Mem) (hE : EN (some .boolean) (some (.int r)) S X (wC g)) (K2 : Int32 → Option Int32) (kK2 : ∀ (x2 : Int32), K2 x2 = some r → GV X (wC g) 4 0 0 S [(0, .ref (wA (wC g) 3 k)), (1, .int x1), (2, .int x2)] 2 []) : ∀ (n : Nat) (x2 : Int32) (x3 : Int32), f_X3_isBreached_9 fu K2 k x1 S n x2 x3 = some r → GV X (wC g) 4 0 0 S [(0, .ref (wA (wC g) 3 k)), (1, .int x1), (2, .int x2), (3, .int x3)] 9 [] := by
  intro n
  induction n with
  | zero =>
    intro x2 x3 h
    exact nomatch (show none = _ from h)
  | succ n ih =>
    intro x2 x3 h
    rw [f_X3_isBreached_9] at h
    refine r_iload_n (pc' := 10) h0 3 dX3_isBreached_9 rfl rfl rfl ?_
    refine r_iconst (pc' := 11) h0 dX3_isBreached_10 ki_4 rfl ?_
    refine r_ic_ge (pt := 46) (pf := 14) h0 dX3_isBreached_11 rfl rfl h (fun c11 h => ?_) (fun c11 h => ?_)
    · refine r_iinc (pc' := 49) (L' := [(2, .int (x2 + 1)), (0, .ref (wA (wC g) 3 k)), (1, .int x1), (3, .int x3)]) h0 2 dX3_isBreached_46 rfl ki_1 (Nat.le_of_ble_eq_true rfl) rfl rfl ?_
      refine r_goto (pc' := 2) h0 dX3_isBreached_49 rfl ?_
      refine r_sub (L' := [(0, .ref (wA (wC g) 3 k)), (1, .int x1), (2, .int (x2 + 1))]) [1, 2, 0] rfl ?_
      exact kK2 (x2 + 1) h
    · refine r_aload_n (pc' := 15) h0 0 dX3_isBreached_14 rfl rfl rfl ?_
      refine r_iload_n (pc' := 16) h0 2 dX3_isBreached_15 rfl rfl rfl ?_
      refine r_iload_n (pc' := 17) h0 1 dX3_isBreached_16 rfl rfl rfl ?_
      obtain ⟨r17, h17, h⟩ := b1_some h
      refine go_V (k_X3_141 g) (st2 := [.int r17]) (pc' := 20) [.int x2, .int x1] [] h0 hk (c_X3_isLit g fu k hk x2 x1 S h17) rfl rfl dX3_isBreached_17 rfl (Nat.le_of_ble_eq_true rfl) ⟨rfl, rfl, Nat.le_of_ble_eq_true rfl, Nat.le_of_ble_eq_true rfl⟩ ⟨Nat.le_of_ble_eq_true rfl, Nat.le_of_ble_eq_true rfl⟩ rfl ?_
      refine r_if_eq (pt := 40) (pf := 23) h0 dX3_isBreached_20 rfl rfl h (fun c20 h => ?_) (fun c20 h => ?_)
      · exact w_X3_isBreached_40 h0 fu k hk x1 S hE (f_X3_isBreached_9 fu K2 k x1 S n) ih x2 x3 h
      · refine r_aload_n (pc' := 24) h0 0 dX3_isBreached_23 rfl rfl rfl ?_
        refine r_iload_n (pc' := 25) h0 3 dX3_isBreached_24 rfl rfl rfl ?_
        refine r_iload_n (pc' := 26) h0 1 dX3_isBreached_25 rfl rfl rfl ?_
        refine r_aload_n (pc' := 27) h0 0 dX3_isBreached_26 rfl rfl rfl ?_
        refine r_iload_n (pc' := 28) h0 2 dX3_isBreached_27 rfl rfl rfl ?_
        refine r_iload_n (pc' := 29) h0 3 dX3_isBreached_28 rfl rfl rfl ?_
        obtain ⟨r29, h29, h⟩ := b1_some h
        refine go_V (k_X3_101 g) (st2 := [.int r29, .int x1, .int x3, .ref (wA (wC g) 3 k)]) (pc' := 32) [.int x2, .int x3] [.int x1, .int x3, .ref (wA (wC g) 3 k)] h0 hk (c_X3_clearanceOf g fu k hk x2 x3 S h29) rfl rfl dX3_isBreached_29 rfl (Nat.le_of_ble_eq_true rfl) ⟨rfl, rfl, Nat.le_of_ble_eq_true rfl, Nat.le_of_ble_eq_true rfl⟩ ⟨Nat.le_of_ble_eq_true rfl, Nat.le_of_ble_eq_true rfl⟩ rfl ?_
        obtain ⟨r32, h32, h⟩ := b1_some h
        refine go_V (k_X3_144 g) (st2 := [.int r32]) (pc' := 35) [.int x3, .int x1, .int r29] [] h0 hk (c_X3_isLitTooSoon g fu k hk x3 x1 r29 S h32) rfl rfl dX3_isBreached_32 rfl (Nat.le_of_ble_eq_true rfl) ⟨rfl, rfl, Nat.le_of_ble_eq_true rfl, Nat.le_of_ble_eq_true rfl⟩ ⟨Nat.le_of_ble_eq_true rfl, Nat.le_of_ble_eq_true rfl⟩ rfl ?_
        refine r_if_eq (pt := 40) (pf := 38) h0 dX3_isBreached_35 rfl rfl h (fun c35 h => ?_) (fun c35 h => ?_)
        · exact w_X3_isBreached_40 h0 fu k hk x1 S hE (f_X3_isBreached_9 fu K2 k x1 S n) ih x2 x3 h
        · refine r_iconst (pc' := 39) h0 dX3_isBreached_38 ki_1 rfl ?_
          exact r_zretR h0 hE dX3_isBreached_39 h
theorem w_X3_isBreached_2 {g : GC} {X : MX} {r : Int32}  (h0 : CX RX3 cX3_isBreached 4 rm_X3_isBreached X (wC g)) (fu : Nat) (k : Nat) (hk : k < 5) (x1 : Int32) (S : Mem) (hE : EN (some .boolean) (some (.int r)) S X (wC g)) : ∀ (n : Nat) (x2 : Int32), f_X3_isBreached_2 fu k x1 S n x2 = some r → GV X (wC g) 4 0 0 S [(0, .ref (wA (wC g) 3 k)), (1, .int x1), (2, .int x2)] 2 [] := by
  intro n
  induction n with
  | zero =>
    intro x2 h
    exact nomatch (show none = _ from h)
  | succ n ih =>
    intro x2 h
    rw [f_X3_isBreached_2] at h
    refine r_iload_n (pc' := 3) h0 2 dX3_isBreached_2 rfl rfl rfl ?_
    refine r_iconst (pc' := 4) h0 dX3_isBreached_3 ki_4 rfl ?_
    refine r_ic_ge (pt := 52) (pf := 7) h0 dX3_isBreached_4 rfl rfl h (fun c4 h => ?_) (fun c4 h => ?_)
    · refine r_iconst (pc' := 53) h0 dX3_isBreached_52 ki_0 rfl ?_
      exact r_zretR h0 hE dX3_isBreached_53 h
    · refine r_iconst (pc' := 8) h0 dX3_isBreached_7 ki_0 rfl ?_
      refine r_istore_n (pc' := 9) (L' := [(3, .int 0), (0, .ref (wA (wC g) 3 k)), (1, .int x1), (2, .int x2)]) h0 dX3_isBreached_8 rfl (Nat.le_of_ble_eq_true rfl) rfl rfl ?_
      refine r_sub (L' := [(0, .ref (wA (wC g) 3 k)), (1, .int x1), (2, .int x2), (3, .int 0)]) [1, 2, 3, 0] rfl ?_
      exact w_X3_isBreached_9 h0 fu k hk x1 S hE (f_X3_isBreached_2 fu k x1 S n) ih fu x2 0 h
/-- the machine does what f_X3_isBreached says -/
theorem c_X3_isBreached (g : GC) (fu : Nat) (k : Nat) (hk : k < 5) (x1 : Int32) (S : Mem) {r : Int32}  (h : f_X3_isBreached fu k x1 S = some r) : ctN yX3_isBreached cX3_isBreached 4 (some .boolean) rm_X3_isBreached (wC g) [.ref (wA (wC g) 3 k), .int x1] S (some (.int r)) S := by
  refine ct_of (own := RX3) (L := [(0, .ref (wA (wC g) 3 k)), (1, .int x1)]) (by decide +kernel) rfl (Nat.le_of_ble_eq_true rfl) rfl (fun X h0 hE => ?_)
  rw [f_X3_isBreached] at h
  refine r_iconst (pc' := 1) h0 dX3_isBreached_0 ki_0 rfl ?_
  refine r_istore_n (pc' := 2) (L' := [(2, .int 0), (0, .ref (wA (wC g) 3 k)), (1, .int x1)]) h0 dX3_isBreached_1 rfl (Nat.le_of_ble_eq_true rfl) rfl rfl ?_
  refine r_sub (L' := [(0, .ref (wA (wC g) 3 k)), (1, .int x1), (2, .int 0)]) [1, 2, 0] rfl ?_
  exact w_X3_isBreached_2 h0 fu k hk x1 S hE fu 0 h
theorem w_X3_countBreaches_23 {g : GC} {X : MX} {r : Int32}  (h0 : CX RX3 cX3_countBreaches 3 rm_X3_countBreaches X (wC g)) (fu : Nat) (k : Nat) (hk : k < 5) (S : Mem) (hE : EN (some .int) (some (.int r)) S X (wC g)) (K4 : Int32 → Int32 → Option Int32) (kK4 : ∀ (x1 : Int32) (x2 : Int32), K4 x1 x2 = some r → GV X (wC g) 3 0 0 S [(0, .ref (wA (wC g) 3 k)), (1, .int x1), (2, .int x2)] 4 []) : ∀ (x1 : Int32) (x2 : Int32), f_X3_countBreaches_23 fu K4 k S x1 x2 = some r → GV X (wC g) 3 0 0 S [(0, .ref (wA (wC g) 3 k)), (1, .int x1), (2, .int x2)] 23 [] := by
  intro x1 x2 h
  rw [f_X3_countBreaches_23] at h
  refine r_iinc (pc' := 26) (L' := [(2, .int (x2 + 1)), (0, .ref (wA (wC g) 3 k)), (1, .int x1)]) h0 2 dX3_countBreaches_23 rfl ki_1 (Nat.le_of_ble_eq_true rfl) rfl rfl ?_
  refine r_goto (pc' := 4) h0 dX3_countBreaches_26 rfl ?_
  refine r_sub (L' := [(0, .ref (wA (wC g) 3 k)), (1, .int x1), (2, .int (x2 + 1))]) [1, 2, 0] rfl ?_
  exact kK4 x1 (x2 + 1) h
theorem w_X3_countBreaches_4 {g : GC} {X : MX} {r : Int32}  (h0 : CX RX3 cX3_countBreaches 3 rm_X3_countBreaches X (wC g)) (fu : Nat) (k : Nat) (hk : k < 5) (S : Mem) (hE : EN (some .int) (some (.int r)) S X (wC g)) : ∀ (n : Nat) (x1 : Int32) (x2 : Int32), f_X3_countBreaches_4 fu k S n x1 x2 = some r → GV X (wC g) 3 0 0 S [(0, .ref (wA (wC g) 3 k)), (1, .int x1), (2, .int x2)] 4 [] := by
  intro n
  induction n with
  | zero =>
    intro x1 x2 h
    exact nomatch (show none = _ from h)
  | succ n ih =>
    intro x1 x2 h
    rw [f_X3_countBreaches_4] at h
    refine r_iload_n (pc' := 5) h0 2 dX3_countBreaches_4 rfl rfl rfl ?_
    refine r_aload_n (pc' := 6) h0 0 dX3_countBreaches_5 rfl rfl rfl ?_
    refine gf_X3_37 (pc' := 9) h0 hk dX3_countBreaches_6 rfl ?_
    refine r_ic_ge (pt := 29) (pf := 12) h0 dX3_countBreaches_9 rfl rfl h (fun c9 h => ?_) (fun c9 h => ?_)
    · refine r_iload_n (pc' := 30) h0 1 dX3_countBreaches_29 rfl rfl rfl ?_
      exact r_iretR h0 hE dX3_countBreaches_30 h
    · refine r_aload_n (pc' := 13) h0 0 dX3_countBreaches_12 rfl rfl rfl ?_
      refine r_iload_n (pc' := 14) h0 2 dX3_countBreaches_13 rfl rfl rfl ?_
      obtain ⟨r14, h14, h⟩ := b1_some h
      refine go_V (k_X3_137 g) (st2 := [.int r14]) (pc' := 17) [.int x2] [] h0 hk (c_X3_isBreached g fu k hk x2 S h14) rfl rfl dX3_countBreaches_14 rfl (Nat.le_of_ble_eq_true rfl) ⟨rfl, rfl, Nat.le_of_ble_eq_true rfl, Nat.le_of_ble_eq_true rfl⟩ ⟨Nat.le_of_ble_eq_true rfl, Nat.le_of_ble_eq_true rfl⟩ rfl ?_
      refine r_if_eq (pt := 23) (pf := 20) h0 dX3_countBreaches_17 rfl rfl h (fun c17 h => ?_) (fun c17 h => ?_)
      · exact w_X3_countBreaches_23 h0 fu k hk S hE (f_X3_countBreaches_4 fu k S n) ih x1 x2 h
      · refine r_iinc (pc' := 23) (L' := [(1, .int (x1 + 1)), (0, .ref (wA (wC g) 3 k)), (2, .int x2)]) h0 1 dX3_countBreaches_20 rfl ki_1 (Nat.le_of_ble_eq_true rfl) rfl rfl ?_
        refine r_sub (L' := [(0, .ref (wA (wC g) 3 k)), (1, .int (x1 + 1)), (2, .int x2)]) [1, 0, 2] rfl ?_
        exact w_X3_countBreaches_23 h0 fu k hk S hE (f_X3_countBreaches_4 fu k S n) ih (x1 + 1) x2 h
/-- the machine does what f_X3_countBreaches says -/
theorem c_X3_countBreaches (g : GC) (fu : Nat) (k : Nat) (hk : k < 5) (S : Mem) {r : Int32}  (h : f_X3_countBreaches fu k S = some r) : ctN yX3_countBreaches cX3_countBreaches 3 (some .int) rm_X3_countBreaches (wC g) [.ref (wA (wC g) 3 k)] S (some (.int r)) S := by
  refine ct_of (own := RX3) (L := [(0, .ref (wA (wC g) 3 k))]) (by decide +kernel) rfl (Nat.le_of_ble_eq_true rfl) rfl (fun X h0 hE => ?_)
  rw [f_X3_countBreaches] at h
  refine r_iconst (pc' := 1) h0 dX3_countBreaches_0 ki_0 rfl ?_
  refine r_istore_n (pc' := 2) (L' := [(1, .int 0), (0, .ref (wA (wC g) 3 k))]) h0 dX3_countBreaches_1 rfl (Nat.le_of_ble_eq_true rfl) rfl rfl ?_
  refine r_iconst (pc' := 3) h0 dX3_countBreaches_2 ki_0 rfl ?_
  refine r_istore_n (pc' := 4) (L' := [(2, .int 0), (1, .int 0), (0, .ref (wA (wC g) 3 k))]) h0 dX3_countBreaches_3 rfl (Nat.le_of_ble_eq_true rfl) rfl rfl ?_
  refine r_sub (L' := [(0, .ref (wA (wC g) 3 k)), (1, .int 0), (2, .int 0)]) [2, 1, 0] rfl ?_
  exact w_X3_countBreaches_4 h0 fu k hk S hE fu 0 0 h
/-- the machine does what f_X3_placeInCycle says -/
theorem c_X3_placeInCycle (g : GC) (fu : Nat) (k : Nat) (hk : k < 5) (x1 : Int32) (S : Mem) {r : Int32}  (h : f_X3_placeInCycle fu k x1 S = some r) : ctN yX3_placeInCycle cX3_placeInCycle 2 (some .int) rm_X3_placeInCycle (wC g) [.ref (wA (wC g) 3 k), .int x1] S (some (.int r)) S := by
  refine ct_of (own := RX3) (L := [(0, .ref (wA (wC g) 3 k)), (1, .int x1)]) (by decide +kernel) rfl (Nat.le_of_ble_eq_true rfl) rfl (fun X h0 hE => ?_)
  rw [f_X3_placeInCycle] at h
  refine r_iload_n (pc' := 1) h0 1 dX3_placeInCycle_0 rfl rfl rfl ?_
  refine r_aload_n (pc' := 2) h0 0 dX3_placeInCycle_1 rfl rfl rfl ?_
  refine gf_X3_41 (pc' := 5) h0 hk dX3_placeInCycle_2 rfl ?_
  refine r_isub (pc' := 6) h0 dX3_placeInCycle_5 rfl ?_
  refine r_aload_n (pc' := 7) h0 0 dX3_placeInCycle_6 rfl rfl rfl ?_
  refine gf_X3_37 (pc' := 10) h0 hk dX3_placeInCycle_7 rfl ?_
  obtain ⟨r10, h10, h⟩ := b1_some h
  refine go_S (k_X3_134 g) (st2 := [.int r10]) (pc' := 13) [.int (x1 - (S.1 3 k 9)), .int (S.1 3 k 8)] [] h0 (c_X7_modulo g fu (x1 - (S.1 3 k 9)) (S.1 3 k 8) S h10) rfl rfl dX3_placeInCycle_10 rfl (Nat.le_of_ble_eq_true rfl) ⟨rfl, rfl, Nat.le_of_ble_eq_true rfl, Nat.le_of_ble_eq_true rfl⟩ ⟨Nat.le_of_ble_eq_true rfl, Nat.le_of_ble_eq_true rfl⟩ rfl ?_
  exact r_iretR h0 hE dX3_placeInCycle_13 h
theorem w_X3_hasBusIn_13 {g : GC} {X : MX} {r : Int32}  (h0 : CX RX3 cX3_hasBusIn 2 rm_X3_hasBusIn X (wC g)) (fu : Nat) (k : Nat) (hk : k < 5) (x1 : Int32) (S : Mem) (hE : EN (some .boolean) (some (.int r)) S X (wC g)) : ∀ (t0 : Int32), f_X3_hasBusIn_13 fu k x1 S t0 = some r → GV X (wC g) 2 0 0 S [] 13 [.int t0] := by
  intro t0 h
  rw [f_X3_hasBusIn_13] at h
  exact r_zretR h0 hE dX3_hasBusIn_13 h
/-- the machine does what f_X3_hasBusIn says -/
theorem c_X3_hasBusIn (g : GC) (fu : Nat) (k : Nat) (hk : k < 5) (x1 : Int32) (S : Mem) {r : Int32}  (h : f_X3_hasBusIn fu k x1 S = some r) : ctN yX3_hasBusIn cX3_hasBusIn 2 (some .boolean) rm_X3_hasBusIn (wC g) [.ref (wA (wC g) 3 k), .int x1] S (some (.int r)) S := by
  refine ct_of (own := RX3) (L := [(0, .ref (wA (wC g) 3 k)), (1, .int x1)]) (by decide +kernel) rfl (Nat.le_of_ble_eq_true rfl) rfl (fun X h0 hE => ?_)
  rw [f_X3_hasBusIn] at h
  refine r_iload_n (pc' := 1) h0 1 dX3_hasBusIn_0 rfl rfl rfl ?_
  refine r_aload_n (pc' := 2) h0 0 dX3_hasBusIn_1 rfl rfl rfl ?_
  refine gf_X3_50 (pc' := 5) h0 hk dX3_hasBusIn_2 rfl ?_
  refine r_ic_ge (pt := 12) (pf := 8) h0 dX3_hasBusIn_5 rfl rfl h (fun c5 h => ?_) (fun c5 h => ?_)
  · refine r_iconst (pc' := 13) h0 dX3_hasBusIn_12 ki_0 rfl ?_
    refine r_sub (L' := []) [] rfl ?_
    exact w_X3_hasBusIn_13 h0 fu k hk x1 S hE 0 h
  · refine r_iconst (pc' := 9) h0 dX3_hasBusIn_8 ki_1 rfl ?_
    refine r_goto (pc' := 13) h0 dX3_hasBusIn_9 rfl ?_
    refine r_sub (L' := []) [] rfl ?_
    exact w_X3_hasBusIn_13 h0 fu k hk x1 S hE 1 h
theorem w_X3_changedGreen_32 {g : GC} {X : MX} {r : Int32}  (h0 : CX RX3 cX3_changedGreen 3 rm_X3_changedGreen X (wC g)) (fu : Nat) (k : Nat) (hk : k < 5) (x1 : Int32) (S : Mem) (hE : EN (some .int) (some (.int r)) S X (wC g)) : ∀ (t0 : Int32), f_X3_changedGreen_32 fu k x1 S t0 = some r → GV X (wC g) 3 0 0 S [(0, .ref (wA (wC g) 3 k)), (1, .int x1)] 32 [.int t0] := by
  intro t0 h
  rw [f_X3_changedGreen_32] at h
  refine r_istore_n (pc' := 33) (L' := [(2, .int t0), (0, .ref (wA (wC g) 3 k)), (1, .int x1)]) h0 dX3_changedGreen_32 rfl (Nat.le_of_ble_eq_true rfl) rfl rfl ?_
  refine r_aload_n (pc' := 34) h0 1 dX3_changedGreen_33 rfl rfl rfl ?_
  refine gf_X3_21 (pc' := 37) h0 hk dX3_changedGreen_34 rfl ?_
  refine r_iload_n (pc' := 38) h0 2 dX3_changedGreen_37 rfl rfl rfl ?_
  obtain ⟨r38, h38, h⟩ := b1_some h
  refine go_S (k_X3_82 g) (st2 := [.int r38]) (pc' := 41) [.ref (wA (wC g) 14 k), .int x1] [] h0 (c_X7_read g fu 14 4 k (ia_14 g) hk x1 S h38) rfl rfl dX3_changedGreen_38 rfl (Nat.le_of_ble_eq_true rfl) ⟨rfl, rfl, Nat.le_of_ble_eq_true rfl, Nat.le_of_ble_eq_true rfl⟩ ⟨Nat.le_of_ble_eq_true rfl, Nat.le_of_ble_eq_true rfl⟩ rfl ?_
  refine r_iload_n (pc' := 42) h0 0 dX3_changedGreen_41 rfl rfl rfl ?_
  refine r_iadd (pc' := 43) h0 dX3_changedGreen_42 rfl ?_
  exact r_iretR h0 hE dX3_changedGreen_43 h
/-- the machine does what f_X3_changedGreen says -/
theorem c_X3_changedGreen (g : GC) (fu : Nat) (k : Nat) (hk : k < 5) (x1 : Int32) (S : Mem) {r : Int32}  (h : f_X3_changedGreen fu k x1 S = some r) : ctN yX3_changedGreen cX3_changedGreen 3 (some .int) rm_X3_changedGreen (wC g) [.ref (wA (wC g) 3 k), .int x1] S (some (.int r)) S := by
  refine ct_of (own := RX3) (L := [(0, .ref (wA (wC g) 3 k)), (1, .int x1)]) (by decide +kernel) rfl (Nat.le_of_ble_eq_true rfl) rfl (fun X h0 hE => ?_)
  rw [f_X3_changedGreen] at h
  refine r_iload_n (pc' := 1) h0 1 dX3_changedGreen_0 rfl rfl rfl ?_
  refine r_aload_n (pc' := 2) h0 0 dX3_changedGreen_1 rfl rfl rfl ?_
  refine gf_X3_56 (pc' := 5) h0 hk dX3_changedGreen_2 rfl ?_
  refine r_ic_ne (pt := 15) (pf := 8) h0 dX3_changedGreen_5 rfl rfl h (fun c5 h => ?_) (fun c5 h => ?_)
  · refine r_iload_n (pc' := 16) h0 1 dX3_changedGreen_15 rfl rfl rfl ?_
    refine r_aload_n (pc' := 17) h0 0 dX3_changedGreen_16 rfl rfl rfl ?_
    refine gf_X3_53 (pc' := 20) h0 hk dX3_changedGreen_17 rfl ?_
    refine r_ic_ne (pt := 31) (pf := 23) h0 dX3_changedGreen_20 rfl rfl h (fun c20 h => ?_) (fun c20 h => ?_)
    · refine r_iconst (pc' := 32) h0 dX3_changedGreen_31 ki_0 rfl ?_
      exact w_X3_changedGreen_32 h0 fu k hk x1 S hE 0 h
    · refine r_aload_n (pc' := 24) h0 0 dX3_changedGreen_23 rfl rfl rfl ?_
      refine gf_X3_59 (pc' := 27) h0 hk dX3_changedGreen_24 rfl ?_
      refine r_ineg (pc' := 28) h0 dX3_changedGreen_27 rfl ?_
      refine r_goto (pc' := 32) h0 dX3_changedGreen_28 rfl ?_
      exact w_X3_changedGreen_32 h0 fu k hk x1 S hE (-(S.1 3 k 16)) h
  · refine r_aload_n (pc' := 9) h0 0 dX3_changedGreen_8 rfl rfl rfl ?_
    refine gf_X3_59 (pc' := 12) h0 hk dX3_changedGreen_9 rfl ?_
    refine r_goto (pc' := 32) h0 dX3_changedGreen_12 rfl ?_
    exact w_X3_changedGreen_32 h0 fu k hk x1 S hE (S.1 3 k 16) h
theorem w_X3_phaseIn_46 {g : GC} {X : MX} {r : Int32}  (h0 : CX RX3 cX3_phaseIn 6 rm_X3_phaseIn X (wC g)) (fu : Nat) (k : Nat) (hk : k < 5) (x1 : Int32) (S : Mem) (hE : EN (some .int) (some (.int r)) S X (wC g)) (K15 : Int32 → Int32 → Int32 → Option Int32) (kK15 : ∀ (x2 : Int32) (x3 : Int32) (x4 : Int32), K15 x2 x3 x4 = some r → GV X (wC g) 6 0 0 S [(0, .ref (wA (wC g) 3 k)), (2, .int x2), (3, .int x3), (4, .int x4)] 15 []) : ∀ (x2 : Int32) (x3 : Int32) (x4 : Int32) (t0 : Int32), f_X3_phaseIn_46 fu K15 k x1 S x2 x3 x4 t0 = some r → GV X (wC g) 6 0 0 S [(0, .ref (wA (wC g) 3 k)), (2, .int x2), (3, .int x3), (4, .int x4)] 46 [.int t0] := by
  intro x2 x3 x4 t0 h
  rw [f_X3_phaseIn_46] at h
  refine r_istore (pc' := 48) (L' := [(5, .int t0), (0, .ref (wA (wC g) 3 k)), (2, .int x2), (3, .int x3), (4, .int x4)]) h0 dX3_phaseIn_46 (Nat.le_of_ble_eq_true rfl) rfl rfl ?_
  refine r_iload_n (pc' := 49) h0 3 dX3_phaseIn_48 rfl rfl rfl ?_
  refine r_iload (pc' := 51) h0 0 dX3_phaseIn_49 rfl rfl ?_
  refine r_ic_ge (pt := 57) (pf := 54) h0 dX3_phaseIn_51 rfl rfl h (fun c51 h => ?_) (fun c51 h => ?_)
  · refine r_iload_n (pc' := 58) h0 3 dX3_phaseIn_57 rfl rfl rfl ?_
    refine r_iload (pc' := 60) h0 0 dX3_phaseIn_58 rfl rfl ?_
    refine r_isub (pc' := 61) h0 dX3_phaseIn_60 rfl ?_
    refine r_istore_n (pc' := 62) (L' := [(3, .int (x3 - t0)), (5, .int t0), (0, .ref (wA (wC g) 3 k)), (2, .int x2), (4, .int x4)]) h0 dX3_phaseIn_61 rfl (Nat.le_of_ble_eq_true rfl) rfl rfl ?_
    refine r_iload_n (pc' := 63) h0 0 dX3_phaseIn_62 rfl rfl rfl ?_
    refine r_aload_n (pc' := 64) h0 2 dX3_phaseIn_63 rfl rfl rfl ?_
    refine gf_X3_24 (pc' := 67) h0 hk dX3_phaseIn_64 rfl ?_
    refine r_iload (pc' := 69) h0 4 dX3_phaseIn_67 rfl rfl ?_
    obtain ⟨r69, h69, h⟩ := b1_some h
    refine go_S (k_X3_82 g) (st2 := [.int r69, .int (x3 - t0)]) (pc' := 72) [.ref (wA (wC g) 15 k), .int x4] [.int (x3 - t0)] h0 (c_X7_read g fu 15 4 k (ia_15 g) hk x4 S h69) rfl rfl dX3_phaseIn_69 rfl (Nat.le_of_ble_eq_true rfl) ⟨rfl, rfl, Nat.le_of_ble_eq_true rfl, Nat.le_of_ble_eq_true rfl⟩ ⟨Nat.le_of_ble_eq_true rfl, Nat.le_of_ble_eq_true rfl⟩ rfl ?_
    refine r_ic_ge (pt := 77) (pf := 75) h0 dX3_phaseIn_72 rfl rfl h (fun c72 h => ?_) (fun c72 h => ?_)
    · refine r_iload_n (pc' := 78) h0 0 dX3_phaseIn_77 rfl rfl rfl ?_
      refine r_aload_n (pc' := 79) h0 2 dX3_phaseIn_78 rfl rfl rfl ?_
      refine gf_X3_24 (pc' := 82) h0 hk dX3_phaseIn_79 rfl ?_
      refine r_iload (pc' := 84) h0 4 dX3_phaseIn_82 rfl rfl ?_
      obtain ⟨r84, h84, h⟩ := b1_some h
      refine go_S (k_X3_82 g) (st2 := [.int r84, .int (x3 - t0)]) (pc' := 87) [.ref (wA (wC g) 15 k), .int x4] [.int (x3 - t0)] h0 (c_X7_read g fu 15 4 k (ia_15 g) hk x4 S h84) rfl rfl dX3_phaseIn_84 rfl (Nat.le_of_ble_eq_true rfl) ⟨rfl, rfl, Nat.le_of_ble_eq_true rfl, Nat.le_of_ble_eq_true rfl⟩ ⟨Nat.le_of_ble_eq_true rfl, Nat.le_of_ble_eq_true rfl⟩ rfl ?_
      refine r_isub (pc' := 88) h0 dX3_phaseIn_87 rfl ?_
      refine r_istore_n (pc' := 89) (L' := [(3, .int ((x3 - t0) - r84)), (5, .int t0), (0, .ref (wA (wC g) 3 k)), (2, .int x2), (4, .int x4)]) h0 dX3_phaseIn_88 rfl (Nat.le_of_ble_eq_true rfl) rfl rfl ?_
      refine r_iinc (pc' := 92) (L' := [(4, .int (x4 + 1)), (3, .int ((x3 - t0) - r84)), (5, .int t0), (0, .ref (wA (wC g) 3 k)), (2, .int x2)]) h0 4 dX3_phaseIn_89 rfl ki_1 (Nat.le_of_ble_eq_true rfl) rfl rfl ?_
      refine r_goto (pc' := 15) h0 dX3_phaseIn_92 rfl ?_
      refine r_sub (L' := [(0, .ref (wA (wC g) 3 k)), (2, .int x2), (3, .int ((x3 - t0) - r84)), (4, .int (x4 + 1))]) [3, 4, 1, 0] rfl ?_
      exact kK15 x2 ((x3 - t0) - r84) (x4 + 1) h
    · refine r_iconst (pc' := 76) h0 dX3_phaseIn_75 ki_m1 rfl ?_
      exact r_iretR h0 hE dX3_phaseIn_76 h
  · refine r_iload (pc' := 56) h0 4 dX3_phaseIn_54 rfl rfl ?_
    exact r_iretR h0 hE dX3_phaseIn_56 h
theorem w_X3_phaseIn_15 {g : GC} {X : MX} {r : Int32}  (h0 : CX RX3 cX3_phaseIn 6 rm_X3_phaseIn X (wC g)) (fu : Nat) (k : Nat) (hk : k < 5) (x1 : Int32) (S : Mem) (hE : EN (some .int) (some (.int r)) S X (wC g)) : ∀ (n : Nat) (x2 : Int32) (x3 : Int32) (x4 : Int32), f_X3_phaseIn_15 fu k x1 S n x2 x3 x4 = some r → GV X (wC g) 6 0 0 S [(0, .ref (wA (wC g) 3 k)), (2, .int x2), (3, .int x3), (4, .int x4)] 15 [] := by
  intro n
  induction n with
  | zero =>
    intro x2 x3 x4 h
    exact nomatch (show none = _ from h)
  | succ n ih =>
    intro x2 x3 x4 h
    rw [f_X3_phaseIn_15] at h
    refine r_iload (pc' := 17) h0 3 dX3_phaseIn_15 rfl rfl ?_
    refine r_aload_n (pc' := 18) h0 0 dX3_phaseIn_17 rfl rfl rfl ?_
    refine gf_X3_90 (pc' := 21) h0 hk dX3_phaseIn_18 rfl ?_
    refine r_ic_ge (pt := 95) (pf := 24) h0 dX3_phaseIn_21 rfl rfl h (fun c21 h => ?_) (fun c21 h => ?_)
    · refine r_iconst (pc' := 96) h0 dX3_phaseIn_95 ki_m1 rfl ?_
      exact r_iretR h0 hE dX3_phaseIn_96 h
    · refine r_iload_n (pc' := 25) h0 1 dX3_phaseIn_24 rfl rfl rfl ?_
      refine r_if_eq (pt := 37) (pf := 28) h0 dX3_phaseIn_25 rfl rfl h (fun c25 h => ?_) (fun c25 h => ?_)
      · refine r_aload_n (pc' := 38) h0 0 dX3_phaseIn_37 rfl rfl rfl ?_
        refine gf_X3_21 (pc' := 41) h0 hk dX3_phaseIn_38 rfl ?_
        refine r_iload (pc' := 43) h0 3 dX3_phaseIn_41 rfl rfl ?_
        obtain ⟨r43, h43, h⟩ := b1_some h
        refine go_S (k_X3_82 g) (st2 := [.int r43]) (pc' := 46) [.ref (wA (wC g) 14 k), .int x4] [] h0 (c_X7_read g fu 14 4 k (ia_14 g) hk x4 S h43) rfl rfl dX3_phaseIn_43 rfl (Nat.le_of_ble_eq_true rfl) ⟨rfl, rfl, Nat.le_of_ble_eq_true rfl, Nat.le_of_ble_eq_true rfl⟩ ⟨Nat.le_of_ble_eq_true rfl, Nat.le_of_ble_eq_true rfl⟩ rfl ?_
        exact w_X3_phaseIn_46 h0 fu k hk x1 S hE (f_X3_phaseIn_15 fu k x1 S n) ih x2 x3 x4 r43 h
      · refine r_aload_n (pc' := 29) h0 0 dX3_phaseIn_28 rfl rfl rfl ?_
        refine r_iload (pc' := 31) h0 3 dX3_phaseIn_29 rfl rfl ?_
        obtain ⟨r31, h31, h⟩ := b1_some h
        refine go_V (k_X3_153 g) (st2 := [.int r31]) (pc' := 34) [.int x4] [] h0 hk (c_X3_changedGreen g fu k hk x4 S h31) rfl rfl dX3_phaseIn_31 rfl (Nat.le_of_ble_eq_true rfl) ⟨rfl, rfl, Nat.le_of_ble_eq_true rfl, Nat.le_of_ble_eq_true rfl⟩ ⟨Nat.le_of_ble_eq_true rfl, Nat.le_of_ble_eq_true rfl⟩ rfl ?_
        refine r_goto (pc' := 46) h0 dX3_phaseIn_34 rfl ?_
        exact w_X3_phaseIn_46 h0 fu k hk x1 S hE (f_X3_phaseIn_15 fu k x1 S n) ih x2 x3 x4 r31 h
/-- the machine does what f_X3_phaseIn says -/
theorem c_X3_phaseIn (g : GC) (fu : Nat) (k : Nat) (hk : k < 5) (x1 : Int32) (S : Mem) {r : Int32}  (h : f_X3_phaseIn fu k x1 S = some r) : ctN yX3_phaseIn cX3_phaseIn 6 (some .int) rm_X3_phaseIn (wC g) [.ref (wA (wC g) 3 k), .int x1] S (some (.int r)) S := by
  refine ct_of (own := RX3) (L := [(0, .ref (wA (wC g) 3 k)), (1, .int x1)]) (by decide +kernel) rfl (Nat.le_of_ble_eq_true rfl) rfl (fun X h0 hE => ?_)
  rw [f_X3_phaseIn] at h
  refine r_aload_n (pc' := 1) h0 0 dX3_phaseIn_0 rfl rfl rfl ?_
  refine r_iload_n (pc' := 2) h0 1 dX3_phaseIn_1 rfl rfl rfl ?_
  obtain ⟨r2, h2, h⟩ := b1_some h
  refine go_V (k_X3_147 g) (st2 := [.int r2]) (pc' := 5) [.int x1] [] h0 hk (c_X3_hasBusIn g fu k hk x1 S h2) rfl rfl dX3_phaseIn_2 rfl (Nat.le_of_ble_eq_true rfl) ⟨rfl, rfl, Nat.le_of_ble_eq_true rfl, Nat.le_of_ble_eq_true rfl⟩ ⟨Nat.le_of_ble_eq_true rfl, Nat.le_of_ble_eq_true rfl⟩ rfl ?_
  refine r_istore_n (pc' := 6) (L' := [(2, .int r2), (0, .ref (wA (wC g) 3 k)), (1, .int x1)]) h0 dX3_phaseIn_5 rfl (Nat.le_of_ble_eq_true rfl) rfl rfl ?_
  refine r_aload_n (pc' := 7) h0 1 dX3_phaseIn_6 rfl rfl rfl ?_
  refine r_iload_n (pc' := 8) h0 2 dX3_phaseIn_7 rfl rfl rfl ?_
  obtain ⟨r8, h8, h⟩ := b1_some h
  refine go_V (k_X3_150 g) (st2 := [.int r8]) (pc' := 11) [.int x1] [] h0 hk (c_X3_placeInCycle g fu k hk x1 S h8) rfl rfl dX3_phaseIn_8 rfl (Nat.le_of_ble_eq_true rfl) ⟨rfl, rfl, Nat.le_of_ble_eq_true rfl, Nat.le_of_ble_eq_true rfl⟩ ⟨Nat.le_of_ble_eq_true rfl, Nat.le_of_ble_eq_true rfl⟩ rfl ?_
  refine r_istore_n (pc' := 12) (L' := [(3, .int r8), (2, .int r2), (0, .ref (wA (wC g) 3 k)), (1, .int x1)]) h0 dX3_phaseIn_11 rfl (Nat.le_of_ble_eq_true rfl) rfl rfl ?_
  refine r_iconst (pc' := 13) h0 dX3_phaseIn_12 ki_0 rfl ?_
  refine r_istore (pc' := 15) (L' := [(4, .int 0), (3, .int r8), (2, .int r2), (0, .ref (wA (wC g) 3 k)), (1, .int x1)]) h0 dX3_phaseIn_13 (Nat.le_of_ble_eq_true rfl) rfl rfl ?_
  refine r_sub (L' := [(0, .ref (wA (wC g) 3 k)), (2, .int r2), (3, .int r8), (4, .int 0)]) [3, 2, 1, 0] rfl ?_
  exact w_X3_phaseIn_15 h0 fu k hk x1 S hE fu r2 r8 0 h
theorem w_X3_lowestPhaseWith_2 {g : GC} {X : MX} {r : Int32}  (h0 : CX RX3 cX3_lowestPhaseWith 3 rm_X3_lowestPhaseWith X (wC g)) (fu : Nat) (k : Nat) (hk : k < 5) (x1 : Int32) (S : Mem) (hE : EN (some .int) (some (.int r)) S X (wC g)) : ∀ (n : Nat) (x2 : Int32), f_X3_lowestPhaseWith_2 fu k x1 S n x2 = some r → GV X (wC g) 3 0 0 S [(0, .ref (wA (wC g) 3 k)), (1, .int x1), (2, .int x2)] 2 [] := by
  intro n
  induction n with
  | zero =>
    intro x2 h
    exact nomatch (show none = _ from h)
  | succ n ih =>
    intro x2 h
    rw [f_X3_lowestPhaseWith_2] at h
    refine r_iload_n (pc' := 3) h0 2 dX3_lowestPhaseWith_2 rfl rfl rfl ?_
    refine r_aload_n (pc' := 4) h0 0 dX3_lowestPhaseWith_3 rfl rfl rfl ?_
    refine gf_X3_90 (pc' := 7) h0 hk dX3_lowestPhaseWith_4 rfl ?_
    refine r_ic_ge (pt := 33) (pf := 10) h0 dX3_lowestPhaseWith_7 rfl rfl h (fun c7 h => ?_) (fun c7 h => ?_)
    · refine r_iconst (pc' := 34) h0 dX3_lowestPhaseWith_33 ki_m1 rfl ?_
      exact r_iretR h0 hE dX3_lowestPhaseWith_34 h
    · refine r_aload_n (pc' := 11) h0 0 dX3_lowestPhaseWith_10 rfl rfl rfl ?_
      refine gf_X3_15 (pc' := 14) h0 hk dX3_lowestPhaseWith_11 rfl ?_
      refine r_iload_n (pc' := 15) h0 2 dX3_lowestPhaseWith_14 rfl rfl rfl ?_
      obtain ⟨r15, h15, h⟩ := b1_some h
      refine go_S (k_X3_82 g) (st2 := [.int r15]) (pc' := 18) [.ref (wA (wC g) 12 k), .int x2] [] h0 (c_X7_read g fu 12 4 k (ia_12 g) hk x2 S h15) rfl rfl dX3_lowestPhaseWith_15 rfl (Nat.le_of_ble_eq_true rfl) ⟨rfl, rfl, Nat.le_of_ble_eq_true rfl, Nat.le_of_ble_eq_true rfl⟩ ⟨Nat.le_of_ble_eq_true rfl, Nat.le_of_ble_eq_true rfl⟩ rfl ?_
      refine r_iload_n (pc' := 19) h0 1 dX3_lowestPhaseWith_18 rfl rfl rfl ?_
      obtain ⟨r19, h19, h⟩ := b1_some h
      refine go_S (k_X3_93 g) (st2 := [.int r19]) (pc' := 22) [.int r15, .int x1] [] h0 (c_X7_hasBit g fu r15 x1 S h19) rfl rfl dX3_lowestPhaseWith_19 rfl (Nat.le_of_ble_eq_true rfl) ⟨rfl, rfl, Nat.le_of_ble_eq_true rfl, Nat.le_of_ble_eq_true rfl⟩ ⟨Nat.le_of_ble_eq_true rfl, Nat.le_of_ble_eq_true rfl⟩ rfl ?_
      refine r_if_eq (pt := 27) (pf := 25) h0 dX3_lowestPhaseWith_22 rfl rfl h (fun c22 h => ?_) (fun c22 h => ?_)
      · refine r_iinc (pc' := 30) (L' := [(2, .int (x2 + 1)), (0, .ref (wA (wC g) 3 k)), (1, .int x1)]) h0 2 dX3_lowestPhaseWith_27 rfl ki_1 (Nat.le_of_ble_eq_true rfl) rfl rfl ?_
        refine r_goto (pc' := 2) h0 dX3_lowestPhaseWith_30 rfl ?_
        refine r_sub (L' := [(0, .ref (wA (wC g) 3 k)), (1, .int x1), (2, .int (x2 + 1))]) [1, 2, 0] rfl ?_
        exact ih (x2 + 1) h
      · refine r_iload_n (pc' := 26) h0 2 dX3_lowestPhaseWith_25 rfl rfl rfl ?_
        exact r_iretR h0 hE dX3_lowestPhaseWith_26 h
/-- the machine does what f_X3_lowestPhaseWith says -/
theorem c_X3_lowestPhaseWith (g : GC) (fu : Nat) (k : Nat) (hk : k < 5) (x1 : Int32) (S : Mem) {r : Int32}  (h : f_X3_lowestPhaseWith fu k x1 S = some r) : ctN yX3_lowestPhaseWith cX3_lowestPhaseWith 3 (some .int) rm_X3_lowestPhaseWith (wC g) [.ref (wA (wC g) 3 k), .int x1] S (some (.int r)) S := by
  refine ct_of (own := RX3) (L := [(0, .ref (wA (wC g) 3 k)), (1, .int x1)]) (by decide +kernel) rfl (Nat.le_of_ble_eq_true rfl) rfl (fun X h0 hE => ?_)
  rw [f_X3_lowestPhaseWith] at h
  refine r_iconst (pc' := 1) h0 dX3_lowestPhaseWith_0 ki_0 rfl ?_
  refine r_istore_n (pc' := 2) (L' := [(2, .int 0), (0, .ref (wA (wC g) 3 k)), (1, .int x1)]) h0 dX3_lowestPhaseWith_1 rfl (Nat.le_of_ble_eq_true rfl) rfl rfl ?_
  refine r_sub (L' := [(0, .ref (wA (wC g) 3 k)), (1, .int x1), (2, .int 0)]) [1, 2, 0] rfl ?_
  exact w_X3_lowestPhaseWith_2 h0 fu k hk x1 S hE fu 0 h
/-- the machine does what f_X3_spareGreen says -/
theorem c_X3_spareGreen (g : GC) (fu : Nat) (k : Nat) (hk : k < 5) (x1 : Int32) (S : Mem) {r : Int32}  (h : f_X3_spareGreen fu k x1 S = some r) : ctN yX3_spareGreen cX3_spareGreen 2 (some .int) rm_X3_spareGreen (wC g) [.ref (wA (wC g) 3 k), .int x1] S (some (.int r)) S := by
  refine ct_of (own := RX3) (L := [(0, .ref (wA (wC g) 3 k)), (1, .int x1)]) (by decide +kernel) rfl (Nat.le_of_ble_eq_true rfl) rfl (fun X h0 hE => ?_)
  rw [f_X3_spareGreen] at h
  refine r_aload_n (pc' := 1) h0 0 dX3_spareGreen_0 rfl rfl rfl ?_
  refine gf_X3_21 (pc' := 4) h0 hk dX3_spareGreen_1 rfl ?_
  refine r_iload_n (pc' := 5) h0 1 dX3_spareGreen_4 rfl rfl rfl ?_
  obtain ⟨r5, h5, h⟩ := b1_some h
  refine go_S (k_X3_82 g) (st2 := [.int r5]) (pc' := 8) [.ref (wA (wC g) 14 k), .int x1] [] h0 (c_X7_read g fu 14 4 k (ia_14 g) hk x1 S h5) rfl rfl dX3_spareGreen_5 rfl (Nat.le_of_ble_eq_true rfl) ⟨rfl, rfl, Nat.le_of_ble_eq_true rfl, Nat.le_of_ble_eq_true rfl⟩ ⟨Nat.le_of_ble_eq_true rfl, Nat.le_of_ble_eq_true rfl⟩ rfl ?_
  refine r_aload_n (pc' := 9) h0 0 dX3_spareGreen_8 rfl rfl rfl ?_
  refine r_iload_n (pc' := 10) h0 1 dX3_spareGreen_9 rfl rfl rfl ?_
  obtain ⟨r10, h10, h⟩ := b1_some h
  refine go_V (k_X3_109 g) (st2 := [.int r10, .int r5]) (pc' := 13) [.int x1] [.int r5] h0 hk (c_X3_leastGreen g fu k hk x1 S h10) rfl rfl dX3_spareGreen_10 rfl (Nat.le_of_ble_eq_true rfl) ⟨rfl, rfl, Nat.le_of_ble_eq_true rfl, Nat.le_of_ble_eq_true rfl⟩ ⟨Nat.le_of_ble_eq_true rfl, Nat.le_of_ble_eq_true rfl⟩ rfl ?_
  refine r_isub (pc' := 14) h0 dX3_spareGreen_13 rfl ?_
  exact r_iretR h0 hE dX3_spareGreen_14 h
