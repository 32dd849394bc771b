theorem w_X1_at_30 {g : GC} {X : MX} {r : Nat}  (h0 : CX RX1 cX1_at 2 rm_X1_at X (wC g)) (fu : Nat) (x1 : Int32) (S : Mem) (hE : EN (some (.object "Greenwave$Junction")) (some (.ref (wA (wC g) 3 r))) S X (wC g)) : f_X1_at_30 fu x1 S = some r → GV X (wC g) 2 0 0 S [] 30 [] := by
  intro  h
  rw [f_X1_at_30] at h
  exact nomatch h
/-- the machine does what f_X1_at says -/
theorem c_X1_at (g : GC) (fu : Nat) (x1 : Int32) (S : Mem) {r : Nat}  (h : f_X1_at fu x1 S = some r) : ctN yX1_at cX1_at 2 (some (.object "Greenwave$Junction")) rm_X1_at (wC g) [.ref (wA (wC g) 1 0), .int x1] S (some (.ref (wA (wC g) 3 r))) S := by
  refine ct_of (own := RX1) (L := [(0, .ref (wA (wC g) 1 0)), (1, .int x1)]) (by decide +kernel) rfl (Nat.le_of_ble_eq_true rfl) rfl (fun X h0 hE => ?_)
  rw [f_X1_at] at h
  refine r_iload_n (pc' := 1) h0 1 dX1_at_0 rfl rfl rfl ?_
  refine r_if_lt (pt := 30) (pf := 4) h0 dX1_at_1 rfl rfl h (fun c1 h => ?_) (fun c1 h => ?_)
  · refine r_sub (L' := []) [] rfl ?_
    exact w_X1_at_30 h0 fu x1 S hE h
  · refine r_iload_n (pc' := 5) h0 1 dX1_at_4 rfl rfl rfl ?_
    refine r_aload_n (pc' := 6) h0 0 dX1_at_5 rfl rfl rfl ?_
    refine gf_X1_18 (pc' := 9) h0 (Nat.le_of_ble_eq_true rfl) dX1_at_6 rfl ?_
    refine r_ic_ge (pt := 30) (pf := 12) h0 dX1_at_9 rfl rfl h (fun c9 h => ?_) (fun c9 h => ?_)
    · refine r_sub (L' := []) [] rfl ?_
      exact w_X1_at_30 h0 fu x1 S hE h
    · refine r_iload_n (pc' := 13) h0 1 dX1_at_12 rfl rfl rfl ?_
      refine r_aload_n (pc' := 14) h0 0 dX1_at_13 rfl rfl rfl ?_
      refine gf_X1_11 (pc' := 17) h0 (Nat.le_of_ble_eq_true rfl) dX1_at_14 rfl ?_
      refine r_alen (pc' := 18) (v := nI 5) h0 1 (Nat.le_of_ble_eq_true rfl) rfl rfl rfl dX1_at_17 rfl ?_
      refine r_ic_ge (pt := 30) (pf := 21) h0 dX1_at_18 rfl rfl h (fun c18 h => ?_) (fun c18 h => ?_)
      · refine r_sub (L' := []) [] rfl ?_
        exact w_X1_at_30 h0 fu x1 S hE h
      · refine r_aload_n (pc' := 22) h0 0 dX1_at_21 rfl rfl rfl ?_
        refine gf_X1_11 (pc' := 25) h0 (Nat.le_of_ble_eq_true rfl) dX1_at_22 rfl ?_
        refine r_iload_n (pc' := 26) h0 1 dX1_at_25 rfl rfl rfl ?_
        refine r_aald (pc' := 27) (cq := 3) h0 1 (Nat.le_of_ble_eq_true rfl) rfl rfl dX1_at_26 rfl h (fun h hj26 => ?_)
        refine r_ifnonnull (pt := 40) h0 dX1_at_27 rfl ?_
        refine r_aload_n (pc' := 41) h0 0 dX1_at_40 rfl rfl rfl ?_
        refine gf_X1_11 (pc' := 44) h0 (Nat.le_of_ble_eq_true rfl) dX1_at_41 rfl ?_
        refine r_iload_n (pc' := 45) h0 1 dX1_at_44 rfl rfl rfl ?_
        refine r_aald (pc' := 46) (cq := 3) h0 1 (Nat.le_of_ble_eq_true rfl) rfl rfl dX1_at_45 rfl h (fun h hj45 => ?_)
        exact r_aretR h0 hE dX1_at_46 h
theorem w_X1_secondsBetween_5 {g : GC} {X : MX} {r : Int32}  (h0 : CX RX1 cX1_secondsBetween 5 rm_X1_secondsBetween X (wC g)) (fu : Nat) (x1 : Int32) (x2 : Int32) (S : Mem) (hE : EN (some .int) (some (.int r)) S X (wC g)) : ∀ (n : Nat) (x3 : Int32) (x4 : Int32), f_X1_secondsBetween_5 fu x1 x2 S n x3 x4 = some r → GV X (wC g) 5 0 0 S [(0, .ref (wA (wC g) 1 0)), (2, .int x2), (3, .int x3), (4, .int x4)] 5 [] := by
  intro n
  induction n with
  | zero =>
    intro x3 x4 h
    exact nomatch (show none = _ from h)
  | succ n ih =>
    intro x3 x4 h
    rw [f_X1_secondsBetween_5] at h
    refine r_iload (pc' := 7) h0 3 dX1_secondsBetween_5 rfl rfl ?_
    refine r_iload_n (pc' := 8) h0 1 dX1_secondsBetween_7 rfl rfl rfl ?_
    refine r_ic_ge (pt := 32) (pf := 11) h0 dX1_secondsBetween_8 rfl rfl h (fun c8 h => ?_) (fun c8 h => ?_)
    · refine r_iload_n (pc' := 33) h0 2 dX1_secondsBetween_32 rfl rfl rfl ?_
      exact r_iretR h0 hE dX1_secondsBetween_33 h
    · refine r_iload_n (pc' := 12) h0 2 dX1_secondsBetween_11 rfl rfl rfl ?_
      refine r_aload_n (pc' := 13) h0 0 dX1_secondsBetween_12 rfl rfl rfl ?_
      refine r_iload (pc' := 15) h0 3 dX1_secondsBetween_13 rfl rfl ?_
      obtain ⟨r15, h15, h⟩ := b1_some h
      refine go_V (k_X1_25 g) (st2 := [.ref (wA (wC g) 3 r15), .int x3]) (pc' := 18) [.int x4] [.int x3] h0 (Nat.le_of_ble_eq_true rfl) (c_X1_at g fu x4 S h15) rfl rfl dX1_secondsBetween_15 rfl (Nat.le_of_ble_eq_true rfl) ⟨rfl, rfl, Nat.le_of_ble_eq_true rfl, Nat.le_of_ble_eq_true rfl⟩ ⟨Nat.le_of_ble_eq_true rfl, Nat.le_of_ble_eq_true rfl⟩ rfl ?_
      refine gf_X1_46 (pc' := 21) h0 (b_X1_at h15) dX1_secondsBetween_18 rfl ?_
      refine gf_X1_62 (pc' := 24) h0 (b_X1_at h15) dX1_secondsBetween_21 rfl ?_
      refine r_iadd (pc' := 25) h0 dX1_secondsBetween_24 rfl ?_
      refine r_istore_n (pc' := 26) (L' := [(3, .int (x3 + (S.1 4 r15 1))), (0, .ref (wA (wC g) 1 0)), (2, .int x2), (4, .int x4)]) h0 dX1_secondsBetween_25 rfl (Nat.le_of_ble_eq_true rfl) rfl rfl ?_
      refine r_iinc (pc' := 29) (L' := [(4, .int (x4 + 1)), (3, .int (x3 + (S.1 4 r15 1))), (0, .ref (wA (wC g) 1 0)), (2, .int x2)]) h0 3 dX1_secondsBetween_26 rfl ki_1 (Nat.le_of_ble_eq_true rfl) rfl rfl ?_
      refine r_goto (pc' := 5) h0 dX1_secondsBetween_29 rfl ?_
      refine r_sub (L' := [(0, .ref (wA (wC g) 1 0)), (2, .int x2), (3, .int (x3 + (S.1 4 r15 1))), (4, .int (x4 + 1))]) [2, 3, 1, 0] rfl ?_
      exact ih (x3 + (S.1 4 r15 1)) (x4 + 1) h
/-- the machine does what f_X1_secondsBetween says -/
theorem c_X1_secondsBetween (g : GC) (fu : Nat) (x1 : Int32) (x2 : Int32) (S : Mem) {r : Int32}  (h : f_X1_secondsBetween fu x1 x2 S = some r) : ctN yX1_secondsBetween cX1_secondsBetween 5 (some .int) rm_X1_secondsBetween (wC g) [.ref (wA (wC g) 1 0), .int x1, .int x2] S (some (.int r)) S := by
  refine ct_of (own := RX1) (L := [(0, .ref (wA (wC g) 1 0)), (1, .int x1), (2, .int x2)]) (by decide +kernel) rfl (Nat.le_of_ble_eq_true rfl) rfl (fun X h0 hE => ?_)
  rw [f_X1_secondsBetween] at h
  refine r_iconst (pc' := 1) h0 dX1_secondsBetween_0 ki_0 rfl ?_
  refine r_istore_n (pc' := 2) (L' := [(3, .int 0), (0, .ref (wA (wC g) 1 0)), (1, .int x1), (2, .int x2)]) h0 dX1_secondsBetween_1 rfl (Nat.le_of_ble_eq_true rfl) rfl rfl ?_
  refine r_iload_n (pc' := 3) h0 2 dX1_secondsBetween_2 rfl rfl rfl ?_
  refine r_istore (pc' := 5) (L' := [(4, .int x1), (3, .int 0), (0, .ref (wA (wC g) 1 0)), (1, .int x1), (2, .int x2)]) h0 dX1_secondsBetween_3 (Nat.le_of_ble_eq_true rfl) rfl rfl ?_
  refine r_sub (L' := [(0, .ref (wA (wC g) 1 0)), (2, .int x2), (3, .int 0), (4, .int x1)]) [2, 4, 1, 0] rfl ?_
  exact w_X1_secondsBetween_5 h0 fu x1 x2 S hE fu 0 x1 h
/-- the machine does what f_X5_clear says -/
theorem c_X5_clear (g : GC) (fu : Nat) (k : Nat) (hk : k < 8) (S : Mem) {S' : Mem} (h : f_X5_clear fu k S = some ((), S')) : ctN yX5_clear cX5_clear 1 none rm_X5_clear (wC g) [.ref (wA (wC g) 5 k)] S none S' := by
  refine ct_of (own := RX5) (L := [(0, .ref (wA (wC g) 5 k))]) (by decide +kernel) rfl (Nat.le_of_ble_eq_true rfl) rfl (fun X h0 hE => ?_)
  rw [f_X5_clear] at h
  refine r_aload_n (pc' := 1) h0 0 dX5_clear_0 rfl rfl rfl ?_
  refine r_lconst (pc' := 2) (v := 0) h0 dX5_clear_1 rfl rfl ?_
  refine pf_X5_7 (pc' := 5) h0 hk dX5_clear_2 rfl ?_
  refine r_aload_n (pc' := 6) h0 0 dX5_clear_5 rfl rfl rfl ?_
  refine r_lconst (pc' := 7) (v := 0) h0 dX5_clear_6 rfl rfl ?_
  refine pf_X5_13 (pc' := 10) h0 hk dX5_clear_7 rfl ?_
  exact r_vret h0 hE dX5_clear_10 h
/-- the machine does what f_X2_clear says -/
theorem c_X2_clear (g : GC) (fu : Nat) (k : Nat) (hk : k < 4) (S : Mem) {S' : Mem} (h : f_X2_clear fu k S = some ((), S')) : ctN yX2_clear cX2_clear 1 none rm_X2_clear (wC g) [.ref (wA (wC g) 2 k)] S none S' := by
  refine ct_of (own := RX2) (L := [(0, .ref (wA (wC g) 2 k))]) (by decide +kernel) rfl (Nat.le_of_ble_eq_true rfl) rfl (fun X h0 hE => ?_)
  rw [f_X2_clear] at h
  refine r_aload_n (pc' := 1) h0 0 dX2_clear_0 rfl rfl rfl ?_
  refine gf_X2_10 (pc' := 4) h0 hk dX2_clear_1 rfl ?_
  obtain ⟨r4, S4, h4, h⟩ := b2_some h
  refine go_V (k_X2_19 g) (st2 := []) (pc' := 7) [] [] h0 (lt8a hk) (c_X5_clear g fu (2 * k) (lt8a hk) S h4) rfl rfl dX2_clear_4 rfl (Nat.le_of_ble_eq_true rfl) ⟨rfl, rfl, Nat.le_of_ble_eq_true rfl, Nat.le_of_ble_eq_true rfl⟩ ⟨Nat.le_of_ble_eq_true rfl, Nat.le_of_ble_eq_true rfl⟩ rfl ?_
  refine r_aload_n (pc' := 8) h0 0 dX2_clear_7 rfl rfl rfl ?_
  refine gf_X2_16 (pc' := 11) h0 hk dX2_clear_8 rfl ?_
  obtain ⟨r11, S11, h11, h⟩ := b2_some h
  refine go_V (k_X2_19 g) (st2 := []) (pc' := 14) [] [] h0 (lt8b hk) (c_X5_clear g fu (2 * k + 1) (lt8b hk) S4 h11) rfl rfl dX2_clear_11 rfl (Nat.le_of_ble_eq_true rfl) ⟨rfl, rfl, Nat.le_of_ble_eq_true rfl, Nat.le_of_ble_eq_true rfl⟩ ⟨Nat.le_of_ble_eq_true rfl, Nat.le_of_ble_eq_true rfl⟩ rfl ?_
  exact r_vret h0 hE dX2_clear_14 h
theorem w_X7_modulo_21 {g : GC} {X : MX} {r : Int32}  (h0 : CX RX7 cX7_modulo 3 rm_X7_modulo X (wC g)) (fu : Nat) (x0 : Int32) (x1 : Int32) (S : Mem) (hE : EN (some .int) (some (.int r)) S X (wC g)) : ∀ (t0 : Int32), f_X7_modulo_21 fu x0 x1 S t0 = some r → GV X (wC g) 3 0 0 S [] 21 [.int t0] := by
  intro t0 h
  rw [f_X7_modulo_21] at h
  exact r_iretR h0 hE dX7_modulo_21 h
/-- the machine does what f_X7_modulo says -/
theorem c_X7_modulo (g : GC) (fu : Nat) (x0 : Int32) (x1 : Int32) (S : Mem) {r : Int32}  (h : f_X7_modulo fu x0 x1 S = some r) : ctN yX7_modulo cX7_modulo 3 (some .int) rm_X7_modulo (wC g) [.int x0, .int x1] S (some (.int r)) S := by
  refine ct_of (own := RX7) (L := [(0, .int x0), (1, .int x1)]) (by decide +kernel) rfl (Nat.le_of_ble_eq_true rfl) rfl (fun X h0 hE => ?_)
  rw [f_X7_modulo] at h
  refine r_iload_n (pc' := 1) h0 1 dX7_modulo_0 rfl rfl rfl ?_
  refine r_if_gt (pt := 6) (pf := 4) h0 dX7_modulo_1 rfl rfl h (fun c1 h => ?_) (fun c1 h => ?_)
  · refine r_iload_n (pc' := 7) h0 0 dX7_modulo_6 rfl rfl rfl ?_
    refine r_iload_n (pc' := 8) h0 1 dX7_modulo_7 rfl rfl rfl ?_
    refine r_irem (pc' := 9) h0 dX7_modulo_8 rfl h (fun h => ?_)
    refine r_istore_n (pc' := 10) (L' := [(2, .int (x0 - x0 / x1 * x1)), (0, .int x0), (1, .int x1)]) h0 dX7_modulo_9 rfl (Nat.le_of_ble_eq_true rfl) rfl rfl ?_
    refine r_iload_n (pc' := 11) h0 0 dX7_modulo_10 rfl rfl rfl ?_
    refine r_if_ge (pt := 20) (pf := 14) h0 dX7_modulo_11 rfl rfl h (fun c11 h => ?_) (fun c11 h => ?_)
    · refine r_iload_n (pc' := 21) h0 0 dX7_modulo_20 rfl rfl rfl ?_
      refine r_sub (L' := []) [] rfl ?_
      exact w_X7_modulo_21 h0 fu x0 x1 S hE (x0 - x0 / x1 * x1) h
    · refine r_iload_n (pc' := 15) h0 0 dX7_modulo_14 rfl rfl rfl ?_
      refine r_iload_n (pc' := 16) h0 2 dX7_modulo_15 rfl rfl rfl ?_
      refine r_iadd (pc' := 17) h0 dX7_modulo_16 rfl ?_
      refine r_goto (pc' := 21) h0 dX7_modulo_17 rfl ?_
      refine r_sub (L' := []) [] rfl ?_
      exact w_X7_modulo_21 h0 fu x0 x1 S hE ((x0 - x0 / x1 * x1) + x1) h
  · refine r_iconst (pc' := 5) h0 dX7_modulo_4 ki_0 rfl ?_
    exact r_iretR h0 hE dX7_modulo_5 h
theorem w_X7_read_17 {g : GC} {X : MX} {r : Int32}  (h0 : CX RX7 cX7_read 2 rm_X7_read X (wC g)) (fu : Nat) (ck len k : Nat) (hia : isIA (wC g) ck len) (hk : k < wN (wC g) ck) (x1 : Int32) (S : Mem) (hE : EN (some .int) (some (.int r)) S X (wC g)) : ∀ (t0 : Int32), f_X7_read_17 fu ck len k x1 S t0 = some r → GV X (wC g) 2 0 0 S [] 17 [.int t0] := by
  intro t0 h
  rw [f_X7_read_17] at h
  exact r_iretR h0 hE dX7_read_17 h
theorem w_X7_read_16 {g : GC} {X : MX} {r : Int32}  (h0 : CX RX7 cX7_read 2 rm_X7_read X (wC g)) (fu : Nat) (ck len k : Nat) (hia : isIA (wC g) ck len) (hk : k < wN (wC g) ck) (x1 : Int32) (S : Mem) (hE : EN (some .int) (some (.int r)) S X (wC g)) : f_X7_read_16 fu ck len k x1 S = some r → GV X (wC g) 2 0 0 S [] 16 [] := by
  intro  h
  rw [f_X7_read_16] at h
  refine r_iconst (pc' := 17) h0 dX7_read_16 ki_0 rfl ?_
  exact w_X7_read_17 h0 fu ck len k hia hk x1 S hE 0 h
/-- the machine does what f_X7_read says -/
theorem c_X7_read (g : GC) (fu : Nat) (ck len k : Nat) (hia : isIA (wC g) ck len) (hk : k < wN (wC g) ck) (x1 : Int32) (S : Mem) {r : Int32}  (h : f_X7_read fu ck len k x1 S = some r) : ctN yX7_read cX7_read 2 (some .int) rm_X7_read (wC g) [.ref (wA (wC g) ck k), .int x1] S (some (.int r)) S := by
  refine ct_of (own := RX7) (L := [(0, .ref (wA (wC g) ck k)), (1, .int x1)]) (by decide +kernel) rfl (Nat.le_of_ble_eq_true rfl) rfl (fun X h0 hE => ?_)
  rw [f_X7_read] at h
  refine r_iload_n (pc' := 1) h0 1 dX7_read_0 rfl rfl rfl ?_
  refine r_if_lt (pt := 16) (pf := 4) h0 dX7_read_1 rfl rfl h (fun c1 h => ?_) (fun c1 h => ?_)
  · refine r_sub (L' := []) [] rfl ?_
    exact w_X7_read_16 h0 fu ck len k hia hk x1 S hE h
  · refine r_iload_n (pc' := 5) h0 1 dX7_read_4 rfl rfl rfl ?_
    refine r_aload_n (pc' := 6) h0 0 dX7_read_5 rfl rfl rfl ?_
    refine r_alenA (pc' := 7) h0 hia hk dX7_read_6 rfl ?_
    refine r_ic_ge (pt := 16) (pf := 10) h0 dX7_read_7 rfl rfl h (fun c7 h => ?_) (fun c7 h => ?_)
    · refine r_sub (L' := []) [] rfl ?_
      exact w_X7_read_16 h0 fu ck len k hia hk x1 S hE h
    · refine r_aload_n (pc' := 11) h0 0 dX7_read_10 rfl rfl rfl ?_
      refine r_iload_n (pc' := 12) h0 1 dX7_read_11 rfl rfl rfl ?_
      refine r_ialdA (pc' := 13) h0 hia hk dX7_read_12 rfl h (fun h => ?_)
      refine r_goto (pc' := 17) h0 dX7_read_13 rfl ?_
      refine r_sub (L' := []) [] rfl ?_
      exact w_X7_read_17 h0 fu ck len k hia hk x1 S hE (S.1 ck k (x1 : Int32).toNatClampNeg) h
theorem w_X7_hasBit_13 {g : GC} {X : MX} {r : Int32}  (h0 : CX RX7 cX7_hasBit 2 rm_X7_hasBit X (wC g)) (fu : Nat) (x0 : Int32) (x1 : Int32) (S : Mem) (hE : EN (some .boolean) (some (.int r)) S X (wC g)) : ∀ (t0 : Int32), f_X7_hasBit_13 fu x0 x1 S t0 = some r → GV X (wC g) 2 0 0 S [] 13 [.int t0] := by
  intro t0 h
  rw [f_X7_hasBit_13] at h
  exact r_zretR h0 hE dX7_hasBit_13 h
/-- the machine does what f_X7_hasBit says -/
theorem c_X7_hasBit (g : GC) (fu : Nat) (x0 : Int32) (x1 : Int32) (S : Mem) {r : Int32}  (h : f_X7_hasBit fu x0 x1 S = some r) : ctN yX7_hasBit cX7_hasBit 2 (some .boolean) rm_X7_hasBit (wC g) [.int x0, .int x1] S (some (.int r)) S := by
  refine ct_of (own := RX7) (L := [(0, .int x0), (1, .int x1)]) (by decide +kernel) rfl (Nat.le_of_ble_eq_true rfl) rfl (fun X h0 hE => ?_)
  rw [f_X7_hasBit] at h
  refine r_iload_n (pc' := 1) h0 0 dX7_hasBit_0 rfl rfl rfl ?_
  refine r_iload_n (pc' := 2) h0 1 dX7_hasBit_1 rfl rfl rfl ?_
  refine r_ishr (pc' := 3) h0 dX7_hasBit_2 rfl ?_
  refine r_iconst (pc' := 4) h0 dX7_hasBit_3 ki_1 rfl ?_
  refine r_iand (pc' := 5) h0 dX7_hasBit_4 rfl ?_
  refine r_if_eq (pt := 12) (pf := 8) h0 dX7_hasBit_5 rfl rfl h (fun c5 h => ?_) (fun c5 h => ?_)
  · refine r_iconst (pc' := 13) h0 dX7_hasBit_12 ki_0 rfl ?_
    refine r_sub (L' := []) [] rfl ?_
    exact w_X7_hasBit_13 h0 fu x0 x1 S hE 0 h
  · refine r_iconst (pc' := 9) h0 dX7_hasBit_8 ki_1 rfl ?_
    refine r_goto (pc' := 13) h0 dX7_hasBit_9 rfl ?_
    refine r_sub (L' := []) [] rfl ?_
    exact w_X7_hasBit_13 h0 fu x0 x1 S hE 1 h
/-- the machine does what f_X3_isLitFrom says -/
theorem c_X3_isLitFrom (g : GC) (fu : Nat) (k : Nat) (hk : k < 5) (x1 : Int32) (x2 : Int32) (x3 : Int32) (S : Mem) {r : Int32}  (h : f_X3_isLitFrom fu k x1 x2 x3 S = some r) : ctN yX3_isLitFrom cX3_isLitFrom 4 (some .boolean) rm_X3_isLitFrom (wC g) [.ref (wA (wC g) 3 k), .int x1, .int x2, .int x3] S (some (.int r)) S := by
  refine ct_of (own := RX3) (L := [(0, .ref (wA (wC g) 3 k)), (1, .int x1), (2, .int x2), (3, .int x3)]) (by decide +kernel) rfl (Nat.le_of_ble_eq_true rfl) rfl (fun X h0 hE => ?_)
  rw [f_X3_isLitFrom] at h
  refine r_aload_n (pc' := 1) h0 0 dX3_isLitFrom_0 rfl rfl rfl ?_
  refine gf_X3_27 (pc' := 4) h0 hk dX3_isLitFrom_1 rfl ?_
  refine r_iload_n (pc' := 5) h0 3 dX3_isLitFrom_4 rfl rfl rfl ?_
  refine r_iload_n (pc' := 6) h0 1 dX3_isLitFrom_5 rfl rfl rfl ?_
  refine r_isub (pc' := 7) h0 dX3_isLitFrom_6 rfl ?_
  refine r_aload_n (pc' := 8) h0 0 dX3_isLitFrom_7 rfl rfl rfl ?_
  refine gf_X3_37 (pc' := 11) h0 hk dX3_isLitFrom_8 rfl ?_
  obtain ⟨r11, h11, h⟩ := b1_some h
  refine go_S (k_X3_134 g) (st2 := [.int r11, .ref (wA (wC g) 16 k)]) (pc' := 14) [.int (x3 - x1), .int (S.1 3 k 8)] [.ref (wA (wC g) 16 k)] h0 (c_X7_modulo g fu (x3 - x1) (S.1 3 k 8) S h11) rfl rfl dX3_isLitFrom_11 rfl (Nat.le_of_ble_eq_true rfl) ⟨rfl, rfl, Nat.le_of_ble_eq_true rfl, Nat.le_of_ble_eq_true rfl⟩ ⟨Nat.le_of_ble_eq_true rfl, Nat.le_of_ble_eq_true rfl⟩ rfl ?_
  obtain ⟨r14, h14, h⟩ := b1_some h
  refine go_S (k_X3_82 g) (st2 := [.int r14]) (pc' := 17) [.ref (wA (wC g) 16 k), .int r11] [] h0 (c_X7_read g fu 16 90 k (ia_16 g) hk r11 S h14) rfl rfl dX3_isLitFrom_14 rfl (Nat.le_of_ble_eq_true rfl) ⟨rfl, rfl, Nat.le_of_ble_eq_true rfl, Nat.le_of_ble_eq_true rfl⟩ ⟨Nat.le_of_ble_eq_true rfl, Nat.le_of_ble_eq_true rfl⟩ rfl ?_
  refine r_iload_n (pc' := 18) h0 2 dX3_isLitFrom_17 rfl rfl rfl ?_
  obtain ⟨r18, h18, h⟩ := b1_some h
  refine go_S (k_X3_93 g) (st2 := [.int r18]) (pc' := 21) [.int r14, .int x2] [] h0 (c_X7_hasBit g fu r14 x2 S h18) rfl rfl dX3_isLitFrom_18 rfl (Nat.le_of_ble_eq_true rfl) ⟨rfl, rfl, Nat.le_of_ble_eq_true rfl, Nat.le_of_ble_eq_true rfl⟩ ⟨Nat.le_of_ble_eq_true rfl, Nat.le_of_ble_eq_true rfl⟩ rfl ?_
  exact r_zretR h0 hE dX3_isLitFrom_21 h
theorem w_X5_add_36 {g : GC} {X : MX} {S' : Mem} (h0 : CX RX5 cX5_add 2 rm_X5_add X (wC g)) (fu : Nat) (k : Nat) (hk : k < 8) (x1 : Int32) (hE : EN none none S' X (wC g)) : ∀ (S : Mem), f_X5_add_36 fu k x1 S = some ((), S') → GV X (wC g) 2 0 0 S [] 36 [] := by
  intro S h
  rw [f_X5_add_36] at h
  exact r_vret h0 hE dX5_add_36 h
/-- the machine does what f_X5_add says -/
theorem c_X5_add (g : GC) (fu : Nat) (k : Nat) (hk : k < 8) (x1 : Int32) (S : Mem) {S' : Mem} (h : f_X5_add fu k x1 S = some ((), S')) : ctN yX5_add cX5_add 2 none rm_X5_add (wC g) [.ref (wA (wC g) 5 k), .int x1] S none S' := by
  refine ct_of (own := RX5) (L := [(0, .ref (wA (wC g) 5 k)), (1, .int x1)]) (by decide +kernel) rfl (Nat.le_of_ble_eq_true rfl) rfl (fun X h0 hE => ?_)
  rw [f_X5_add] at h
  refine r_iload_n (pc' := 1) h0 1 dX5_add_0 rfl rfl rfl ?_
  refine r_bipush (pc' := 3) h0 dX5_add_1 kb_64 rfl ?_
  refine r_ic_ge (pt := 21) (pf := 6) h0 dX5_add_3 rfl rfl h (fun c3 h => ?_) (fun c3 h => ?_)
  · refine r_aload_n (pc' := 22) h0 0 dX5_add_21 rfl rfl rfl ?_
    refine r_dup (pc' := 23) h0 dX5_add_22 rfl rfl ?_
    refine gf_X5_13 (pc' := 26) h0 hk dX5_add_23 rfl ?_
    refine r_lconst (pc' := 27) (v := 1) h0 dX5_add_26 rfl rfl ?_
    refine r_iload_n (pc' := 28) h0 1 dX5_add_27 rfl rfl rfl ?_
    refine r_bipush (pc' := 30) h0 dX5_add_28 kb_64 rfl ?_
    refine r_isub (pc' := 31) h0 dX5_add_30 rfl ?_
    refine r_lshl (pc' := 32) h0 dX5_add_31 rfl ?_
    refine r_lor (pc' := 33) h0 dX5_add_32 rfl ?_
    refine pf_X5_13 (pc' := 36) h0 hk dX5_add_33 rfl ?_
    refine r_sub (L' := []) [] rfl ?_
    exact w_X5_add_36 h0 fu k hk x1 hE (wL S 5 k 1 ((S.2 5 k 1) ||| ((1 : Int64) <<< (((x1 - 64) : Int32).toInt64 &&& 63)))) h
  · refine r_aload_n (pc' := 7) h0 0 dX5_add_6 rfl rfl rfl ?_
    refine r_dup (pc' := 8) h0 dX5_add_7 rfl rfl ?_
    refine gf_X5_7 (pc' := 11) h0 hk dX5_add_8 rfl ?_
    refine r_lconst (pc' := 12) (v := 1) h0 dX5_add_11 rfl rfl ?_
    refine r_iload_n (pc' := 13) h0 1 dX5_add_12 rfl rfl rfl ?_
    refine r_lshl (pc' := 14) h0 dX5_add_13 rfl ?_
    refine r_lor (pc' := 15) h0 dX5_add_14 rfl ?_
    refine pf_X5_7 (pc' := 18) h0 hk dX5_add_15 rfl ?_
    refine r_goto (pc' := 36) h0 dX5_add_18 rfl ?_
    refine r_sub (L' := []) [] rfl ?_
    exact w_X5_add_36 h0 fu k hk x1 hE (wL S 5 k 0 ((S.2 5 k 0) ||| ((1 : Int64) <<< ((x1 : Int32).toInt64 &&& 63)))) h
theorem w_X0_fillFrom_107 {g : GC} {X : MX} {S' : Mem} (h0 : CX RX0 cX0_fillFrom 8 rm_X0_fillFrom X (wC g)) (fu : Nat) (x1 : Int32) (x2 : Int32) (i3 : Nat) (hi3 : i3 < 4) (hE : EN none none S' X (wC g)) (K47 : Nat → Int32 → Int32 → Int32 → Mem → Option (Unit × Mem)) (kK47 : ∀ (x4 : Nat) (hx4 : x4 < 5) (x5 : Int32) (x6 : Int32) (x7 : Int32) (S : Mem), K47 x4 x5 x6 x7 S = some ((), S') → GV X (wC g) 8 0 0 S [(0, .ref (wA (wC g) 0 0)), (2, .int x2), (3, .ref (wA (wC g) 2 i3)), (4, .ref (wA (wC g) 3 x4)), (5, .int x5), (6, .int x6), (7, .int x7)] 47 []) : ∀ (x4 : Nat) (hx4 : x4 < 5) (x5 : Int32) (x6 : Int32) (x7 : Int32) (S : Mem), f_X0_fillFrom_107 fu K47 x1 x2 i3 x4 x5 x6 x7 S = some ((), S') → GV X (wC g) 8 0 0 S [(0, .ref (wA (wC g) 0 0)), (2, .int x2), (3, .ref (wA (wC g) 2 i3)), (4, .ref (wA (wC g) 3 x4)), (5, .int x5), (6, .int x6), (7, .int x7)] 107 [] := by
  intro x4 hx4 x5 x6 x7 S h
  rw [f_X0_fillFrom_107] at h
  refine r_iinc (pc' := 110) (L' := [(7, .int (x7 + 1)), (0, .ref (wA (wC g) 0 0)), (2, .int x2), (3, .ref (wA (wC g) 2 i3)), (4, .ref (wA (wC g) 3 x4)), (5, .int x5), (6, .int x6)]) h0 6 dX0_fillFrom_107 rfl ki_1 (Nat.le_of_ble_eq_true rfl) rfl rfl ?_
  refine r_goto (pc' := 47) h0 dX0_fillFrom_110 rfl ?_
  refine r_sub (L' := [(0, .ref (wA (wC g) 0 0)), (2, .int x2), (3, .ref (wA (wC g) 2 i3)), (4, .ref (wA (wC g) 3 x4)), (5, .int x5), (6, .int x6), (7, .int (x7 + 1))]) [1, 2, 3, 4, 5, 6, 0] rfl ?_
  exact kK47 x4 hx4 x5 x6 (x7 + 1) S h
theorem w_X0_fillFrom_83 {g : GC} {X : MX} {S' : Mem} (h0 : CX RX0 cX0_fillFrom 8 rm_X0_fillFrom X (wC g)) (fu : Nat) (x1 : Int32) (x2 : Int32) (i3 : Nat) (hi3 : i3 < 4) (hE : EN none none S' X (wC g)) (K47 : Nat → Int32 → Int32 → Int32 → Mem → Option (Unit × Mem)) (kK47 : ∀ (x4 : Nat) (hx4 : x4 < 5) (x5 : Int32) (x6 : Int32) (x7 : Int32) (S : Mem), K47 x4 x5 x6 x7 S = some ((), S') → GV X (wC g) 8 0 0 S [(0, .ref (wA (wC g) 0 0)), (2, .int x2), (3, .ref (wA (wC g) 2 i3)), (4, .ref (wA (wC g) 3 x4)), (5, .int x5), (6, .int x6), (7, .int x7)] 47 []) : ∀ (x4 : Nat) (hx4 : x4 < 5) (x5 : Int32) (x6 : Int32) (x7 : Int32) (S : Mem), f_X0_fillFrom_83 fu K47 x1 x2 i3 x4 x5 x6 x7 S = some ((), S') → GV X (wC g) 8 0 0 S [(0, .ref (wA (wC g) 0 0)), (2, .int x2), (3, .ref (wA (wC g) 2 i3)), (4, .ref (wA (wC g) 3 x4)), (5, .int x5), (6, .int x6), (7, .int x7)] 83 [] := by
  intro x4 hx4 x5 x6 x7 S h
  rw [f_X0_fillFrom_83] at h
  refine r_aload (pc' := 85) h0 3 dX0_fillFrom_83 rfl rfl ?_
  refine r_iload_n (pc' := 86) h0 1 dX0_fillFrom_85 rfl rfl rfl ?_
  refine r_iconst (pc' := 87) h0 dX0_fillFrom_86 ki_1 rfl ?_
  refine r_iload (pc' := 89) h0 6 dX0_fillFrom_87 rfl rfl ?_
  refine r_iload (pc' := 91) h0 5 dX0_fillFrom_89 rfl rfl ?_
  refine r_iadd (pc' := 92) h0 dX0_fillFrom_91 rfl ?_
  obtain ⟨r92, h92, h⟩ := b1_some h
  refine go_V (k_X0_51 g) (st2 := [.int r92]) (pc' := 95) [.int x2, .int 1, .int (x7 + x6)] [] h0 hx4 (c_X3_isLitFrom g fu x4 hx4 x2 1 (x7 + x6) S h92) rfl rfl dX0_fillFrom_92 rfl (Nat.le_of_ble_eq_true rfl) ⟨rfl, rfl, Nat.le_of_ble_eq_true rfl, Nat.le_of_ble_eq_true rfl⟩ ⟨Nat.le_of_ble_eq_true rfl, Nat.le_of_ble_eq_true rfl⟩ rfl ?_
  refine r_if_eq (pt := 107) (pf := 98) h0 dX0_fillFrom_95 rfl rfl h (fun c95 h => ?_) (fun c95 h => ?_)
  · exact w_X0_fillFrom_107 h0 fu x1 x2 i3 hi3 hE K47 kK47 x4 hx4 x5 x6 x7 S h
  · refine r_aload_n (pc' := 99) h0 2 dX0_fillFrom_98 rfl rfl rfl ?_
    refine gf_X0_67 (pc' := 102) h0 hi3 dX0_fillFrom_99 rfl ?_
    refine r_iload (pc' := 104) h0 6 dX0_fillFrom_102 rfl rfl ?_
    obtain ⟨r104, S104, h104, h⟩ := b2_some h
    refine go_V (k_X0_61 g) (st2 := []) (pc' := 107) [.int x7] [] h0 (lt8b hi3) (c_X5_add g fu (2 * i3 + 1) (lt8b hi3) x7 S h104) rfl rfl dX0_fillFrom_104 rfl (Nat.le_of_ble_eq_true rfl) ⟨rfl, rfl, Nat.le_of_ble_eq_true rfl, Nat.le_of_ble_eq_true rfl⟩ ⟨Nat.le_of_ble_eq_true rfl, Nat.le_of_ble_eq_true rfl⟩ rfl ?_
    exact w_X0_fillFrom_107 h0 fu x1 x2 i3 hi3 hE K47 kK47 x4 hx4 x5 x6 x7 S104 h
theorem w_X0_fillFrom_47 {g : GC} {X : MX} {S' : Mem} (h0 : CX RX0 cX0_fillFrom 8 rm_X0_fillFrom X (wC g)) (fu : Nat) (x1 : Int32) (x2 : Int32) (i3 : Nat) (hi3 : i3 < 4) (hE : EN none none S' X (wC g)) : ∀ (n : Nat) (x4 : Nat) (hx4 : x4 < 5) (x5 : Int32) (x6 : Int32) (x7 : Int32) (S : Mem), f_X0_fillFrom_47 fu x1 x2 i3 n x4 x5 x6 x7 S = some ((), S') → GV X (wC g) 8 0 0 S [(0, .ref (wA (wC g) 0 0)), (2, .int x2), (3, .ref (wA (wC g) 2 i3)), (4, .ref (wA (wC g) 3 x4)), (5, .int x5), (6, .int x6), (7, .int x7)] 47 [] := by
  intro n
  induction n with
  | zero =>
    intro x4 hx4 x5 x6 x7 S h
    exact nomatch (show none = _ from h)
  | succ n ih =>
    intro x4 hx4 x5 x6 x7 S h
    rw [f_X0_fillFrom_47] at h
    refine r_iload (pc' := 49) h0 6 dX0_fillFrom_47 rfl rfl ?_
    refine r_aload_n (pc' := 50) h0 0 dX0_fillFrom_49 rfl rfl rfl ?_
    refine gf_X0_27 (pc' := 53) h0 (Nat.le_of_ble_eq_true rfl) dX0_fillFrom_50 rfl ?_
    refine gf_X0_48 (pc' := 56) h0 (Nat.le_of_ble_eq_true rfl) dX0_fillFrom_53 rfl ?_
    refine r_ic_ge (pt := 113) (pf := 59) h0 dX0_fillFrom_56 rfl rfl h (fun c56 h => ?_) (fun c56 h => ?_)
    · exact r_vret h0 hE dX0_fillFrom_113 h
    · refine r_aload (pc' := 61) h0 3 dX0_fillFrom_59 rfl rfl ?_
      refine r_iload_n (pc' := 62) h0 1 dX0_fillFrom_61 rfl rfl rfl ?_
      refine r_iconst (pc' := 63) h0 dX0_fillFrom_62 ki_0 rfl ?_
      refine r_iload (pc' := 65) h0 6 dX0_fillFrom_63 rfl rfl ?_
      refine r_iload (pc' := 67) h0 4 dX0_fillFrom_65 rfl rfl ?_
      refine r_iadd (pc' := 68) h0 dX0_fillFrom_67 rfl ?_
      obtain ⟨r68, h68, h⟩ := b1_some h
      refine go_V (k_X0_51 g) (st2 := [.int r68]) (pc' := 71) [.int x2, .int 0, .int (x7 + x5)] [] h0 hx4 (c_X3_isLitFrom g fu x4 hx4 x2 0 (x7 + x5) S h68) rfl rfl dX0_fillFrom_68 rfl (Nat.le_of_ble_eq_true rfl) ⟨rfl, rfl, Nat.le_of_ble_eq_true rfl, Nat.le_of_ble_eq_true rfl⟩ ⟨Nat.le_of_ble_eq_true rfl, Nat.le_of_ble_eq_true rfl⟩ rfl ?_
      refine r_if_eq (pt := 83) (pf := 74) h0 dX0_fillFrom_71 rfl rfl h (fun c71 h => ?_) (fun c71 h => ?_)
      · exact w_X0_fillFrom_83 h0 fu x1 x2 i3 hi3 hE (f_X0_fillFrom_47 fu x1 x2 i3 n) ih x4 hx4 x5 x6 x7 S h
      · refine r_aload_n (pc' := 75) h0 2 dX0_fillFrom_74 rfl rfl rfl ?_
        refine gf_X0_57 (pc' := 78) h0 hi3 dX0_fillFrom_75 rfl ?_
        refine r_iload (pc' := 80) h0 6 dX0_fillFrom_78 rfl rfl ?_
        obtain ⟨r80, S80, h80, h⟩ := b2_some h
        refine go_V (k_X0_61 g) (st2 := []) (pc' := 83) [.int x7] [] h0 (lt8a hi3) (c_X5_add g fu (2 * i3) (lt8a hi3) x7 S h80) rfl rfl dX0_fillFrom_80 rfl (Nat.le_of_ble_eq_true rfl) ⟨rfl, rfl, Nat.le_of_ble_eq_true rfl, Nat.le_of_ble_eq_true rfl⟩ ⟨Nat.le_of_ble_eq_true rfl, Nat.le_of_ble_eq_true rfl⟩ rfl ?_
        exact w_X0_fillFrom_83 h0 fu x1 x2 i3 hi3 hE (f_X0_fillFrom_47 fu x1 x2 i3 n) ih x4 hx4 x5 x6 x7 S80 h
/-- the machine does what f_X0_fillFrom says -/
theorem c_X0_fillFrom (g : GC) (fu : Nat) (x1 : Int32) (x2 : Int32) (i3 : Nat) (hi3 : i3 < 4) (S : Mem) {S' : Mem} (h : f_X0_fillFrom fu x1 x2 i3 S = some ((), S')) : ctN yX0_fillFrom cX0_fillFrom 8 none rm_X0_fillFrom (wC g) [.ref (wA (wC g) 0 0), .int x1, .int x2, .ref (wA (wC g) 2 i3)] S none S' := by
  refine ct_of (own := RX0) (L := [(0, .ref (wA (wC g) 0 0)), (1, .int x1), (2, .int x2), (3, .ref (wA (wC g) 2 i3))]) (by decide +kernel) rfl (Nat.le_of_ble_eq_true rfl) rfl (fun X h0 hE => ?_)
  rw [f_X0_fillFrom] at h
  refine r_aload_n (pc' := 1) h0 0 dX0_fillFrom_0 rfl rfl rfl ?_
  refine gf_X0_27 (pc' := 4) h0 (Nat.le_of_ble_eq_true rfl) dX0_fillFrom_1 rfl ?_
  refine r_iload_n (pc' := 5) h0 1 dX0_fillFrom_4 rfl rfl rfl ?_
  obtain ⟨r5, h5, h⟩ := b1_some h
  refine go_V (k_X0_31 g) (st2 := [.ref (wA (wC g) 3 r5)]) (pc' := 8) [.int x1] [] h0 (Nat.le_of_ble_eq_true rfl) (c_X1_at g fu x1 S h5) rfl rfl dX0_fillFrom_5 rfl (Nat.le_of_ble_eq_true rfl) ⟨rfl, rfl, Nat.le_of_ble_eq_true rfl, Nat.le_of_ble_eq_true rfl⟩ ⟨Nat.le_of_ble_eq_true rfl, Nat.le_of_ble_eq_true rfl⟩ rfl ?_
  refine r_astore (pc' := 10) (L' := [(4, .ref (wA (wC g) 3 r5)), (0, .ref (wA (wC g) 0 0)), (1, .int x1), (2, .int x2), (3, .ref (wA (wC g) 2 i3))]) h0 dX0_fillFrom_8 (Nat.le_of_ble_eq_true rfl) rfl rfl ?_
  refine r_aload_n (pc' := 11) h0 1 dX0_fillFrom_10 rfl rfl rfl ?_
  refine gf_X0_27 (pc' := 14) h0 (Nat.le_of_ble_eq_true rfl) dX0_fillFrom_11 rfl ?_
  refine r_iconst (pc' := 15) h0 dX0_fillFrom_14 ki_0 rfl ?_
  refine r_iload_n (pc' := 16) h0 2 dX0_fillFrom_15 rfl rfl rfl ?_
  obtain ⟨r16, h16, h⟩ := b1_some h
  refine go_V (k_X0_37 g) (st2 := [.int r16]) (pc' := 19) [.int 0, .int x1] [] h0 (Nat.le_of_ble_eq_true rfl) (c_X1_secondsBetween g fu 0 x1 S h16) rfl rfl dX0_fillFrom_16 rfl (Nat.le_of_ble_eq_true rfl) ⟨rfl, rfl, Nat.le_of_ble_eq_true rfl, Nat.le_of_ble_eq_true rfl⟩ ⟨Nat.le_of_ble_eq_true rfl, Nat.le_of_ble_eq_true rfl⟩ rfl ?_
  refine r_istore (pc' := 21) (L' := [(5, .int r16), (4, .ref (wA (wC g) 3 r5)), (0, .ref (wA (wC g) 0 0)), (1, .int x1), (2, .int x2), (3, .ref (wA (wC g) 2 i3))]) h0 dX0_fillFrom_19 (Nat.le_of_ble_eq_true rfl) rfl rfl ?_
  refine r_aload_n (pc' := 22) h0 2 dX0_fillFrom_21 rfl rfl rfl ?_
  refine gf_X0_27 (pc' := 25) h0 (Nat.le_of_ble_eq_true rfl) dX0_fillFrom_22 rfl ?_
  refine r_iload_n (pc' := 26) h0 3 dX0_fillFrom_25 rfl rfl rfl ?_
  refine r_aload_n (pc' := 27) h0 2 dX0_fillFrom_26 rfl rfl rfl ?_
  refine gf_X0_27 (pc' := 30) h0 (Nat.le_of_ble_eq_true rfl) dX0_fillFrom_27 rfl ?_
  refine gf_X0_41 (pc' := 33) h0 (Nat.le_of_ble_eq_true rfl) dX0_fillFrom_30 rfl ?_
  refine r_iconst (pc' := 34) h0 dX0_fillFrom_33 ki_1 rfl ?_
  refine r_isub (pc' := 35) h0 dX0_fillFrom_34 rfl ?_
  obtain ⟨r35, h35, h⟩ := b1_some h
  refine go_V (k_X0_37 g) (st2 := [.int r35]) (pc' := 38) [.int x1, .int ((S.1 1 0 1) - 1)] [] h0 (Nat.le_of_ble_eq_true rfl) (c_X1_secondsBetween g fu x1 ((S.1 1 0 1) - 1) S h35) rfl rfl dX0_fillFrom_35 rfl (Nat.le_of_ble_eq_true rfl) ⟨rfl, rfl, Nat.le_of_ble_eq_true rfl, Nat.le_of_ble_eq_true rfl⟩ ⟨Nat.le_of_ble_eq_true rfl, Nat.le_of_ble_eq_true rfl⟩ rfl ?_
  refine r_istore (pc' := 40) (L' := [(6, .int r35), (5, .int r16), (4, .ref (wA (wC g) 3 r5)), (0, .ref (wA (wC g) 0 0)), (1, .int x1), (2, .int x2), (3, .ref (wA (wC g) 2 i3))]) h0 dX0_fillFrom_38 (Nat.le_of_ble_eq_true rfl) rfl rfl ?_
  refine r_aload_n (pc' := 41) h0 6 dX0_fillFrom_40 rfl rfl rfl ?_
  obtain ⟨r41, S41, h41, h⟩ := b2_some h
  refine go_V (k_X0_45 g) (st2 := []) (pc' := 44) [] [] h0 hi3 (c_X2_clear g fu i3 hi3 S h41) rfl rfl dX0_fillFrom_41 rfl (Nat.le_of_ble_eq_true rfl) ⟨rfl, rfl, Nat.le_of_ble_eq_true rfl, Nat.le_of_ble_eq_true rfl⟩ ⟨Nat.le_of_ble_eq_true rfl, Nat.le_of_ble_eq_true rfl⟩ rfl ?_
  refine r_iconst (pc' := 45) h0 dX0_fillFrom_44 ki_0 rfl ?_
  refine r_istore (pc' := 47) (L' := [(7, .int 0), (6, .int r35), (5, .int r16), (4, .ref (wA (wC g) 3 r5)), (0, .ref (wA (wC g) 0 0)), (1, .int x1), (2, .int x2), (3, .ref (wA (wC g) 2 i3))]) h0 dX0_fillFrom_45 (Nat.le_of_ble_eq_true rfl) rfl rfl ?_
  refine r_sub (L' := [(0, .ref (wA (wC g) 0 0)), (2, .int x2), (3, .ref (wA (wC g) 2 i3)), (4, .ref (wA (wC g) 3 r5)), (5, .int r16), (6, .int r35), (7, .int 0)]) [4, 6, 7, 3, 2, 1, 0] rfl ?_
  exact w_X0_fillFrom_47 h0 fu x1 x2 i3 hi3 hE fu r5 (b_X1_at h5) r16 r35 0 S41 h
theorem w_X2_addAll_2 {g : GC} {X : MX} {S' : Mem} (h0 : CX RX2 cX2_addAll 3 rm_X2_addAll X (wC g)) (fu : Nat) (k : Nat) (hk : k < 4) (x1 : Int32) (hE : EN none none S' X (wC g)) : ∀ (n : Nat) (x2 : Int32) (S : Mem), f_X2_addAll_2 fu k x1 n x2 S = some ((), S') → GV X (wC g) 3 0 0 S [(0, .ref (wA (wC g) 2 k)), (1, .int x1), (2, .int x2)] 2 [] := by
  intro n
  induction n with
  | zero =>
    intro x2 S h
    exact nomatch (show none = _ from h)
  | succ n ih =>
    intro x2 S h
    rw [f_X2_addAll_2] at h
    refine r_iload_n (pc' := 3) h0 2 dX2_addAll_2 rfl rfl rfl ?_
    refine r_iload_n (pc' := 4) h0 1 dX2_addAll_3 rfl rfl rfl ?_
    refine r_ic_ge (pt := 29) (pf := 7) h0 dX2_addAll_4 rfl rfl h (fun c4 h => ?_) (fun c4 h => ?_)
    · exact r_vret h0 hE dX2_addAll_29 h
    · refine r_aload_n (pc' := 8) h0 0 dX2_addAll_7 rfl rfl rfl ?_
      refine gf_X2_10 (pc' := 11) h0 hk dX2_addAll_8 rfl ?_
      refine r_iload_n (pc' := 12) h0 2 dX2_addAll_11 rfl rfl rfl ?_
      obtain ⟨r12, S12, h12, h⟩ := b2_some h
      refine go_V (k_X2_22 g) (st2 := []) (pc' := 15) [.int x2] [] h0 (lt8a hk) (c_X5_add g fu (2 * k) (lt8a hk) x2 S h12) rfl rfl dX2_addAll_12 rfl (Nat.le_of_ble_eq_true rfl) ⟨rfl, rfl, Nat.le_of_ble_eq_true rfl, Nat.le_of_ble_eq_true rfl⟩ ⟨Nat.le_of_ble_eq_true rfl, Nat.le_of_ble_eq_true rfl⟩ rfl ?_
      refine r_aload_n (pc' := 16) h0 0 dX2_addAll_15 rfl rfl rfl ?_
      refine gf_X2_16 (pc' := 19) h0 hk dX2_addAll_16 rfl ?_
      refine r_iload_n (pc' := 20) h0 2 dX2_addAll_19 rfl rfl rfl ?_
      obtain ⟨r20, S20, h20, h⟩ := b2_some h
      refine go_V (k_X2_22 g) (st2 := []) (pc' := 23) [.int x2] [] h0 (lt8b hk) (c_X5_add g fu (2 * k + 1) (lt8b hk) x2 S12 h20) rfl rfl dX2_addAll_20 rfl (Nat.le_of_ble_eq_true rfl) ⟨rfl, rfl, Nat.le_of_ble_eq_true rfl, Nat.le_of_ble_eq_true rfl⟩ ⟨Nat.le_of_ble_eq_true rfl, Nat.le_of_ble_eq_true rfl⟩ rfl ?_
      refine r_iinc (pc' := 26) (L' := [(2, .int (x2 + 1)), (0, .ref (wA (wC g) 2 k)), (1, .int x1)]) h0 2 dX2_addAll_23 rfl ki_1 (Nat.le_of_ble_eq_true rfl) rfl rfl ?_
      refine r_goto (pc' := 2) h0 dX2_addAll_26 rfl ?_
      refine r_sub (L' := [(0, .ref (wA (wC g) 2 k)), (1, .int x1), (2, .int (x2 + 1))]) [1, 2, 0] rfl ?_
      exact ih (x2 + 1) S20 h
/-- the machine does what f_X2_addAll says -/
theorem c_X2_addAll (g : GC) (fu : Nat) (k : Nat) (hk : k < 4) (x1 : Int32) (S : Mem) {S' : Mem} (h : f_X2_addAll fu k x1 S = some ((), S')) : ctN yX2_addAll cX2_addAll 3 none rm_X2_addAll (wC g) [.ref (wA (wC g) 2 k), .int x1] S none S' := by
  refine ct_of (own := RX2) (L := [(0, .ref (wA (wC g) 2 k)), (1, .int x1)]) (by decide +kernel) rfl (Nat.le_of_ble_eq_true rfl) rfl (fun X h0 hE => ?_)
  rw [f_X2_addAll] at h
  refine r_iconst (pc' := 1) h0 dX2_addAll_0 ki_0 rfl ?_
  refine r_istore_n (pc' := 2) (L' := [(2, .int 0), (0, .ref (wA (wC g) 2 k)), (1, .int x1)]) h0 dX2_addAll_1 rfl (Nat.le_of_ble_eq_true rfl) rfl rfl ?_
  refine r_sub (L' := [(0, .ref (wA (wC g) 2 k)), (1, .int x1), (2, .int 0)]) [1, 2, 0] rfl ?_
  exact w_X2_addAll_2 h0 fu k hk x1 hE fu 0 S h
/-- the machine does what f_X5_becomeCommon says -/
theorem c_X5_becomeCommon (g : GC) (fu : Nat) (k : Nat) (hk : k < 8) (i1 : Nat) (hi1 : i1 < 8) (i2 : Nat) (hi2 : i2 < 8) (S : Mem) {S' : Mem} (h : f_X5_becomeCommon fu k i1 i2 S = some ((), S')) : ctN yX5_becomeCommon cX5_becomeCommon 3 none rm_X5_becomeCommon (wC g) [.ref (wA (wC g) 5 k), .ref (wA (wC g) 5 i1), .ref (wA (wC g) 5 i2)] S none S' := by
  refine ct_of (own := RX5) (L := [(0, .ref (wA (wC g) 5 k)), (1, .ref (wA (wC g) 5 i1)), (2, .ref (wA (wC g) 5 i2))]) (by decide +kernel) rfl (Nat.le_of_ble_eq_true rfl) rfl (fun X h0 hE => ?_)
  rw [f_X5_becomeCommon] at h
  refine r_aload_n (pc' := 1) h0 0 dX5_becomeCommon_0 rfl rfl rfl ?_
  refine r_aload_n (pc' := 2) h0 1 dX5_becomeCommon_1 rfl rfl rfl ?_
  refine gf_X5_7 (pc' := 5) h0 hi1 dX5_becomeCommon_2 rfl ?_
  refine r_aload_n (pc' := 6) h0 2 dX5_becomeCommon_5 rfl rfl rfl ?_
  refine gf_X5_7 (pc' := 9) h0 hi2 dX5_becomeCommon_6 rfl ?_
  refine r_land (pc' := 10) h0 dX5_becomeCommon_9 rfl ?_
  refine pf_X5_7 (pc' := 13) h0 hk dX5_becomeCommon_10 rfl ?_
  refine r_aload_n (pc' := 14) h0 0 dX5_becomeCommon_13 rfl rfl rfl ?_
  refine r_aload_n (pc' := 15) h0 1 dX5_becomeCommon_14 rfl rfl rfl ?_
  refine gf_X5_13 (pc' := 18) h0 hi1 dX5_becomeCommon_15 rfl ?_
  refine r_aload_n (pc' := 19) h0 2 dX5_becomeCommon_18 rfl rfl rfl ?_
  refine gf_X5_13 (pc' := 22) h0 hi2 dX5_becomeCommon_19 rfl ?_
  refine r_land (pc' := 23) h0 dX5_becomeCommon_22 rfl ?_
  refine pf_X5_13 (pc' := 26) h0 hk dX5_becomeCommon_23 rfl ?_
  exact r_vret h0 hE dX5_becomeCommon_26 h
/-- the machine does what f_X2_becomeCommon says -/
theorem c_X2_becomeCommon (g : GC) (fu : Nat) (k : Nat) (hk : k < 4) (i1 : Nat) (hi1 : i1 < 4) (i2 : Nat) (hi2 : i2 < 4) (S : Mem) {S' : Mem} (h : f_X2_becomeCommon fu k i1 i2 S = some ((), S')) : ctN yX2_becomeCommon cX2_becomeCommon 3 none rm_X2_becomeCommon (wC g) [.ref (wA (wC g) 2 k), .ref (wA (wC g) 2 i1), .ref (wA (wC g) 2 i2)] S none S' := by
  refine ct_of (own := RX2) (L := [(0, .ref (wA (wC g) 2 k)), (1, .ref (wA (wC g) 2 i1)), (2, .ref (wA (wC g) 2 i2))]) (by decide +kernel) rfl (Nat.le_of_ble_eq_true rfl) rfl (fun X h0 hE => ?_)
  rw [f_X2_becomeCommon] at h
  refine r_aload_n (pc' := 1) h0 0 dX2_becomeCommon_0 rfl rfl rfl ?_
  refine gf_X2_10 (pc' := 4) h0 hk dX2_becomeCommon_1 rfl ?_
  refine r_aload_n (pc' := 5) h0 1 dX2_becomeCommon_4 rfl rfl rfl ?_
  refine gf_X2_10 (pc' := 8) h0 hi1 dX2_becomeCommon_5 rfl ?_
  refine r_aload_n (pc' := 9) h0 2 dX2_becomeCommon_8 rfl rfl rfl ?_
  refine gf_X2_10 (pc' := 12) h0 hi2 dX2_becomeCommon_9 rfl ?_
  obtain ⟨r12, S12, h12, h⟩ := b2_some h
  refine go_V (k_X2_26 g) (st2 := []) (pc' := 15) [.ref (wA (wC g) 5 (2 * i1)), .ref (wA (wC g) 5 (2 * i2))] [] h0 (lt8a hk) (c_X5_becomeCommon g fu (2 * k) (lt8a hk) (2 * i1) (lt8a hi1) (2 * i2) (lt8a hi2) S h12) rfl rfl dX2_becomeCommon_12 rfl (Nat.le_of_ble_eq_true rfl) ⟨rfl, rfl, Nat.le_of_ble_eq_true rfl, Nat.le_of_ble_eq_true rfl⟩ ⟨Nat.le_of_ble_eq_true rfl, Nat.le_of_ble_eq_true rfl⟩ rfl ?_
  refine r_aload_n (pc' := 16) h0 0 dX2_becomeCommon_15 rfl rfl rfl ?_
  refine gf_X2_16 (pc' := 19) h0 hk dX2_becomeCommon_16 rfl ?_
  refine r_aload_n (pc' := 20) h0 1 dX2_becomeCommon_19 rfl rfl rfl ?_
  refine gf_X2_16 (pc' := 23) h0 hi1 dX2_becomeCommon_20 rfl ?_
  refine r_aload_n (pc' := 24) h0 2 dX2_becomeCommon_23 rfl rfl rfl ?_
  refine gf_X2_16 (pc' := 27) h0 hi2 dX2_becomeCommon_24 rfl ?_
  obtain ⟨r27, S27, h27, h⟩ := b2_some h
  refine go_V (k_X2_26 g) (st2 := []) (pc' := 30) [.ref (wA (wC g) 5 (2 * i1 + 1)), .ref (wA (wC g) 5 (2 * i2 + 1))] [] h0 (lt8b hk) (c_X5_becomeCommon g fu (2 * k + 1) (lt8b hk) (2 * i1 + 1) (lt8b hi1) (2 * i2 + 1) (lt8b hi2) S12 h27) rfl rfl dX2_becomeCommon_27 rfl (Nat.le_of_ble_eq_true rfl) ⟨rfl, rfl, Nat.le_of_ble_eq_true rfl, Nat.le_of_ble_eq_true rfl⟩ ⟨Nat.le_of_ble_eq_true rfl, Nat.le_of_ble_eq_true rfl⟩ rfl ?_
  exact r_vret h0 hE dX2_becomeCommon_30 h
theorem w_X0_fillCommon_74 {g : GC} {X : MX} {S' : Mem} (h0 : CX RX0 cX0_fillCommon 3 rm_X0_fillCommon X (wC g)) (fu : Nat) (x1 : Int32) (hE : EN none none S' X (wC g)) (K23 : Int32 → Mem → Option (Unit × Mem)) (kK23 : ∀ (x2 : Int32) (S : Mem), K23 x2 S = some ((), S') → GV X (wC g) 3 0 0 S [(0, .ref (wA (wC g) 0 0)), (1, .int x1), (2, .int x2)] 23 []) : ∀ (x2 : Int32) (S : Mem), f_X0_fillCommon_74 fu K23 x1 x2 S = some ((), S') → GV X (wC g) 3 0 0 S [(0, .ref (wA (wC g) 0 0)), (1, .int x1), (2, .int x2)] 74 [] := by
  intro x2 S h
  rw [f_X0_fillCommon_74] at h
  refine r_iinc (pc' := 77) (L' := [(2, .int (x2 + 1)), (0, .ref (wA (wC g) 0 0)), (1, .int x1)]) h0 2 dX0_fillCommon_74 rfl ki_1 (Nat.le_of_ble_eq_true rfl) rfl rfl ?_
  refine r_goto (pc' := 23) h0 dX0_fillCommon_77 rfl ?_
  refine r_sub (L' := [(0, .ref (wA (wC g) 0 0)), (1, .int x1), (2, .int (x2 + 1))]) [1, 2, 0] rfl ?_
  exact kK23 (x2 + 1) S h
theorem w_X0_fillCommon_23 {g : GC} {X : MX} {S' : Mem} (h0 : CX RX0 cX0_fillCommon 3 rm_X0_fillCommon X (wC g)) (fu : Nat) (x1 : Int32) (hE : EN none none S' X (wC g)) : ∀ (n : Nat) (x2 : Int32) (S : Mem), f_X0_fillCommon_23 fu x1 n x2 S = some ((), S') → GV X (wC g) 3 0 0 S [(0, .ref (wA (wC g) 0 0)), (1, .int x1), (2, .int x2)] 23 [] := by
  intro n
  induction n with
  | zero =>
    intro x2 S h
    exact nomatch (show none = _ from h)
  | succ n ih =>
    intro x2 S h
    rw [f_X0_fillCommon_23] at h
    refine r_iload_n (pc' := 24) h0 2 dX0_fillCommon_23 rfl rfl rfl ?_
    refine r_aload_n (pc' := 25) h0 0 dX0_fillCommon_24 rfl rfl rfl ?_
    refine gf_X0_27 (pc' := 28) h0 (Nat.le_of_ble_eq_true rfl) dX0_fillCommon_25 rfl ?_
    refine gf_X0_41 (pc' := 31) h0 (Nat.le_of_ble_eq_true rfl) dX0_fillCommon_28 rfl ?_
    refine r_ic_ge (pt := 80) (pf := 34) h0 dX0_fillCommon_31 rfl rfl h (fun c31 h => ?_) (fun c31 h => ?_)
    · exact r_vret h0 hE dX0_fillCommon_80 h
    · refine r_iload_n (pc' := 35) h0 2 dX0_fillCommon_34 rfl rfl rfl ?_
      refine r_iload_n (pc' := 36) h0 1 dX0_fillCommon_35 rfl rfl rfl ?_
      refine r_ic_eq (pt := 74) (pf := 39) h0 dX0_fillCommon_36 rfl rfl h (fun c36 h => ?_) (fun c36 h => ?_)
      · exact w_X0_fillCommon_74 h0 fu x1 hE (f_X0_fillCommon_23 fu x1 n) ih x2 S h
      · refine r_aload_n (pc' := 40) h0 0 dX0_fillCommon_39 rfl rfl rfl ?_
        refine r_iload_n (pc' := 41) h0 2 dX0_fillCommon_40 rfl rfl rfl ?_
        refine r_aload_n (pc' := 42) h0 0 dX0_fillCommon_41 rfl rfl rfl ?_
        refine gf_X0_27 (pc' := 45) h0 (Nat.le_of_ble_eq_true rfl) dX0_fillCommon_42 rfl ?_
        refine r_iload_n (pc' := 46) h0 2 dX0_fillCommon_45 rfl rfl rfl ?_
        obtain ⟨r46, h46, h⟩ := b1_some h
        refine go_V (k_X0_31 g) (st2 := [.ref (wA (wC g) 3 r46), .int x2, .ref (wA (wC g) 0 0)]) (pc' := 49) [.int x2] [.int x2, .ref (wA (wC g) 0 0)] h0 (Nat.le_of_ble_eq_true rfl) (c_X1_at g fu x2 S h46) rfl rfl dX0_fillCommon_46 rfl (Nat.le_of_ble_eq_true rfl) ⟨rfl, rfl, Nat.le_of_ble_eq_true rfl, Nat.le_of_ble_eq_true rfl⟩ ⟨Nat.le_of_ble_eq_true rfl, Nat.le_of_ble_eq_true rfl⟩ rfl ?_
        refine gf_X0_73 (pc' := 52) h0 (b_X1_at h46) dX0_fillCommon_49 rfl ?_
        refine r_aload_n (pc' := 53) h0 0 dX0_fillCommon_52 rfl rfl rfl ?_
        refine gf_X0_18 (pc' := 56) h0 (Nat.le_of_ble_eq_true rfl) dX0_fillCommon_53 rfl ?_
        obtain ⟨r56, S56, h56, h⟩ := b2_some h
        refine go_V (k_X0_76 g) (st2 := []) (pc' := 59) [.int x2, .int (S.1 3 r46 9), .ref (wA (wC g) 2 1)] [] h0 (Nat.le_of_ble_eq_true rfl) (c_X0_fillFrom g fu x2 (S.1 3 r46 9) 1 (Nat.le_of_ble_eq_true rfl) S h56) rfl rfl dX0_fillCommon_56 rfl (Nat.le_of_ble_eq_true rfl) ⟨rfl, rfl, Nat.le_of_ble_eq_true rfl, Nat.le_of_ble_eq_true rfl⟩ ⟨Nat.le_of_ble_eq_true rfl, Nat.le_of_ble_eq_true rfl⟩ rfl ?_
        refine r_aload_n (pc' := 60) h0 0 dX0_fillCommon_59 rfl rfl rfl ?_
        refine gf_X0_12 (pc' := 63) h0 (Nat.le_of_ble_eq_true rfl) dX0_fillCommon_60 rfl ?_
        refine r_aload_n (pc' := 64) h0 0 dX0_fillCommon_63 rfl rfl rfl ?_
        refine gf_X0_12 (pc' := 67) h0 (Nat.le_of_ble_eq_true rfl) dX0_fillCommon_64 rfl ?_
        refine r_aload_n (pc' := 68) h0 0 dX0_fillCommon_67 rfl rfl rfl ?_
        refine gf_X0_18 (pc' := 71) h0 (Nat.le_of_ble_eq_true rfl) dX0_fillCommon_68 rfl ?_
        obtain ⟨r71, S71, h71, h⟩ := b2_some h
        refine go_V (k_X0_80 g) (st2 := []) (pc' := 74) [.ref (wA (wC g) 2 0), .ref (wA (wC g) 2 1)] [] h0 (Nat.le_of_ble_eq_true rfl) (c_X2_becomeCommon g fu 0 (Nat.le_of_ble_eq_true rfl) 0 (Nat.le_of_ble_eq_true rfl) 1 (Nat.le_of_ble_eq_true rfl) S56 h71) rfl rfl dX0_fillCommon_71 rfl (Nat.le_of_ble_eq_true rfl) ⟨rfl, rfl, Nat.le_of_ble_eq_true rfl, Nat.le_of_ble_eq_true rfl⟩ ⟨Nat.le_of_ble_eq_true rfl, Nat.le_of_ble_eq_true rfl⟩ rfl ?_
        exact w_X0_fillCommon_74 h0 fu x1 hE (f_X0_fillCommon_23 fu x1 n) ih x2 S71 h
/-- the machine does what f_X0_fillCommon says -/
theorem c_X0_fillCommon (g : GC) (fu : Nat) (x1 : Int32) (S : Mem) {S' : Mem} (h : f_X0_fillCommon fu x1 S = some ((), S')) : ctN yX0_fillCommon cX0_fillCommon 3 none rm_X0_fillCommon (wC g) [.ref (wA (wC g) 0 0), .int x1] S none S' := by
  refine ct_of (own := RX0) (L := [(0, .ref (wA (wC g) 0 0)), (1, .int x1)]) (by decide +kernel) rfl (Nat.le_of_ble_eq_true rfl) rfl (fun X h0 hE => ?_)
  rw [f_X0_fillCommon] at h
  refine r_aload_n (pc' := 1) h0 0 dX0_fillCommon_0 rfl rfl rfl ?_
  refine gf_X0_12 (pc' := 4) h0 (Nat.le_of_ble_eq_true rfl) dX0_fillCommon_1 rfl ?_
  obtain ⟨r4, S4, h4, h⟩ := b2_some h
  refine go_V (k_X0_45 g) (st2 := []) (pc' := 7) [] [] h0 (Nat.le_of_ble_eq_true rfl) (c_X2_clear g fu 0 (Nat.le_of_ble_eq_true rfl) S h4) rfl rfl dX0_fillCommon_4 rfl (Nat.le_of_ble_eq_true rfl) ⟨rfl, rfl, Nat.le_of_ble_eq_true rfl, Nat.le_of_ble_eq_true rfl⟩ ⟨Nat.le_of_ble_eq_true rfl, Nat.le_of_ble_eq_true rfl⟩ rfl ?_
  refine r_aload_n (pc' := 8) h0 0 dX0_fillCommon_7 rfl rfl rfl ?_
  refine gf_X0_12 (pc' := 11) h0 (Nat.le_of_ble_eq_true rfl) dX0_fillCommon_8 rfl ?_
  refine r_aload_n (pc' := 12) h0 0 dX0_fillCommon_11 rfl rfl rfl ?_
  refine gf_X0_27 (pc' := 15) h0 (Nat.le_of_ble_eq_true rfl) dX0_fillCommon_12 rfl ?_
  refine gf_X0_48 (pc' := 18) h0 (Nat.le_of_ble_eq_true rfl) dX0_fillCommon_15 rfl ?_
  obtain ⟨r18, S18, h18, h⟩ := b2_some h
  refine go_V (k_X0_70 g) (st2 := []) (pc' := 21) [.int (S4.1 1 0 2)] [] h0 (Nat.le_of_ble_eq_true rfl) (c_X2_addAll g fu 0 (Nat.le_of_ble_eq_true rfl) (S4.1 1 0 2) S4 h18) rfl rfl dX0_fillCommon_18 rfl (Nat.le_of_ble_eq_true rfl) ⟨rfl, rfl, Nat.le_of_ble_eq_true rfl, Nat.le_of_ble_eq_true rfl⟩ ⟨Nat.le_of_ble_eq_true rfl, Nat.le_of_ble_eq_true rfl⟩ rfl ?_
  refine r_iconst (pc' := 22) h0 dX0_fillCommon_21 ki_0 rfl ?_
  refine r_istore_n (pc' := 23) (L' := [(2, .int 0), (0, .ref (wA (wC g) 0 0)), (1, .int x1)]) h0 dX0_fillCommon_22 rfl (Nat.le_of_ble_eq_true rfl) rfl rfl ?_
  refine r_sub (L' := [(0, .ref (wA (wC g) 0 0)), (1, .int x1), (2, .int 0)]) [1, 2, 0] rfl ?_
  exact w_X0_fillCommon_23 h0 fu x1 hE fu 0 S18 h
/-- the machine does what f_J13_bitCount_95d88 says -/
theorem c_J13_bitCount_95d88 (w : WX) (fu : Nat) (x0 : Int64) (S : Mem) {r : Int32}  (h : f_J13_bitCount_95d88 fu x0 S = some r) : ctN yJ13_bitCount_95d88 cJ13_bitCount_95d88 2 (some .int) rm_J13_bitCount_95d88 w [.long x0] S (some (.int r)) S := by
  refine ct_of (own := RJ13) (L := [(0, .long x0)]) (by decide +kernel) rfl (Nat.le_of_ble_eq_true rfl) rfl (fun X h0 hE => ?_)
  rw [f_J13_bitCount_95d88] at h
  refine r_lload_n (pc' := 1) h0 0 dJ13_bitCount_95d88_0 rfl rfl rfl ?_
  refine r_lload_n (pc' := 2) h0 0 dJ13_bitCount_95d88_1 rfl rfl rfl ?_
  refine r_iconst (pc' := 3) h0 dJ13_bitCount_95d88_2 ki_1 rfl ?_
  refine r_lushr (pc' := 4) h0 dJ13_bitCount_95d88_3 rfl ?_
  refine r_ldc2 (pc' := 7) h0 v_698 dJ13_bitCount_95d88_4 rfl ?_
  refine r_land (pc' := 8) h0 dJ13_bitCount_95d88_7 rfl ?_
  refine r_lsub (pc' := 9) h0 dJ13_bitCount_95d88_8 rfl ?_
  refine r_lstore_n (pc' := 10) (L' := [(0, .long (x0 - (((x0).toUInt64 >>> ((1 : Int32).toInt64.toUInt64 &&& Int64.toUInt64 63)).toInt64 &&& 6148914691236517205)))]) h0 dJ13_bitCount_95d88_9 rfl (Nat.le_of_ble_eq_true rfl) rfl rfl ?_
  refine r_lload_n (pc' := 11) h0 0 dJ13_bitCount_95d88_10 rfl rfl rfl ?_
  refine r_ldc2 (pc' := 14) h0 v_699 dJ13_bitCount_95d88_11 rfl ?_
  refine r_land (pc' := 15) h0 dJ13_bitCount_95d88_14 rfl ?_
  refine r_lload_n (pc' := 16) h0 0 dJ13_bitCount_95d88_15 rfl rfl rfl ?_
  refine r_iconst (pc' := 17) h0 dJ13_bitCount_95d88_16 ki_2 rfl ?_
  refine r_lushr (pc' := 18) h0 dJ13_bitCount_95d88_17 rfl ?_
  refine r_ldc2 (pc' := 21) h0 v_699 dJ13_bitCount_95d88_18 rfl ?_
  refine r_land (pc' := 22) h0 dJ13_bitCount_95d88_21 rfl ?_
  refine r_ladd (pc' := 23) h0 dJ13_bitCount_95d88_22 rfl ?_
  refine r_lstore_n (pc' := 24) (L' := [(0, .long (((x0 - (((x0).toUInt64 >>> ((1 : Int32).toInt64.toUInt64 &&& Int64.toUInt64 63)).toInt64 &&& 6148914691236517205)) &&& 3689348814741910323) + ((((x0 - (((x0).toUInt64 >>> ((1 : Int32).toInt64.toUInt64 &&& Int64.toUInt64 63)).toInt64 &&& 6148914691236517205))).toUInt64 >>> ((2 : Int32).toInt64.toUInt64 &&& Int64.toUInt64 63)).toInt64 &&& 3689348814741910323)))]) h0 dJ13_bitCount_95d88_23 rfl (Nat.le_of_ble_eq_true rfl) rfl rfl ?_
  refine r_lload_n (pc' := 25) h0 0 dJ13_bitCount_95d88_24 rfl rfl rfl ?_
  refine r_lload_n (pc' := 26) h0 0 dJ13_bitCount_95d88_25 rfl rfl rfl ?_
  refine r_iconst (pc' := 27) h0 dJ13_bitCount_95d88_26 ki_4 rfl ?_
  refine r_lushr (pc' := 28) h0 dJ13_bitCount_95d88_27 rfl ?_
  refine r_ladd (pc' := 29) h0 dJ13_bitCount_95d88_28 rfl ?_
  refine r_ldc2 (pc' := 32) h0 v_700 dJ13_bitCount_95d88_29 rfl ?_
  refine r_land (pc' := 33) h0 dJ13_bitCount_95d88_32 rfl ?_
  refine r_lstore_n (pc' := 34) (L' := [(0, .long (((((x0 - (((x0).toUInt64 >>> ((1 : Int32).toInt64.toUInt64 &&& Int64.toUInt64 63)).toInt64 &&& 6148914691236517205)) &&& 3689348814741910323) + ((((x0 - (((x0).toUInt64 >>> ((1 : Int32).toInt64.toUInt64 &&& Int64.toUInt64 63)).toInt64 &&& 6148914691236517205))).toUInt64 >>> ((2 : Int32).toInt64.toUInt64 &&& Int64.toUInt64 63)).toInt64 &&& 3689348814741910323)) + (((((x0 - (((x0).toUInt64 >>> ((1 : Int32).toInt64.toUInt64 &&& Int64.toUInt64 63)).toInt64 &&& 6148914691236517205)) &&& 3689348814741910323) + ((((x0 - (((x0).toUInt64 >>> ((1 : Int32).toInt64.toUInt64 &&& Int64.toUInt64 63)).toInt64 &&& 6148914691236517205))).toUInt64 >>> ((2 : Int32).toInt64.toUInt64 &&& Int64.toUInt64 63)).toInt64 &&& 3689348814741910323))).toUInt64 >>> ((4 : Int32).toInt64.toUInt64 &&& Int64.toUInt64 63)).toInt64) &&& 1085102592571150095))]) h0 dJ13_bitCount_95d88_33 rfl (Nat.le_of_ble_eq_true rfl) rfl rfl ?_
  refine r_lload_n (pc' := 35) h0 0 dJ13_bitCount_95d88_34 rfl rfl rfl ?_
  refine r_lload_n (pc' := 36) h0 0 dJ13_bitCount_95d88_35 rfl rfl rfl ?_
  refine r_bipush (pc' := 38) h0 dJ13_bitCount_95d88_36 kb_8 rfl ?_
  refine r_lushr (pc' := 39) h0 dJ13_bitCount_95d88_38 rfl ?_
  refine r_ladd (pc' := 40) h0 dJ13_bitCount_95d88_39 rfl ?_
  refine r_lstore_n (pc' := 41) (L' := [(0, .long ((((((x0 - (((x0).toUInt64 >>> ((1 : Int32).toInt64.toUInt64 &&& Int64.toUInt64 63)).toInt64 &&& 6148914691236517205)) &&& 3689348814741910323) + ((((x0 - (((x0).toUInt64 >>> ((1 : Int32).toInt64.toUInt64 &&& Int64.toUInt64 63)).toInt64 &&& 6148914691236517205))).toUInt64 >>> ((2 : Int32).toInt64.toUInt64 &&& Int64.toUInt64 63)).toInt64 &&& 3689348814741910323)) + (((((x0 - (((x0).toUInt64 >>> ((1 : Int32).toInt64.toUInt64 &&& Int64.toUInt64 63)).toInt64 &&& 6148914691236517205)) &&& 3689348814741910323) + ((((x0 - (((x0).toUInt64 >>> ((1 : Int32).toInt64.toUInt64 &&& Int64.toUInt64 63)).toInt64 &&& 6148914691236517205))).toUInt64 >>> ((2 : Int32).toInt64.toUInt64 &&& Int64.toUInt64 63)).toInt64 &&& 3689348814741910323))).toUInt64 >>> ((4 : Int32).toInt64.toUInt64 &&& Int64.toUInt64 63)).toInt64) &&& 1085102592571150095) + (((((((x0 - (((x0).toUInt64 >>> ((1 : Int32).toInt64.toUInt64 &&& Int64.toUInt64 63)).toInt64 &&& 6148914691236517205)) &&& 3689348814741910323) + ((((x0 - (((x0).toUInt64 >>> ((1 : Int32).toInt64.toUInt64 &&& Int64.toUInt64 63)).toInt64 &&& 6148914691236517205))).toUInt64 >>> ((2 : Int32).toInt64.toUInt64 &&& Int64.toUInt64 63)).toInt64 &&& 3689348814741910323)) + (((((x0 - (((x0).toUInt64 >>> ((1 : Int32).toInt64.toUInt64 &&& Int64.toUInt64 63)).toInt64 &&& 6148914691236517205)) &&& 3689348814741910323) + ((((x0 - (((x0).toUInt64 >>> ((1 : Int32).toInt64.toUInt64 &&& Int64.toUInt64 63)).toInt64 &&& 6148914691236517205))).toUInt64 >>> ((2 : Int32).toInt64.toUInt64 &&& Int64.toUInt64 63)).toInt64 &&& 3689348814741910323))).toUInt64 >>> ((4 : Int32).toInt64.toUInt64 &&& Int64.toUInt64 63)).toInt64) &&& 1085102592571150095)).toUInt64 >>> ((8 : Int32).toInt64.toUInt64 &&& Int64.toUInt64 63)).toInt64))]) h0 dJ13_bitCount_95d88_40 rfl (Nat.le_of_ble_eq_true rfl) rfl rfl ?_
  refine r_lload_n (pc' := 42) h0 0 dJ13_bitCount_95d88_41 rfl rfl rfl ?_
  refine r_lload_n (pc' := 43) h0 0 dJ13_bitCount_95d88_42 rfl rfl rfl ?_
  refine r_bipush (pc' := 45) h0 dJ13_bitCount_95d88_43 kb_16 rfl ?_
  refine r_lushr (pc' := 46) h0 dJ13_bitCount_95d88_45 rfl ?_
  refine r_ladd (pc' := 47) h0 dJ13_bitCount_95d88_46 rfl ?_
  refine r_lstore_n (pc' := 48) (L' := [(0, .long (((((((x0 - (((x0).toUInt64 >>> ((1 : Int32).toInt64.toUInt64 &&& Int64.toUInt64 63)).toInt64 &&& 6148914691236517205)) &&& 3689348814741910323) + ((((x0 - (((x0).toUInt64 >>> ((1 : Int32).toInt64.toUInt64 &&& Int64.toUInt64 63)).toInt64 &&& 6148914691236517205))).toUInt64 >>> ((2 : Int32).toInt64.toUInt64 &&& Int64.toUInt64 63)).toInt64 &&& 3689348814741910323)) + (((((x0 - (((x0).toUInt64 >>> ((1 : Int32).toInt64.toUInt64 &&& Int64.toUInt64 63)).toInt64 &&& 6148914691236517205)) &&& 3689348814741910323) + ((((x0 - (((x0).toUInt64 >>> ((1 : Int32).toInt64.toUInt64 &&& Int64.toUInt64 63)).toInt64 &&& 6148914691236517205))).toUInt64 >>> ((2 : Int32).toInt64.toUInt64 &&& Int64.toUInt64 63)).toInt64 &&& 3689348814741910323))).toUInt64 >>> ((4 : Int32).toInt64.toUInt64 &&& Int64.toUInt64 63)).toInt64) &&& 1085102592571150095) + (((((((x0 - (((x0).toUInt64 >>> ((1 : Int32).toInt64.toUInt64 &&& Int64.toUInt64 63)).toInt64 &&& 6148914691236517205)) &&& 3689348814741910323) + ((((x0 - (((x0).toUInt64 >>> ((1 : Int32).toInt64.toUInt64 &&& Int64.toUInt64 63)).toInt64 &&& 6148914691236517205))).toUInt64 >>> ((2 : Int32).toInt64.toUInt64 &&& Int64.toUInt64 63)).toInt64 &&& 3689348814741910323)) + (((((x0 - (((x0).toUInt64 >>> ((1 : Int32).toInt64.toUInt64 &&& Int64.toUInt64 63)).toInt64 &&& 6148914691236517205)) &&& 3689348814741910323) + ((((x0 - (((x0).toUInt64 >>> ((1 : Int32).toInt64.toUInt64 &&& Int64.toUInt64 63)).toInt64 &&& 6148914691236517205))).toUInt64 >>> ((2 : Int32).toInt64.toUInt64 &&& Int64.toUInt64 63)).toInt64 &&& 3689348814741910323))).toUInt64 >>> ((4 : Int32).toInt64.toUInt64 &&& Int64.toUInt64 63)).toInt64) &&& 1085102592571150095)).toUInt64 >>> ((8 : Int32).toInt64.toUInt64 &&& Int64.toUInt64 63)).toInt64) + ((((((((x0 - (((x0).toUInt64 >>> ((1 : Int32).toInt64.toUInt64 &&& Int64.toUInt64 63)).toInt64 &&& 6148914691236517205)) &&& 3689348814741910323) + ((((x0 - (((x0).toUInt64 >>> ((1 : Int32).toInt64.toUInt64 &&& Int64.toUInt64 63)).toInt64 &&& 6148914691236517205))).toUInt64 >>> ((2 : Int32).toInt64.toUInt64 &&& Int64.toUInt64 63)).toInt64 &&& 3689348814741910323)) + (((((x0 - (((x0).toUInt64 >>> ((1 : Int32).toInt64.toUInt64 &&& Int64.toUInt64 63)).toInt64 &&& 6148914691236517205)) &&& 3689348814741910323) + ((((x0 - (((x0).toUInt64 >>> ((1 : Int32).toInt64.toUInt64 &&& Int64.toUInt64 63)).toInt64 &&& 6148914691236517205))).toUInt64 >>> ((2 : Int32).toInt64.toUInt64 &&& Int64.toUInt64 63)).toInt64 &&& 3689348814741910323))).toUInt64 >>> ((4 : Int32).toInt64.toUInt64 &&& Int64.toUInt64 63)).toInt64) &&& 1085102592571150095) + (((((((x0 - (((x0).toUInt64 >>> ((1 : Int32).toInt64.toUInt64 &&& Int64.toUInt64 63)).toInt64 &&& 6148914691236517205)) &&& 3689348814741910323) + ((((x0 - (((x0).toUInt64 >>> ((1 : Int32).toInt64.toUInt64 &&& Int64.toUInt64 63)).toInt64 &&& 6148914691236517205))).toUInt64 >>> ((2 : Int32).toInt64.toUInt64 &&& Int64.toUInt64 63)).toInt64 &&& 3689348814741910323)) + (((((x0 - (((x0).toUInt64 >>> ((1 : Int32).toInt64.toUInt64 &&& Int64.toUInt64 63)).toInt64 &&& 6148914691236517205)) &&& 3689348814741910323) + ((((x0 - (((x0).toUInt64 >>> ((1 : Int32).toInt64.toUInt64 &&& Int64.toUInt64 63)).toInt64 &&& 6148914691236517205))).toUInt64 >>> ((2 : Int32).toInt64.toUInt64 &&& Int64.toUInt64 63)).toInt64 &&& 3689348814741910323))).toUInt64 >>> ((4 : Int32).toInt64.toUInt64 &&& Int64.toUInt64 63)).toInt64) &&& 1085102592571150095)).toUInt64 >>> ((8 : Int32).toInt64.toUInt64 &&& Int64.toUInt64 63)).toInt64)).toUInt64 >>> ((16 : Int32).toInt64.toUInt64 &&& Int64.toUInt64 63)).toInt64))]) h0 dJ13_bitCount_95d88_47 rfl (Nat.le_of_ble_eq_true rfl) rfl rfl ?_
  refine r_lload_n (pc' := 49) h0 0 dJ13_bitCount_95d88_48 rfl rfl rfl ?_
  refine r_lload_n (pc' := 50) h0 0 dJ13_bitCount_95d88_49 rfl rfl rfl ?_
  refine r_bipush (pc' := 52) h0 dJ13_bitCount_95d88_50 kb_32 rfl ?_
  refine r_lushr (pc' := 53) h0 dJ13_bitCount_95d88_52 rfl ?_
  refine r_ladd (pc' := 54) h0 dJ13_bitCount_95d88_53 rfl ?_
  refine r_lstore_n (pc' := 55) (L' := [(0, .long ((((((((x0 - (((x0).toUInt64 >>> ((1 : Int32).toInt64.toUInt64 &&& Int64.toUInt64 63)).toInt64 &&& 6148914691236517205)) &&& 3689348814741910323) + ((((x0 - (((x0).toUInt64 >>> ((1 : Int32).toInt64.toUInt64 &&& Int64.toUInt64 63)).toInt64 &&& 6148914691236517205))).toUInt64 >>> ((2 : Int32).toInt64.toUInt64 &&& Int64.toUInt64 63)).toInt64 &&& 3689348814741910323)) + (((((x0 - (((x0).toUInt64 >>> ((1 : Int32).toInt64.toUInt64 &&& Int64.toUInt64 63)).toInt64 &&& 6148914691236517205)) &&& 3689348814741910323) + ((((x0 - (((x0).toUInt64 >>> ((1 : Int32).toInt64.toUInt64 &&& Int64.toUInt64 63)).toInt64 &&& 6148914691236517205))).toUInt64 >>> ((2 : Int32).toInt64.toUInt64 &&& Int64.toUInt64 63)).toInt64 &&& 3689348814741910323))).toUInt64 >>> ((4 : Int32).toInt64.toUInt64 &&& Int64.toUInt64 63)).toInt64) &&& 1085102592571150095) + (((((((x0 - (((x0).toUInt64 >>> ((1 : Int32).toInt64.toUInt64 &&& Int64.toUInt64 63)).toInt64 &&& 6148914691236517205)) &&& 3689348814741910323) + ((((x0 - (((x0).toUInt64 >>> ((1 : Int32).toInt64.toUInt64 &&& Int64.toUInt64 63)).toInt64 &&& 6148914691236517205))).toUInt64 >>> ((2 : Int32).toInt64.toUInt64 &&& Int64.toUInt64 63)).toInt64 &&& 3689348814741910323)) + (((((x0 - (((x0).toUInt64 >>> ((1 : Int32).toInt64.toUInt64 &&& Int64.toUInt64 63)).toInt64 &&& 6148914691236517205)) &&& 3689348814741910323) + ((((x0 - (((x0).toUInt64 >>> ((1 : Int32).toInt64.toUInt64 &&& Int64.toUInt64 63)).toInt64 &&& 6148914691236517205))).toUInt64 >>> ((2 : Int32).toInt64.toUInt64 &&& Int64.toUInt64 63)).toInt64 &&& 3689348814741910323))).toUInt64 >>> ((4 : Int32).toInt64.toUInt64 &&& Int64.toUInt64 63)).toInt64) &&& 1085102592571150095)).toUInt64 >>> ((8 : Int32).toInt64.toUInt64 &&& Int64.toUInt64 63)).toInt64) + ((((((((x0 - (((x0).toUInt64 >>> ((1 : Int32).toInt64.toUInt64 &&& Int64.toUInt64 63)).toInt64 &&& 6148914691236517205)) &&& 3689348814741910323) + ((((x0 - (((x0).toUInt64 >>> ((1 : Int32).toInt64.toUInt64 &&& Int64.toUInt64 63)).toInt64 &&& 6148914691236517205))).toUInt64 >>> ((2 : Int32).toInt64.toUInt64 &&& Int64.toUInt64 63)).toInt64 &&& 3689348814741910323)) + (((((x0 - (((x0).toUInt64 >>> ((1 : Int32).toInt64.toUInt64 &&& Int64.toUInt64 63)).toInt64 &&& 6148914691236517205)) &&& 3689348814741910323) + ((((x0 - (((x0).toUInt64 >>> ((1 : Int32).toInt64.toUInt64 &&& Int64.toUInt64 63)).toInt64 &&& 6148914691236517205))).toUInt64 >>> ((2 : Int32).toInt64.toUInt64 &&& Int64.toUInt64 63)).toInt64 &&& 3689348814741910323))).toUInt64 >>> ((4 : Int32).toInt64.toUInt64 &&& Int64.toUInt64 63)).toInt64) &&& 1085102592571150095) + (((((((x0 - (((x0).toUInt64 >>> ((1 : Int32).toInt64.toUInt64 &&& Int64.toUInt64 63)).toInt64 &&& 6148914691236517205)) &&& 3689348814741910323) + ((((x0 - (((x0).toUInt64 >>> ((1 : Int32).toInt64.toUInt64 &&& Int64.toUInt64 63)).toInt64 &&& 6148914691236517205))).toUInt64 >>> ((2 : Int32).toInt64.toUInt64 &&& Int64.toUInt64 63)).toInt64 &&& 3689348814741910323)) + (((((x0 - (((x0).toUInt64 >>> ((1 : Int32).toInt64.toUInt64 &&& Int64.toUInt64 63)).toInt64 &&& 6148914691236517205)) &&& 3689348814741910323) + ((((x0 - (((x0).toUInt64 >>> ((1 : Int32).toInt64.toUInt64 &&& Int64.toUInt64 63)).toInt64 &&& 6148914691236517205))).toUInt64 >>> ((2 : Int32).toInt64.toUInt64 &&& Int64.toUInt64 63)).toInt64 &&& 3689348814741910323))).toUInt64 >>> ((4 : Int32).toInt64.toUInt64 &&& Int64.toUInt64 63)).toInt64) &&& 1085102592571150095)).toUInt64 >>> ((8 : Int32).toInt64.toUInt64 &&& Int64.toUInt64 63)).toInt64)).toUInt64 >>> ((16 : Int32).toInt64.toUInt64 &&& Int64.toUInt64 63)).toInt64) + (((((((((x0 - (((x0).toUInt64 >>> ((1 : Int32).toInt64.toUInt64 &&& Int64.toUInt64 63)).toInt64 &&& 6148914691236517205)) &&& 3689348814741910323) + ((((x0 - (((x0).toUInt64 >>> ((1 : Int32).toInt64.toUInt64 &&& Int64.toUInt64 63)).toInt64 &&& 6148914691236517205))).toUInt64 >>> ((2 : Int32).toInt64.toUInt64 &&& Int64.toUInt64 63)).toInt64 &&& 3689348814741910323)) + (((((x0 - (((x0).toUInt64 >>> ((1 : Int32).toInt64.toUInt64 &&& Int64.toUInt64 63)).toInt64 &&& 6148914691236517205)) &&& 3689348814741910323) + ((((x0 - (((x0).toUInt64 >>> ((1 : Int32).toInt64.toUInt64 &&& Int64.toUInt64 63)).toInt64 &&& 6148914691236517205))).toUInt64 >>> ((2 : Int32).toInt64.toUInt64 &&& Int64.toUInt64 63)).toInt64 &&& 3689348814741910323))).toUInt64 >>> ((4 : Int32).toInt64.toUInt64 &&& Int64.toUInt64 63)).toInt64) &&& 1085102592571150095) + (((((((x0 - (((x0).toUInt64 >>> ((1 : Int32).toInt64.toUInt64 &&& Int64.toUInt64 63)).toInt64 &&& 6148914691236517205)) &&& 3689348814741910323) + ((((x0 - (((x0).toUInt64 >>> ((1 : Int32).toInt64.toUInt64 &&& Int64.toUInt64 63)).toInt64 &&& 6148914691236517205))).toUInt64 >>> ((2 : Int32).toInt64.toUInt64 &&& Int64.toUInt64 63)).toInt64 &&& 3689348814741910323)) + (((((x0 - (((x0).toUInt64 >>> ((1 : Int32).toInt64.toUInt64 &&& Int64.toUInt64 63)).toInt64 &&& 6148914691236517205)) &&& 3689348814741910323) + ((((x0 - (((x0).toUInt64 >>> ((1 : Int32).toInt64.toUInt64 &&& Int64.toUInt64 63)).toInt64 &&& 6148914691236517205))).toUInt64 >>> ((2 : Int32).toInt64.toUInt64 &&& Int64.toUInt64 63)).toInt64 &&& 3689348814741910323))).toUInt64 >>> ((4 : Int32).toInt64.toUInt64 &&& Int64.toUInt64 63)).toInt64) &&& 1085102592571150095)).toUInt64 >>> ((8 : Int32).toInt64.toUInt64 &&& Int64.toUInt64 63)).toInt64) + ((((((((x0 - (((x0).toUInt64 >>> ((1 : Int32).toInt64.toUInt64 &&& Int64.toUInt64 63)).toInt64 &&& 6148914691236517205)) &&& 3689348814741910323) + ((((x0 - (((x0).toUInt64 >>> ((1 : Int32).toInt64.toUInt64 &&& Int64.toUInt64 63)).toInt64 &&& 6148914691236517205))).toUInt64 >>> ((2 : Int32).toInt64.toUInt64 &&& Int64.toUInt64 63)).toInt64 &&& 3689348814741910323)) + (((((x0 - (((x0).toUInt64 >>> ((1 : Int32).toInt64.toUInt64 &&& Int64.toUInt64 63)).toInt64 &&& 6148914691236517205)) &&& 3689348814741910323) + ((((x0 - (((x0).toUInt64 >>> ((1 : Int32).toInt64.toUInt64 &&& Int64.toUInt64 63)).toInt64 &&& 6148914691236517205))).toUInt64 >>> ((2 : Int32).toInt64.toUInt64 &&& Int64.toUInt64 63)).toInt64 &&& 3689348814741910323))).toUInt64 >>> ((4 : Int32).toInt64.toUInt64 &&& Int64.toUInt64 63)).toInt64) &&& 1085102592571150095) + (((((((x0 - (((x0).toUInt64 >>> ((1 : Int32).toInt64.toUInt64 &&& Int64.toUInt64 63)).toInt64 &&& 6148914691236517205)) &&& 3689348814741910323) + ((((x0 - (((x0).toUInt64 >>> ((1 : Int32).toInt64.toUInt64 &&& Int64.toUInt64 63)).toInt64 &&& 6148914691236517205))).toUInt64 >>> ((2 : Int32).toInt64.toUInt64 &&& Int64.toUInt64 63)).toInt64 &&& 3689348814741910323)) + (((((x0 - (((x0).toUInt64 >>> ((1 : Int32).toInt64.toUInt64 &&& Int64.toUInt64 63)).toInt64 &&& 6148914691236517205)) &&& 3689348814741910323) + ((((x0 - (((x0).toUInt64 >>> ((1 : Int32).toInt64.toUInt64 &&& Int64.toUInt64 63)).toInt64 &&& 6148914691236517205))).toUInt64 >>> ((2 : Int32).toInt64.toUInt64 &&& Int64.toUInt64 63)).toInt64 &&& 3689348814741910323))).toUInt64 >>> ((4 : Int32).toInt64.toUInt64 &&& Int64.toUInt64 63)).toInt64) &&& 1085102592571150095)).toUInt64 >>> ((8 : Int32).toInt64.toUInt64 &&& Int64.toUInt64 63)).toInt64)).toUInt64 >>> ((16 : Int32).toInt64.toUInt64 &&& Int64.toUInt64 63)).toInt64)).toUInt64 >>> ((32 : Int32).toInt64.toUInt64 &&& Int64.toUInt64 63)).toInt64))]) h0 dJ13_bitCount_95d88_54 rfl (Nat.le_of_ble_eq_true rfl) rfl rfl ?_
  refine r_lload_n (pc' := 56) h0 0 dJ13_bitCount_95d88_55 rfl rfl rfl ?_
  refine r_l2i (pc' := 57) h0 dJ13_bitCount_95d88_56 rfl ?_
  refine r_bipush (pc' := 59) h0 dJ13_bitCount_95d88_57 kb_127 rfl ?_
  refine r_iand (pc' := 60) h0 dJ13_bitCount_95d88_59 rfl ?_
  exact r_iretR h0 hE dJ13_bitCount_95d88_60 h
/-- the machine does what f_X5_countCommon says -/
theorem c_X5_countCommon (g : GC) (fu : Nat) (k : Nat) (hk : k < 8) (i1 : Nat) (hi1 : i1 < 8) (S : Mem) {r : Int32}  (h : f_X5_countCommon fu k i1 S = some r) : ctN yX5_countCommon cX5_countCommon 2 (some .int) rm_X5_countCommon (wC g) [.ref (wA (wC g) 5 k), .ref (wA (wC g) 5 i1)] S (some (.int r)) S := by
  refine ct_of (own := RX5) (L := [(0, .ref (wA (wC g) 5 k)), (1, .ref (wA (wC g) 5 i1))]) (by decide +kernel) rfl (Nat.le_of_ble_eq_true rfl) rfl (fun X h0 hE => ?_)
  rw [f_X5_countCommon] at h
  refine r_aload_n (pc' := 1) h0 0 dX5_countCommon_0 rfl rfl rfl ?_
  refine gf_X5_7 (pc' := 4) h0 hk dX5_countCommon_1 rfl ?_
  refine r_aload_n (pc' := 5) h0 1 dX5_countCommon_4 rfl rfl rfl ?_
  refine gf_X5_7 (pc' := 8) h0 hi1 dX5_countCommon_5 rfl ?_
  refine r_land (pc' := 9) h0 dX5_countCommon_8 rfl ?_
  obtain ⟨r9, h9, h⟩ := b1_some h
  refine go_S (k_X5_18 g) (st2 := [.int r9]) (pc' := 12) [.long ((S.2 5 k 0) &&& (S.2 5 i1 0))] [] h0 (c_J13_bitCount_95d88 (wC g) fu ((S.2 5 k 0) &&& (S.2 5 i1 0)) S h9) rfl rfl dX5_countCommon_9 rfl (Nat.le_of_ble_eq_true rfl) ⟨rfl, rfl, Nat.le_of_ble_eq_true rfl, Nat.le_of_ble_eq_true rfl⟩ ⟨Nat.le_of_ble_eq_true rfl, Nat.le_of_ble_eq_true rfl⟩ rfl ?_
  refine r_aload_n (pc' := 13) h0 0 dX5_countCommon_12 rfl rfl rfl ?_
  refine gf_X5_13 (pc' := 16) h0 hk dX5_countCommon_13 rfl ?_
  refine r_aload_n (pc' := 17) h0 1 dX5_countCommon_16 rfl rfl rfl ?_
  refine gf_X5_13 (pc' := 20) h0 hi1 dX5_countCommon_17 rfl ?_
  refine r_land (pc' := 21) h0 dX5_countCommon_20 rfl ?_
  obtain ⟨r21, h21, h⟩ := b1_some h
  refine go_S (k_X5_18 g) (st2 := [.int r21, .int r9]) (pc' := 24) [.long ((S.2 5 k 1) &&& (S.2 5 i1 1))] [.int r9] h0 (c_J13_bitCount_95d88 (wC g) fu ((S.2 5 k 1) &&& (S.2 5 i1 1)) S h21) rfl rfl dX5_countCommon_21 rfl (Nat.le_of_ble_eq_true rfl) ⟨rfl, rfl, Nat.le_of_ble_eq_true rfl, Nat.le_of_ble_eq_true rfl⟩ ⟨Nat.le_of_ble_eq_true rfl, Nat.le_of_ble_eq_true rfl⟩ rfl ?_
  refine r_iadd (pc' := 25) h0 dX5_countCommon_24 rfl ?_
  exact r_iretR h0 hE dX5_countCommon_25 h
theorem w_X0_width_26 {g : GC} {X : MX} {r : Int32} {S' : Mem} (h0 : CX RX0 cX0_width 3 rm_X0_width X (wC g)) (fu : Nat) (x1 : Int32) (hE : EN (some .int) (some (.int r)) S' X (wC g)) : ∀ (t0 : Nat) (ht0 : t0 < 8) (S : Mem), f_X0_width_26 fu x1 t0 S = some (r, S') → GV X (wC g) 3 0 0 S [] 26 [.ref (wA (wC g) 5 t0)] := by
  intro t0 ht0 S h
  rw [f_X0_width_26] at h
  refine r_astore_n (pc' := 27) (L' := [(2, .ref (wA (wC g) 5 t0))]) h0 dX0_width_26 rfl (Nat.le_of_ble_eq_true rfl) rfl rfl ?_
  refine r_aload_n (pc' := 28) h0 0 dX0_width_27 rfl rfl rfl ?_
  refine r_aload_n (pc' := 29) h0 0 dX0_width_28 rfl rfl rfl ?_
  obtain ⟨r29, h29, h⟩ := b1_some h
  refine go_V (k_X0_87 g) (st2 := [.int r29]) (pc' := 32) [.ref (wA (wC g) 5 t0)] [] h0 ht0 (c_X5_countCommon g fu t0 ht0 t0 ht0 S h29) rfl rfl dX0_width_29 rfl (Nat.le_of_ble_eq_true rfl) ⟨rfl, rfl, Nat.le_of_ble_eq_true rfl, Nat.le_of_ble_eq_true rfl⟩ ⟨Nat.le_of_ble_eq_true rfl, Nat.le_of_ble_eq_true rfl⟩ rfl ?_
  exact r_iret h0 hE dX0_width_32 h
/-- the machine does what f_X0_width says -/
theorem c_X0_width (g : GC) (fu : Nat) (x1 : Int32) (S : Mem) {r : Int32} {S' : Mem} (h : f_X0_width fu x1 S = some (r, S')) : ctN yX0_width cX0_width 3 (some .int) rm_X0_width (wC g) [.ref (wA (wC g) 0 0), .int x1] S (some (.int r)) S' := by
  refine ct_of (own := RX0) (L := [(0, .ref (wA (wC g) 0 0)), (1, .int x1)]) (by decide +kernel) rfl (Nat.le_of_ble_eq_true rfl) rfl (fun X h0 hE => ?_)
  rw [f_X0_width] at h
  refine r_aload_n (pc' := 1) h0 0 dX0_width_0 rfl rfl rfl ?_
  refine r_iconst (pc' := 2) h0 dX0_width_1 ki_m1 rfl ?_
  obtain ⟨r2, S2, h2, h⟩ := b2_some h
  refine go_V (k_X0_84 g) (st2 := []) (pc' := 5) [.int (-1)] [] h0 (Nat.le_of_ble_eq_true rfl) (c_X0_fillCommon g fu (-1) S h2) rfl rfl dX0_width_2 rfl (Nat.le_of_ble_eq_true rfl) ⟨rfl, rfl, Nat.le_of_ble_eq_true rfl, Nat.le_of_ble_eq_true rfl⟩ ⟨Nat.le_of_ble_eq_true rfl, Nat.le_of_ble_eq_true rfl⟩ rfl ?_
  refine r_iload_n (pc' := 6) h0 1 dX0_width_5 rfl rfl rfl ?_
  refine r_if_eq (pt := 19) (pf := 9) h0 dX0_width_6 rfl rfl h (fun c6 h => ?_) (fun c6 h => ?_)
  · refine r_aload_n (pc' := 20) h0 0 dX0_width_19 rfl rfl rfl ?_
    refine gf_X0_12 (pc' := 23) h0 (Nat.le_of_ble_eq_true rfl) dX0_width_20 rfl ?_
    refine gf_X0_67 (pc' := 26) h0 (Nat.le_of_ble_eq_true rfl) dX0_width_23 rfl ?_
    refine r_sub (L' := []) [] rfl ?_
    exact w_X0_width_26 h0 fu x1 hE (2 * 0 + 1) (lt8b (Nat.le_of_ble_eq_true rfl)) S2 h
  · refine r_aload_n (pc' := 10) h0 0 dX0_width_9 rfl rfl rfl ?_
    refine gf_X0_12 (pc' := 13) h0 (Nat.le_of_ble_eq_true rfl) dX0_width_10 rfl ?_
    refine gf_X0_57 (pc' := 16) h0 (Nat.le_of_ble_eq_true rfl) dX0_width_13 rfl ?_
    refine r_goto (pc' := 26) h0 dX0_width_16 rfl ?_
    refine r_sub (L' := []) [] rfl ?_
    exact w_X0_width_26 h0 fu x1 hE (2 * 0) (lt8a (Nat.le_of_ble_eq_true rfl)) S2 h
/-- the machine does what f_X2_countCommon says -/
theorem c_X2_countCommon (g : GC) (fu : Nat) (k : Nat) (hk : k < 4) (i1 : Nat) (hi1 : i1 < 4) (S : Mem) {r : Int32}  (h : f_X2_countCommon fu k i1 S = some r) : ctN yX2_countCommon cX2_countCommon 2 (some .int) rm_X2_countCommon (wC g) [.ref (wA (wC g) 2 k), .ref (wA (wC g) 2 i1)] S (some (.int r)) S := by
  refine ct_of (own := RX2) (L := [(0, .ref (wA (wC g) 2 k)), (1, .ref (wA (wC g) 2 i1))]) (by decide +kernel) rfl (Nat.le_of_ble_eq_true rfl) rfl (fun X h0 hE => ?_)
  rw [f_X2_countCommon] at h
  refine r_aload_n (pc' := 1) h0 0 dX2_countCommon_0 rfl rfl rfl ?_
  refine gf_X2_10 (pc' := 4) h0 hk dX2_countCommon_1 rfl ?_
  refine r_aload_n (pc' := 5) h0 1 dX2_countCommon_4 rfl rfl rfl ?_
  refine gf_X2_10 (pc' := 8) h0 hi1 dX2_countCommon_5 rfl ?_
  obtain ⟨r8, h8, h⟩ := b1_some h
  refine go_V (k_X2_30 g) (st2 := [.int r8]) (pc' := 11) [.ref (wA (wC g) 5 (2 * i1))] [] h0 (lt8a hk) (c_X5_countCommon g fu (2 * k) (lt8a hk) (2 * i1) (lt8a hi1) S h8) rfl rfl dX2_countCommon_8 rfl (Nat.le_of_ble_eq_true rfl) ⟨rfl, rfl, Nat.le_of_ble_eq_true rfl, Nat.le_of_ble_eq_true rfl⟩ ⟨Nat.le_of_ble_eq_true rfl, Nat.le_of_ble_eq_true rfl⟩ rfl ?_
  refine r_aload_n (pc' := 12) h0 0 dX2_countCommon_11 rfl rfl rfl ?_
  refine gf_X2_16 (pc' := 15) h0 hk dX2_countCommon_12 rfl ?_
  refine r_aload_n (pc' := 16) h0 1 dX2_countCommon_15 rfl rfl rfl ?_
  refine gf_X2_16 (pc' := 19) h0 hi1 dX2_countCommon_16 rfl ?_
  obtain ⟨r19, h19, h⟩ := b1_some h
  refine go_V (k_X2_30 g) (st2 := [.int r19, .int r8]) (pc' := 22) [.ref (wA (wC g) 5 (2 * i1 + 1))] [.int r8] h0 (lt8b hk) (c_X5_countCommon g fu (2 * k + 1) (lt8b hk) (2 * i1 + 1) (lt8b hi1) S h19) rfl rfl dX2_countCommon_19 rfl (Nat.le_of_ble_eq_true rfl) ⟨rfl, rfl, Nat.le_of_ble_eq_true rfl, Nat.le_of_ble_eq_true rfl⟩ ⟨Nat.le_of_ble_eq_true rfl, Nat.le_of_ble_eq_true rfl⟩ rfl ?_
  refine r_iadd (pc' := 23) h0 dX2_countCommon_22 rfl ?_
  exact r_iretR h0 hE dX2_countCommon_23 h
theorem w_X5_has_38 {g : GC} {X : MX} {r : Int32}  (h0 : CX RX5 cX5_has 4 rm_X5_has X (wC g)) (fu : Nat) (k : Nat) (hk : k < 8) (x1 : Int32) (S : Mem) (hE : EN (some .boolean) (some (.int r)) S X (wC g)) : ∀ (t0 : Int32), f_X5_has_38 fu k x1 S t0 = some r → GV X (wC g) 4 0 0 S [] 38 [.int t0] := by
  intro t0 h
  rw [f_X5_has_38] at h
  exact r_zretR h0 hE dX5_has_38 h
theorem w_X5_has_24 {g : GC} {X : MX} {r : Int32}  (h0 : CX RX5 cX5_has 4 rm_X5_has X (wC g)) (fu : Nat) (k : Nat) (hk : k < 8) (x1 : Int32) (S : Mem) (hE : EN (some .boolean) (some (.int r)) S X (wC g)) : ∀ (t0 : Int64), f_X5_has_24 fu k x1 S t0 = some r → GV X (wC g) 4 0 0 S [] 24 [.long t0] := by
  intro t0 h
  rw [f_X5_has_24] at h
  refine r_lstore_n (pc' := 25) (L' := [(2, .long t0)]) h0 dX5_has_24 rfl (Nat.le_of_ble_eq_true rfl) rfl rfl ?_
  refine r_lload_n (pc' := 26) h0 0 dX5_has_25 rfl rfl rfl ?_
  refine r_lconst (pc' := 27) (v := 1) h0 dX5_has_26 rfl rfl ?_
  refine r_land (pc' := 28) h0 dX5_has_27 rfl ?_
  refine r_lconst (pc' := 29) (v := 0) h0 dX5_has_28 rfl rfl ?_
  refine r_lcmp (pc' := 30) h0 dX5_has_29 rfl ?_
  refine r_if_eq (pt := 37) (pf := 33) h0 dX5_has_30 rfl rfl h (fun c30 h => ?_) (fun c30 h => ?_)
  · refine r_iconst (pc' := 38) h0 dX5_has_37 ki_0 rfl ?_
    refine r_sub (L' := []) [] rfl ?_
    exact w_X5_has_38 h0 fu k hk x1 S hE 0 h
  · refine r_iconst (pc' := 34) h0 dX5_has_33 ki_1 rfl ?_
    refine r_goto (pc' := 38) h0 dX5_has_34 rfl ?_
    refine r_sub (L' := []) [] rfl ?_
    exact w_X5_has_38 h0 fu k hk x1 S hE 1 h
/-- the machine does what f_X5_has says -/
theorem c_X5_has (g : GC) (fu : Nat) (k : Nat) (hk : k < 8) (x1 : Int32) (S : Mem) {r : Int32}  (h : f_X5_has fu k x1 S = some r) : ctN yX5_has cX5_has 4 (some .boolean) rm_X5_has (wC g) [.ref (wA (wC g) 5 k), .int x1] S (some (.int r)) S := by
  refine ct_of (own := RX5) (L := [(0, .ref (wA (wC g) 5 k)), (1, .int x1)]) (by decide +kernel) rfl (Nat.le_of_ble_eq_true rfl) rfl (fun X h0 hE => ?_)
  rw [f_X5_has] at h
  refine r_iload_n (pc' := 1) h0 1 dX5_has_0 rfl rfl rfl ?_
  refine r_bipush (pc' := 3) h0 dX5_has_1 kb_64 rfl ?_
  refine r_ic_ge (pt := 15) (pf := 6) h0 dX5_has_3 rfl rfl h (fun c3 h => ?_) (fun c3 h => ?_)
  · refine r_aload_n (pc' := 16) h0 0 dX5_has_15 rfl rfl rfl ?_
    refine gf_X5_13 (pc' := 19) h0 hk dX5_has_16 rfl ?_
    refine r_iload_n (pc' := 20) h0 1 dX5_has_19 rfl rfl rfl ?_
    refine r_bipush (pc' := 22) h0 dX5_has_20 kb_64 rfl ?_
    refine r_isub (pc' := 23) h0 dX5_has_22 rfl ?_
    refine r_lushr (pc' := 24) h0 dX5_has_23 rfl ?_
    refine r_sub (L' := []) [] rfl ?_
    exact w_X5_has_24 h0 fu k hk x1 S hE ((((S.2 5 k 1)).toUInt64 >>> (((x1 - 64) : Int32).toInt64.toUInt64 &&& Int64.toUInt64 63)).toInt64) h
  · refine r_aload_n (pc' := 7) h0 0 dX5_has_6 rfl rfl rfl ?_
    refine gf_X5_7 (pc' := 10) h0 hk dX5_has_7 rfl ?_
    refine r_iload_n (pc' := 11) h0 1 dX5_has_10 rfl rfl rfl ?_
    refine r_lushr (pc' := 12) h0 dX5_has_11 rfl ?_
    refine r_goto (pc' := 24) h0 dX5_has_12 rfl ?_
    refine r_sub (L' := []) [] rfl ?_
    exact w_X5_has_24 h0 fu k hk x1 S hE ((((S.2 5 k 0)).toUInt64 >>> ((x1 : Int32).toInt64.toUInt64 &&& Int64.toUInt64 63)).toInt64) h
theorem w_X5_remove_44 {g : GC} {X : MX} {S' : Mem} (h0 : CX RX5 cX5_remove 2 rm_X5_remove X (wC g)) (fu : Nat) (k : Nat) (hk : k < 8) (x1 : Int32) (hE : EN none none S' X (wC g)) : ∀ (S : Mem), f_X5_remove_44 fu k x1 S = some ((), S') → GV X (wC g) 2 0 0 S [] 44 [] := by
  intro S h
  rw [f_X5_remove_44] at h
  exact r_vret h0 hE dX5_remove_44 h
/-- the machine does what f_X5_remove says -/
theorem c_X5_remove (g : GC) (fu : Nat) (k : Nat) (hk : k < 8) (x1 : Int32) (S : Mem) {S' : Mem} (h : f_X5_remove fu k x1 S = some ((), S')) : ctN yX5_remove cX5_remove 2 none rm_X5_remove (wC g) [.ref (wA (wC g) 5 k), .int x1] S none S' := by
  refine ct_of (own := RX5) (L := [(0, .ref (wA (wC g) 5 k)), (1, .int x1)]) (by decide +kernel) rfl (Nat.le_of_ble_eq_true rfl) rfl (fun X h0 hE => ?_)
  rw [f_X5_remove] at h
  refine r_iload_n (pc' := 1) h0 1 dX5_remove_0 rfl rfl rfl ?_
  refine r_bipush (pc' := 3) h0 dX5_remove_1 kb_64 rfl ?_
  refine r_ic_ge (pt := 25) (pf := 6) h0 dX5_remove_3 rfl rfl h (fun c3 h => ?_) (fun c3 h => ?_)
  · refine r_aload_n (pc' := 26) h0 0 dX5_remove_25 rfl rfl rfl ?_
    refine r_dup (pc' := 27) h0 dX5_remove_26 rfl rfl ?_
    refine gf_X5_13 (pc' := 30) h0 hk dX5_remove_27 rfl ?_
    refine r_lconst (pc' := 31) (v := 1) h0 dX5_remove_30 rfl rfl ?_
    refine r_iload_n (pc' := 32) h0 1 dX5_remove_31 rfl rfl rfl ?_
    refine r_bipush (pc' := 34) h0 dX5_remove_32 kb_64 rfl ?_
    refine r_isub (pc' := 35) h0 dX5_remove_34 rfl ?_
    refine r_lshl (pc' := 36) h0 dX5_remove_35 rfl ?_
    refine r_ldc2 (pc' := 39) h0 v_717 dX5_remove_36 rfl ?_
    refine r_lxor (pc' := 40) h0 dX5_remove_39 rfl ?_
    refine r_land (pc' := 41) h0 dX5_remove_40 rfl ?_
    refine pf_X5_13 (pc' := 44) h0 hk dX5_remove_41 rfl ?_
    refine r_sub (L' := []) [] rfl ?_
    exact w_X5_remove_44 h0 fu k hk x1 hE (wL S 5 k 1 ((S.2 5 k 1) &&& (((1 : Int64) <<< (((x1 - 64) : Int32).toInt64 &&& 63)) ^^^ (-1)))) h
  · refine r_aload_n (pc' := 7) h0 0 dX5_remove_6 rfl rfl rfl ?_
    refine r_dup (pc' := 8) h0 dX5_remove_7 rfl rfl ?_
    refine gf_X5_7 (pc' := 11) h0 hk dX5_remove_8 rfl ?_
    refine r_lconst (pc' := 12) (v := 1) h0 dX5_remove_11 rfl rfl ?_
    refine r_iload_n (pc' := 13) h0 1 dX5_remove_12 rfl rfl rfl ?_
    refine r_lshl (pc' := 14) h0 dX5_remove_13 rfl ?_
    refine r_ldc2 (pc' := 17) h0 v_717 dX5_remove_14 rfl ?_
    refine r_lxor (pc' := 18) h0 dX5_remove_17 rfl ?_
    refine r_land (pc' := 19) h0 dX5_remove_18 rfl ?_
    refine pf_X5_7 (pc' := 22) h0 hk dX5_remove_19 rfl ?_
    refine r_goto (pc' := 44) h0 dX5_remove_22 rfl ?_
    refine r_sub (L' := []) [] rfl ?_
    exact w_X5_remove_44 h0 fu k hk x1 hE (wL S 5 k 0 ((S.2 5 k 0) &&& (((1 : Int64) <<< ((x1 : Int32).toInt64 &&& 63)) ^^^ (-1)))) h
theorem w_X5_turn_15 {g : GC} {X : MX} {S' : Mem} (h0 : CX RX5 cX5_turn 4 rm_X5_turn X (wC g)) (fu : Nat) (k : Nat) (hk : k < 8) (x1 : Int32) (hE : EN none none S' X (wC g)) : ∀ (t0 : Int64) (S : Mem), f_X5_turn_15 fu k x1 t0 S = some ((), S') → GV X (wC g) 4 0 0 S [(0, .ref (wA (wC g) 5 k)), (1, .int x1)] 15 [.long t0] := by
  intro t0 S h
  rw [f_X5_turn_15] at h
  refine r_lstore_n (pc' := 16) (L' := [(2, .long t0), (0, .ref (wA (wC g) 5 k)), (1, .int x1)]) h0 dX5_turn_15 rfl (Nat.le_of_ble_eq_true rfl) rfl rfl ?_
  refine r_aload_n (pc' := 17) h0 1 dX5_turn_16 rfl rfl rfl ?_
  refine r_aload_n (pc' := 18) h0 1 dX5_turn_17 rfl rfl rfl ?_
  refine gf_X5_13 (pc' := 21) h0 hk dX5_turn_18 rfl ?_
  refine r_iconst (pc' := 22) h0 dX5_turn_21 ki_1 rfl ?_
  refine r_lshl (pc' := 23) h0 dX5_turn_22 rfl ?_
  refine r_aload_n (pc' := 24) h0 1 dX5_turn_23 rfl rfl rfl ?_
  refine gf_X5_7 (pc' := 27) h0 hk dX5_turn_24 rfl ?_
  refine r_bipush (pc' := 29) h0 dX5_turn_27 kb_63 rfl ?_
  refine r_lushr (pc' := 30) h0 dX5_turn_29 rfl ?_
  refine r_lor (pc' := 31) h0 dX5_turn_30 rfl ?_
  refine pf_X5_13 (pc' := 34) h0 hk dX5_turn_31 rfl ?_
  refine r_aload_n (pc' := 35) h0 1 dX5_turn_34 rfl rfl rfl ?_
  refine r_aload_n (pc' := 36) h0 1 dX5_turn_35 rfl rfl rfl ?_
  refine gf_X5_7 (pc' := 39) h0 hk dX5_turn_36 rfl ?_
  refine r_iconst (pc' := 40) h0 dX5_turn_39 ki_1 rfl ?_
  refine r_lshl (pc' := 41) h0 dX5_turn_40 rfl ?_
  refine r_lload_n (pc' := 42) h0 0 dX5_turn_41 rfl rfl rfl ?_
  refine r_lor (pc' := 43) h0 dX5_turn_42 rfl ?_
  refine pf_X5_7 (pc' := 46) h0 hk dX5_turn_43 rfl ?_
  refine r_aload_n (pc' := 47) h0 1 dX5_turn_46 rfl rfl rfl ?_
  refine r_iload_n (pc' := 48) h0 2 dX5_turn_47 rfl rfl rfl ?_
  obtain ⟨r48, S48, h48, h⟩ := b2_some h
  refine go_V (k_X5_28 g) (st2 := []) (pc' := 51) [.int x1] [] h0 hk (c_X5_remove g fu k hk x1 (wL (wL S 5 k 1 (((S.2 5 k 1) <<< ((1 : Int32).toInt64 &&& 63)) ||| (((S.2 5 k 0)).toUInt64 >>> ((63 : Int32).toInt64.toUInt64 &&& Int64.toUInt64 63)).toInt64)) 5 k 0 ((((wL S 5 k 1 (((S.2 5 k 1) <<< ((1 : Int32).toInt64 &&& 63)) ||| (((S.2 5 k 0)).toUInt64 >>> ((63 : Int32).toInt64.toUInt64 &&& Int64.toUInt64 63)).toInt64)).2 5 k 0) <<< ((1 : Int32).toInt64 &&& 63)) ||| t0)) h48) rfl rfl dX5_turn_48 rfl (Nat.le_of_ble_eq_true rfl) ⟨rfl, rfl, Nat.le_of_ble_eq_true rfl, Nat.le_of_ble_eq_true rfl⟩ ⟨Nat.le_of_ble_eq_true rfl, Nat.le_of_ble_eq_true rfl⟩ rfl ?_
  exact r_vret h0 hE dX5_turn_51 h
/-- the machine does what f_X5_turn says -/
theorem c_X5_turn (g : GC) (fu : Nat) (k : Nat) (hk : k < 8) (x1 : Int32) (S : Mem) {S' : Mem} (h : f_X5_turn fu k x1 S = some ((), S')) : ctN yX5_turn cX5_turn 4 none rm_X5_turn (wC g) [.ref (wA (wC g) 5 k), .int x1] S none S' := by
  refine ct_of (own := RX5) (L := [(0, .ref (wA (wC g) 5 k)), (1, .int x1)]) (by decide +kernel) rfl (Nat.le_of_ble_eq_true rfl) rfl (fun X h0 hE => ?_)
  rw [f_X5_turn] at h
  refine r_aload_n (pc' := 1) h0 0 dX5_turn_0 rfl rfl rfl ?_
  refine r_iload_n (pc' := 2) h0 1 dX5_turn_1 rfl rfl rfl ?_
  refine r_iconst (pc' := 3) h0 dX5_turn_2 ki_1 rfl ?_
  refine r_isub (pc' := 4) h0 dX5_turn_3 rfl ?_
  obtain ⟨r4, h4, h⟩ := b1_some h
  refine go_V (k_X5_24 g) (st2 := [.int r4]) (pc' := 7) [.int (x1 - 1)] [] h0 hk (c_X5_has g fu k hk (x1 - 1) S h4) rfl rfl dX5_turn_4 rfl (Nat.le_of_ble_eq_true rfl) ⟨rfl, rfl, Nat.le_of_ble_eq_true rfl, Nat.le_of_ble_eq_true rfl⟩ ⟨Nat.le_of_ble_eq_true rfl, Nat.le_of_ble_eq_true rfl⟩ rfl ?_
  refine r_if_eq (pt := 14) (pf := 10) h0 dX5_turn_7 rfl rfl h (fun c7 h => ?_) (fun c7 h => ?_)
  · refine r_lconst (pc' := 15) (v := 0) h0 dX5_turn_14 rfl rfl ?_
    exact w_X5_turn_15 h0 fu k hk x1 hE 0 S h
  · refine r_lconst (pc' := 11) (v := 1) h0 dX5_turn_10 rfl rfl ?_
    refine r_goto (pc' := 15) h0 dX5_turn_11 rfl ?_
    exact w_X5_turn_15 h0 fu k hk x1 hE 1 S h
/-- the machine does what f_X2_turn says -/
theorem c_X2_turn (g : GC) (fu : Nat) (k : Nat) (hk : k < 4) (x1 : Int32) (S : Mem) {S' : Mem} (h : f_X2_turn fu k x1 S = some ((), S')) : ctN yX2_turn cX2_turn 2 none rm_X2_turn (wC g) [.ref (wA (wC g) 2 k), .int x1] S none S' := by
  refine ct_of (own := RX2) (L := [(0, .ref (wA (wC g) 2 k)), (1, .int x1)]) (by decide +kernel) rfl (Nat.le_of_ble_eq_true rfl) rfl (fun X h0 hE => ?_)
  rw [f_X2_turn] at h
  refine r_aload_n (pc' := 1) h0 0 dX2_turn_0 rfl rfl rfl ?_
  refine gf_X2_10 (pc' := 4) h0 hk dX2_turn_1 rfl ?_
  refine r_iload_n (pc' := 5) h0 1 dX2_turn_4 rfl rfl rfl ?_
  obtain ⟨r5, S5, h5, h⟩ := b2_some h
  refine go_V (k_X2_34 g) (st2 := []) (pc' := 8) [.int x1] [] h0 (lt8a hk) (c_X5_turn g fu (2 * k) (lt8a hk) x1 S h5) rfl rfl dX2_turn_5 rfl (Nat.le_of_ble_eq_true rfl) ⟨rfl, rfl, Nat.le_of_ble_eq_true rfl, Nat.le_of_ble_eq_true rfl⟩ ⟨Nat.le_of_ble_eq_true rfl, Nat.le_of_ble_eq_true rfl⟩ rfl ?_
  refine r_aload_n (pc' := 9) h0 0 dX2_turn_8 rfl rfl rfl ?_
  refine gf_X2_16 (pc' := 12) h0 hk dX2_turn_9 rfl ?_
  refine r_iload_n (pc' := 13) h0 1 dX2_turn_12 rfl rfl rfl ?_
  obtain ⟨r13, S13, h13, h⟩ := b2_some h
  refine go_V (k_X2_34 g) (st2 := []) (pc' := 16) [.int x1] [] h0 (lt8b hk) (c_X5_turn g fu (2 * k + 1) (lt8b hk) x1 S5 h13) rfl rfl dX2_turn_13 rfl (Nat.le_of_ble_eq_true rfl) ⟨rfl, rfl, Nat.le_of_ble_eq_true rfl, Nat.le_of_ble_eq_true rfl⟩ ⟨Nat.le_of_ble_eq_true rfl, Nat.le_of_ble_eq_true rfl⟩ rfl ?_
  exact r_vret h0 hE dX2_turn_16 h
theorem w_X0_lowestBestOffset_41 {g : GC} {X : MX} {r : Int32} {S' : Mem} (h0 : CX RX0 cX0_lowestBestOffset 5 rm_X0_lowestBestOffset X (wC g)) (fu : Nat) (hE : EN (some .int) (some (.int r)) S' X (wC g)) (K6 : Int32 → Int32 → Int32 → Mem → Option (Int32 × Mem)) (kK6 : ∀ (x1 : Int32) (x2 : Int32) (x3 : Int32) (S : Mem), K6 x1 x2 x3 S = some (r, S') → GV X (wC g) 5 0 0 S [(0, .ref (wA (wC g) 0 0)), (1, .int x1), (2, .int x2), (3, .int x3)] 6 []) : ∀ (x1 : Int32) (x2 : Int32) (x3 : Int32) (S : Mem), f_X0_lowestBestOffset_41 fu K6 x1 x2 x3 S = some (r, S') → GV X (wC g) 5 0 0 S [(0, .ref (wA (wC g) 0 0)), (1, .int x1), (2, .int x2), (3, .int x3)] 41 [] := by
  intro x1 x2 x3 S h
  rw [f_X0_lowestBestOffset_41] at h
  refine r_aload_n (pc' := 42) h0 0 dX0_lowestBestOffset_41 rfl rfl rfl ?_
  refine gf_X0_18 (pc' := 45) h0 (Nat.le_of_ble_eq_true rfl) dX0_lowestBestOffset_42 rfl ?_
  refine r_aload_n (pc' := 46) h0 0 dX0_lowestBestOffset_45 rfl rfl rfl ?_
  refine gf_X0_27 (pc' := 49) h0 (Nat.le_of_ble_eq_true rfl) dX0_lowestBestOffset_46 rfl ?_
  refine gf_X0_48 (pc' := 52) h0 (Nat.le_of_ble_eq_true rfl) dX0_lowestBestOffset_49 rfl ?_
  obtain ⟨r52, S52, h52, h⟩ := b2_some h
  refine go_V (k_X0_102 g) (st2 := []) (pc' := 55) [.int (S.1 1 0 2)] [] h0 (Nat.le_of_ble_eq_true rfl) (c_X2_turn g fu 1 (Nat.le_of_ble_eq_true rfl) (S.1 1 0 2) S h52) rfl rfl dX0_lowestBestOffset_52 rfl (Nat.le_of_ble_eq_true rfl) ⟨rfl, rfl, Nat.le_of_ble_eq_true rfl, Nat.le_of_ble_eq_true rfl⟩ ⟨Nat.le_of_ble_eq_true rfl, Nat.le_of_ble_eq_true rfl⟩ rfl ?_
  refine r_iinc (pc' := 58) (L' := [(3, .int (x3 + 1)), (0, .ref (wA (wC g) 0 0)), (1, .int x1), (2, .int x2)]) h0 3 dX0_lowestBestOffset_55 rfl ki_1 (Nat.le_of_ble_eq_true rfl) rfl rfl ?_
  refine r_goto (pc' := 6) h0 dX0_lowestBestOffset_58 rfl ?_
  refine r_sub (L' := [(0, .ref (wA (wC g) 0 0)), (1, .int x1), (2, .int x2), (3, .int (x3 + 1))]) [1, 2, 3, 0] rfl ?_
  exact kK6 x1 x2 (x3 + 1) S52 h
theorem w_X0_lowestBestOffset_6 {g : GC} {X : MX} {r : Int32} {S' : Mem} (h0 : CX RX0 cX0_lowestBestOffset 5 rm_X0_lowestBestOffset X (wC g)) (fu : Nat) (hE : EN (some .int) (some (.int r)) S' X (wC g)) : ∀ (n : Nat) (x1 : Int32) (x2 : Int32) (x3 : Int32) (S : Mem), f_X0_lowestBestOffset_6 fu n x1 x2 x3 S = some (r, S') → GV X (wC g) 5 0 0 S [(0, .ref (wA (wC g) 0 0)), (1, .int x1), (2, .int x2), (3, .int x3)] 6 [] := by
  intro n
  induction n with
  | zero =>
    intro x1 x2 x3 S h
    exact nomatch (show none = _ from h)
  | succ n ih =>
    intro x1 x2 x3 S h
    rw [f_X0_lowestBestOffset_6] at h
    refine r_iload_n (pc' := 7) h0 3 dX0_lowestBestOffset_6 rfl rfl rfl ?_
    refine r_aload_n (pc' := 8) h0 0 dX0_lowestBestOffset_7 rfl rfl rfl ?_
    refine gf_X0_27 (pc' := 11) h0 (Nat.le_of_ble_eq_true rfl) dX0_lowestBestOffset_8 rfl ?_
    refine gf_X0_48 (pc' := 14) h0 (Nat.le_of_ble_eq_true rfl) dX0_lowestBestOffset_11 rfl ?_
    refine r_ic_ge (pt := 61) (pf := 17) h0 dX0_lowestBestOffset_14 rfl rfl h (fun c14 h => ?_) (fun c14 h => ?_)
    · refine r_iload_n (pc' := 62) h0 1 dX0_lowestBestOffset_61 rfl rfl rfl ?_
      exact r_iret h0 hE dX0_lowestBestOffset_62 h
    · refine r_aload_n (pc' := 18) h0 0 dX0_lowestBestOffset_17 rfl rfl rfl ?_
      refine gf_X0_12 (pc' := 21) h0 (Nat.le_of_ble_eq_true rfl) dX0_lowestBestOffset_18 rfl ?_
      refine r_aload_n (pc' := 22) h0 0 dX0_lowestBestOffset_21 rfl rfl rfl ?_
      refine gf_X0_18 (pc' := 25) h0 (Nat.le_of_ble_eq_true rfl) dX0_lowestBestOffset_22 rfl ?_
      obtain ⟨r25, h25, h⟩ := b1_some h
      refine go_V (k_X0_95 g) (st2 := [.int r25]) (pc' := 28) [.ref (wA (wC g) 2 1)] [] h0 (Nat.le_of_ble_eq_true rfl) (c_X2_countCommon g fu 0 (Nat.le_of_ble_eq_true rfl) 1 (Nat.le_of_ble_eq_true rfl) S h25) rfl rfl dX0_lowestBestOffset_25 rfl (Nat.le_of_ble_eq_true rfl) ⟨rfl, rfl, Nat.le_of_ble_eq_true rfl, Nat.le_of_ble_eq_true rfl⟩ ⟨Nat.le_of_ble_eq_true rfl, Nat.le_of_ble_eq_true rfl⟩ rfl ?_
      refine r_istore (pc' := 30) (L' := [(4, .int r25), (0, .ref (wA (wC g) 0 0)), (1, .int x1), (2, .int x2), (3, .int x3)]) h0 dX0_lowestBestOffset_28 (Nat.le_of_ble_eq_true rfl) rfl rfl ?_
      refine r_iload (pc' := 32) h0 0 dX0_lowestBestOffset_30 rfl rfl ?_
      refine r_iload_n (pc' := 33) h0 3 dX0_lowestBestOffset_32 rfl rfl rfl ?_
      refine r_ic_le (pt := 41) (pf := 36) h0 dX0_lowestBestOffset_33 rfl rfl h (fun c33 h => ?_) (fun c33 h => ?_)
      · refine r_sub (L' := [(0, .ref (wA (wC g) 0 0)), (1, .int x1), (2, .int x2), (3, .int x3)]) [1, 2, 3, 4] rfl ?_
        exact w_X0_lowestBestOffset_41 h0 fu hE (f_X0_lowestBestOffset_6 fu n) ih x1 x2 x3 S h
      · refine r_iload (pc' := 38) h0 0 dX0_lowestBestOffset_36 rfl rfl ?_
        refine r_istore_n (pc' := 39) (L' := [(2, .int r25), (4, .int r25), (0, .ref (wA (wC g) 0 0)), (1, .int x1), (3, .int x3)]) h0 dX0_lowestBestOffset_38 rfl (Nat.le_of_ble_eq_true rfl) rfl rfl ?_
        refine r_iload_n (pc' := 40) h0 4 dX0_lowestBestOffset_39 rfl rfl rfl ?_
        refine r_istore_n (pc' := 41) (L' := [(1, .int x3), (2, .int r25), (4, .int r25), (0, .ref (wA (wC g) 0 0)), (3, .int x3)]) h0 dX0_lowestBestOffset_40 rfl (Nat.le_of_ble_eq_true rfl) rfl rfl ?_
        refine r_sub (L' := [(0, .ref (wA (wC g) 0 0)), (1, .int x3), (2, .int r25), (3, .int x3)]) [3, 0, 1, 4] rfl ?_
        exact w_X0_lowestBestOffset_41 h0 fu hE (f_X0_lowestBestOffset_6 fu n) ih x3 r25 x3 S h
/-- the machine does what f_X0_lowestBestOffset says -/
theorem c_X0_lowestBestOffset (g : GC) (fu : Nat) (S : Mem) {r : Int32} {S' : Mem} (h : f_X0_lowestBestOffset fu S = some (r, S')) : ctN yX0_lowestBestOffset cX0_lowestBestOffset 5 (some .int) rm_X0_lowestBestOffset (wC g) [.ref (wA (wC g) 0 0)] S (some (.int r)) S' := by
  refine ct_of (own := RX0) (L := [(0, .ref (wA (wC g) 0 0))]) (by decide +kernel) rfl (Nat.le_of_ble_eq_true rfl) rfl (fun X h0 hE => ?_)
  rw [f_X0_lowestBestOffset] at h
  refine r_iconst (pc' := 1) h0 dX0_lowestBestOffset_0 ki_0 rfl ?_
  refine r_istore_n (pc' := 2) (L' := [(1, .int 0), (0, .ref (wA (wC g) 0 0))]) h0 dX0_lowestBestOffset_1 rfl (Nat.le_of_ble_eq_true rfl) rfl rfl ?_
  refine r_iconst (pc' := 3) h0 dX0_lowestBestOffset_2 ki_0 rfl ?_
  refine r_istore_n (pc' := 4) (L' := [(2, .int 0), (1, .int 0), (0, .ref (wA (wC g) 0 0))]) h0 dX0_lowestBestOffset_3 rfl (Nat.le_of_ble_eq_true rfl) rfl rfl ?_
  refine r_iconst (pc' := 5) h0 dX0_lowestBestOffset_4 ki_0 rfl ?_
  refine r_istore_n (pc' := 6) (L' := [(3, .int 0), (2, .int 0), (1, .int 0), (0, .ref (wA (wC g) 0 0))]) h0 dX0_lowestBestOffset_5 rfl (Nat.le_of_ble_eq_true rfl) rfl rfl ?_
  refine r_sub (L' := [(0, .ref (wA (wC g) 0 0)), (1, .int 0), (2, .int 0), (3, .int 0)]) [3, 2, 1, 0] rfl ?_
  exact w_X0_lowestBestOffset_6 h0 fu hE fu 0 0 0 S h
theorem w_X0_improveOffset_50 {g : GC} {X : MX} {r : Int32} {S' : Mem} (h0 : CX RX0 cX0_improveOffset 4 rm_X0_improveOffset X (wC g)) (fu : Nat) (x1 : Int32) (hE : EN (some .boolean) (some (.int r)) S' X (wC g)) : ∀ (t0 : Int32) (S : Mem), f_X0_improveOffset_50 fu x1 t0 S = some (r, S') → GV X (wC g) 4 0 0 S [] 50 [.int t0] := by
  intro t0 S h
  rw [f_X0_improveOffset_50] at h
  exact r_zret h0 hE dX0_improveOffset_50 h
/-- the machine does what f_X0_improveOffset says -/
theorem c_X0_improveOffset (g : GC) (fu : Nat) (x1 : Int32) (S : Mem) {r : Int32} {S' : Mem} (h : f_X0_improveOffset fu x1 S = some (r, S')) : ctN yX0_improveOffset cX0_improveOffset 4 (some .boolean) rm_X0_improveOffset (wC g) [.ref (wA (wC g) 0 0), .int x1] S (some (.int r)) S' := by
  refine ct_of (own := RX0) (L := [(0, .ref (wA (wC g) 0 0)), (1, .int x1)]) (by decide +kernel) rfl (Nat.le_of_ble_eq_true rfl) rfl (fun X h0 hE => ?_)
  rw [f_X0_improveOffset] at h
  refine r_aload_n (pc' := 1) h0 0 dX0_improveOffset_0 rfl rfl rfl ?_
  refine gf_X0_27 (pc' := 4) h0 (Nat.le_of_ble_eq_true rfl) dX0_improveOffset_1 rfl ?_
  refine r_iload_n (pc' := 5) h0 1 dX0_improveOffset_4 rfl rfl rfl ?_
  obtain ⟨r5, h5, h⟩ := b1_some h
  refine go_V (k_X0_31 g) (st2 := [.ref (wA (wC g) 3 r5)]) (pc' := 8) [.int x1] [] h0 (Nat.le_of_ble_eq_true rfl) (c_X1_at g fu x1 S h5) rfl rfl dX0_improveOffset_5 rfl (Nat.le_of_ble_eq_true rfl) ⟨rfl, rfl, Nat.le_of_ble_eq_true rfl, Nat.le_of_ble_eq_true rfl⟩ ⟨Nat.le_of_ble_eq_true rfl, Nat.le_of_ble_eq_true rfl⟩ rfl ?_
  refine r_astore_n (pc' := 9) (L' := [(2, .ref (wA (wC g) 3 r5)), (0, .ref (wA (wC g) 0 0)), (1, .int x1)]) h0 dX0_improveOffset_8 rfl (Nat.le_of_ble_eq_true rfl) rfl rfl ?_
  refine r_aload_n (pc' := 10) h0 0 dX0_improveOffset_9 rfl rfl rfl ?_
  refine gf_X0_73 (pc' := 13) h0 (b_X1_at h5) dX0_improveOffset_10 rfl ?_
  refine r_istore_n (pc' := 14) (L' := [(3, .int (S.1 3 r5 9)), (2, .ref (wA (wC g) 3 r5)), (0, .ref (wA (wC g) 0 0)), (1, .int x1)]) h0 dX0_improveOffset_13 rfl (Nat.le_of_ble_eq_true rfl) rfl rfl ?_
  refine r_aload_n (pc' := 15) h0 2 dX0_improveOffset_14 rfl rfl rfl ?_
  refine r_iload_n (pc' := 16) h0 3 dX0_improveOffset_15 rfl rfl rfl ?_
  obtain ⟨r16, S16, h16, h⟩ := b2_some h
  refine go_V (k_X0_84 g) (st2 := []) (pc' := 19) [.int x1] [] h0 (Nat.le_of_ble_eq_true rfl) (c_X0_fillCommon g fu x1 S h16) rfl rfl dX0_improveOffset_16 rfl (Nat.le_of_ble_eq_true rfl) ⟨rfl, rfl, Nat.le_of_ble_eq_true rfl, Nat.le_of_ble_eq_true rfl⟩ ⟨Nat.le_of_ble_eq_true rfl, Nat.le_of_ble_eq_true rfl⟩ rfl ?_
  refine r_aload_n (pc' := 20) h0 2 dX0_improveOffset_19 rfl rfl rfl ?_
  refine r_iload_n (pc' := 21) h0 3 dX0_improveOffset_20 rfl rfl rfl ?_
  refine r_iconst (pc' := 22) h0 dX0_improveOffset_21 ki_0 rfl ?_
  refine r_aload_n (pc' := 23) h0 2 dX0_improveOffset_22 rfl rfl rfl ?_
  refine gf_X0_18 (pc' := 26) h0 (Nat.le_of_ble_eq_true rfl) dX0_improveOffset_23 rfl ?_
  obtain ⟨r26, S26, h26, h⟩ := b2_some h
  refine go_V (k_X0_76 g) (st2 := []) (pc' := 29) [.int x1, .int 0, .ref (wA (wC g) 2 1)] [] h0 (Nat.le_of_ble_eq_true rfl) (c_X0_fillFrom g fu x1 0 1 (Nat.le_of_ble_eq_true rfl) S16 h26) rfl rfl dX0_improveOffset_26 rfl (Nat.le_of_ble_eq_true rfl) ⟨rfl, rfl, Nat.le_of_ble_eq_true rfl, Nat.le_of_ble_eq_true rfl⟩ ⟨Nat.le_of_ble_eq_true rfl, Nat.le_of_ble_eq_true rfl⟩ rfl ?_
  refine r_aload_n (pc' := 30) h0 1 dX0_improveOffset_29 rfl rfl rfl ?_
  refine r_aload_n (pc' := 31) h0 2 dX0_improveOffset_30 rfl rfl rfl ?_
  obtain ⟨r31, S31, h31, h⟩ := b2_some h
  refine go_V (k_X0_98 g) (st2 := [.int r31, .ref (wA (wC g) 3 r5)]) (pc' := 34) [] [.ref (wA (wC g) 3 r5)] h0 (Nat.le_of_ble_eq_true rfl) (c_X0_lowestBestOffset g fu S26 h31) rfl rfl dX0_improveOffset_31 rfl (Nat.le_of_ble_eq_true rfl) ⟨rfl, rfl, Nat.le_of_ble_eq_true rfl, Nat.le_of_ble_eq_true rfl⟩ ⟨Nat.le_of_ble_eq_true rfl, Nat.le_of_ble_eq_true rfl⟩ rfl ?_
  refine pf_X0_73 (pc' := 37) h0 (b_X1_at h5) dX0_improveOffset_34 rfl ?_
  refine r_aload_n (pc' := 38) h0 1 dX0_improveOffset_37 rfl rfl rfl ?_
  refine gf_X0_73 (pc' := 41) h0 (b_X1_at h5) dX0_improveOffset_38 rfl ?_
  refine r_iload_n (pc' := 42) h0 0 dX0_improveOffset_41 rfl rfl rfl ?_
  refine r_ic_eq (pt := 49) (pf := 45) h0 dX0_improveOffset_42 rfl rfl h (fun c42 h => ?_) (fun c42 h => ?_)
  · refine r_iconst (pc' := 50) h0 dX0_improveOffset_49 ki_0 rfl ?_
    refine r_sub (L' := []) [] rfl ?_
    exact w_X0_improveOffset_50 h0 fu x1 hE 0 (wI S31 3 r5 9 r31) h
  · refine r_iconst (pc' := 46) h0 dX0_improveOffset_45 ki_1 rfl ?_
    refine r_goto (pc' := 50) h0 dX0_improveOffset_46 rfl ?_
    refine r_sub (L' := []) [] rfl ?_
    exact w_X0_improveOffset_50 h0 fu x1 hE 1 (wI S31 3 r5 9 r31) h
theorem w_X0_improveOffsets_49 {g : GC} {X : MX} {r : Int32} {S' : Mem} (h0 : CX RX0 cX0_improveOffsets 4 rm_X0_improveOffsets X (wC g)) (fu : Nat) (hE : EN (some .int) (some (.int r)) S' X (wC g)) : ∀ (S : Mem), f_X0_improveOffsets_49 fu S = some (r, S') → GV X (wC g) 4 0 0 S [(0, .ref (wA (wC g) 0 0))] 49 [] := by
  intro S h
  rw [f_X0_improveOffsets_49] at h
  refine r_aload_n (pc' := 50) h0 0 dX0_improveOffsets_49 rfl rfl rfl ?_
  refine r_iconst (pc' := 51) h0 dX0_improveOffsets_50 ki_m1 rfl ?_
  obtain ⟨r51, S51, h51, h⟩ := b2_some h
  refine go_V (k_X0_84 g) (st2 := []) (pc' := 54) [.int (-1)] [] h0 (Nat.le_of_ble_eq_true rfl) (c_X0_fillCommon g fu (-1) S h51) rfl rfl dX0_improveOffsets_51 rfl (Nat.le_of_ble_eq_true rfl) ⟨rfl, rfl, Nat.le_of_ble_eq_true rfl, Nat.le_of_ble_eq_true rfl⟩ ⟨Nat.le_of_ble_eq_true rfl, Nat.le_of_ble_eq_true rfl⟩ rfl ?_
  refine r_aload_n (pc' := 55) h0 0 dX0_improveOffsets_54 rfl rfl rfl ?_
  refine gf_X0_12 (pc' := 58) h0 (Nat.le_of_ble_eq_true rfl) dX0_improveOffsets_55 rfl ?_
  refine r_aload_n (pc' := 59) h0 0 dX0_improveOffsets_58 rfl rfl rfl ?_
  refine gf_X0_12 (pc' := 62) h0 (Nat.le_of_ble_eq_true rfl) dX0_improveOffsets_59 rfl ?_
  obtain ⟨r62, h62, h⟩ := b1_some h
  refine go_V (k_X0_95 g) (st2 := [.int r62]) (pc' := 65) [.ref (wA (wC g) 2 0)] [] h0 (Nat.le_of_ble_eq_true rfl) (c_X2_countCommon g fu 0 (Nat.le_of_ble_eq_true rfl) 0 (Nat.le_of_ble_eq_true rfl) S51 h62) rfl rfl dX0_improveOffsets_62 rfl (Nat.le_of_ble_eq_true rfl) ⟨rfl, rfl, Nat.le_of_ble_eq_true rfl, Nat.le_of_ble_eq_true rfl⟩ ⟨Nat.le_of_ble_eq_true rfl, Nat.le_of_ble_eq_true rfl⟩ rfl ?_
  exact r_iret h0 hE dX0_improveOffsets_65 h
theorem w_X0_improveOffsets_18 {g : GC} {X : MX} {r : Int32} {S' : Mem} (h0 : CX RX0 cX0_improveOffsets 4 rm_X0_improveOffsets X (wC g)) (fu : Nat) (hE : EN (some .int) (some (.int r)) S' X (wC g)) (K4 : Int32 → Int32 → Mem → Option (Int32 × Mem)) (kK4 : ∀ (x1 : Int32) (x2 : Int32) (S : Mem), K4 x1 x2 S = some (r, S') → GV X (wC g) 4 0 0 S [(0, .ref (wA (wC g) 0 0)), (1, .int x1), (2, .int x2)] 4 []) : ∀ (n : Nat) (x1 : Int32) (x2 : Int32) (x3 : Int32) (S : Mem), f_X0_improveOffsets_18 fu K4 n x1 x2 x3 S = some (r, S') → GV X (wC g) 4 0 0 S [(0, .ref (wA (wC g) 0 0)), (1, .int x1), (2, .int x2), (3, .int x3)] 18 [] := by
  intro n
  induction n with
  | zero =>
    intro x1 x2 x3 S h
    exact nomatch (show none = _ from h)
  | succ n ih =>
    intro x1 x2 x3 S h
    rw [f_X0_improveOffsets_18] at h
    refine r_iload_n (pc' := 19) h0 3 dX0_improveOffsets_18 rfl rfl rfl ?_
    refine r_aload_n (pc' := 20) h0 0 dX0_improveOffsets_19 rfl rfl rfl ?_
    refine gf_X0_27 (pc' := 23) h0 (Nat.le_of_ble_eq_true rfl) dX0_improveOffsets_20 rfl ?_
    refine gf_X0_41 (pc' := 26) h0 (Nat.le_of_ble_eq_true rfl) dX0_improveOffsets_23 rfl ?_
    refine r_ic_ge (pt := 43) (pf := 29) h0 dX0_improveOffsets_26 rfl rfl h (fun c26 h => ?_) (fun c26 h => ?_)
    · refine r_iinc (pc' := 46) (L' := [(2, .int (x2 + 1)), (0, .ref (wA (wC g) 0 0)), (1, .int x1), (3, .int x3)]) h0 2 dX0_improveOffsets_43 rfl ki_1 (Nat.le_of_ble_eq_true rfl) rfl rfl ?_
      refine r_goto (pc' := 4) h0 dX0_improveOffsets_46 rfl ?_
      refine r_sub (L' := [(0, .ref (wA (wC g) 0 0)), (1, .int x1), (2, .int (x2 + 1))]) [1, 2, 0] rfl ?_
      exact kK4 x1 (x2 + 1) S h
    · refine r_iload_n (pc' := 30) h0 1 dX0_improveOffsets_29 rfl rfl rfl ?_
      refine r_aload_n (pc' := 31) h0 0 dX0_improveOffsets_30 rfl rfl rfl ?_
      refine r_iload_n (pc' := 32) h0 3 dX0_improveOffsets_31 rfl rfl rfl ?_
      obtain ⟨r32, S32, h32, h⟩ := b2_some h
      refine go_V (k_X0_91 g) (st2 := [.int r32, .int x1]) (pc' := 35) [.int x3] [.int x1] h0 (Nat.le_of_ble_eq_true rfl) (c_X0_improveOffset g fu x3 S h32) rfl rfl dX0_improveOffsets_32 rfl (Nat.le_of_ble_eq_true rfl) ⟨rfl, rfl, Nat.le_of_ble_eq_true rfl, Nat.le_of_ble_eq_true rfl⟩ ⟨Nat.le_of_ble_eq_true rfl, Nat.le_of_ble_eq_true rfl⟩ rfl ?_
      refine r_ior (pc' := 36) h0 dX0_improveOffsets_35 rfl ?_
      refine r_istore_n (pc' := 37) (L' := [(1, .int (x1 ||| r32)), (0, .ref (wA (wC g) 0 0)), (2, .int x2), (3, .int x3)]) h0 dX0_improveOffsets_36 rfl (Nat.le_of_ble_eq_true rfl) rfl rfl ?_
      refine r_iinc (pc' := 40) (L' := [(3, .int (x3 + 1)), (1, .int (x1 ||| r32)), (0, .ref (wA (wC g) 0 0)), (2, .int x2)]) h0 3 dX0_improveOffsets_37 rfl ki_1 (Nat.le_of_ble_eq_true rfl) rfl rfl ?_
      refine r_goto (pc' := 18) h0 dX0_improveOffsets_40 rfl ?_
      refine r_sub (L' := [(0, .ref (wA (wC g) 0 0)), (1, .int (x1 ||| r32)), (2, .int x2), (3, .int (x3 + 1))]) [2, 1, 3, 0] rfl ?_
      exact ih (x1 ||| r32) x2 (x3 + 1) S32 h
theorem w_X0_improveOffsets_4 {g : GC} {X : MX} {r : Int32} {S' : Mem} (h0 : CX RX0 cX0_improveOffsets 4 rm_X0_improveOffsets X (wC g)) (fu : Nat) (hE : EN (some .int) (some (.int r)) S' X (wC g)) : ∀ (n : Nat) (x1 : Int32) (x2 : Int32) (S : Mem), f_X0_improveOffsets_4 fu n x1 x2 S = some (r, S') → GV X (wC g) 4 0 0 S [(0, .ref (wA (wC g) 0 0)), (1, .int x1), (2, .int x2)] 4 [] := by
  intro n
  induction n with
  | zero =>
    intro x1 x2 S h
    exact nomatch (show none = _ from h)
  | succ n ih =>
    intro x1 x2 S h
    rw [f_X0_improveOffsets_4] at h
    refine r_iload_n (pc' := 5) h0 2 dX0_improveOffsets_4 rfl rfl rfl ?_
    refine r_bipush (pc' := 7) h0 dX0_improveOffsets_5 kb_10 rfl ?_
    refine r_ic_ge (pt := 49) (pf := 10) h0 dX0_improveOffsets_7 rfl rfl h (fun c7 h => ?_) (fun c7 h => ?_)
    · refine r_sub (L' := [(0, .ref (wA (wC g) 0 0))]) [0] rfl ?_
      exact w_X0_improveOffsets_49 h0 fu hE S h
    · refine r_iload_n (pc' := 11) h0 1 dX0_improveOffsets_10 rfl rfl rfl ?_
      refine r_if_eq (pt := 49) (pf := 14) h0 dX0_improveOffsets_11 rfl rfl h (fun c11 h => ?_) (fun c11 h => ?_)
      · refine r_sub (L' := [(0, .ref (wA (wC g) 0 0))]) [0] rfl ?_
        exact w_X0_improveOffsets_49 h0 fu hE S h
      · refine r_iconst (pc' := 15) h0 dX0_improveOffsets_14 ki_0 rfl ?_
        refine r_istore_n (pc' := 16) (L' := [(1, .int 0), (0, .ref (wA (wC g) 0 0)), (2, .int x2)]) h0 dX0_improveOffsets_15 rfl (Nat.le_of_ble_eq_true rfl) rfl rfl ?_
        refine r_iconst (pc' := 17) h0 dX0_improveOffsets_16 ki_1 rfl ?_
        refine r_istore_n (pc' := 18) (L' := [(3, .int 1), (1, .int 0), (0, .ref (wA (wC g) 0 0)), (2, .int x2)]) h0 dX0_improveOffsets_17 rfl (Nat.le_of_ble_eq_true rfl) rfl rfl ?_
        refine r_sub (L' := [(0, .ref (wA (wC g) 0 0)), (1, .int 0), (2, .int x2), (3, .int 1)]) [2, 1, 3, 0] rfl ?_
        exact w_X0_improveOffsets_18 h0 fu hE (f_X0_improveOffsets_4 fu n) ih fu 0 x2 1 S h
/-- the machine does what f_X0_improveOffsets says -/
theorem c_X0_improveOffsets (g : GC) (fu : Nat) (S : Mem) {r : Int32} {S' : Mem} (h : f_X0_improveOffsets fu S = some (r, S')) : ctN yX0_improveOffsets cX0_improveOffsets 4 (some .int) rm_X0_improveOffsets (wC g) [.ref (wA (wC g) 0 0)] S (some (.int r)) S' := by
  refine ct_of (own := RX0) (L := [(0, .ref (wA (wC g) 0 0))]) (by decide +kernel) rfl (Nat.le_of_ble_eq_true rfl) rfl (fun X h0 hE => ?_)
  rw [f_X0_improveOffsets] at h
  refine r_iconst (pc' := 1) h0 dX0_improveOffsets_0 ki_1 rfl ?_
  refine r_istore_n (pc' := 2) (L' := [(1, .int 1), (0, .ref (wA (wC g) 0 0))]) h0 dX0_improveOffsets_1 rfl (Nat.le_of_ble_eq_true rfl) rfl rfl ?_
  refine r_iconst (pc' := 3) h0 dX0_improveOffsets_2 ki_0 rfl ?_
  refine r_istore_n (pc' := 4) (L' := [(2, .int 0), (1, .int 1), (0, .ref (wA (wC g) 0 0))]) h0 dX0_improveOffsets_3 rfl (Nat.le_of_ble_eq_true rfl) rfl rfl ?_
  refine r_sub (L' := [(0, .ref (wA (wC g) 0 0)), (1, .int 1), (2, .int 0)]) [2, 1, 0] rfl ?_
  exact w_X0_improveOffsets_4 h0 fu hE fu 1 0 S h
theorem w_J7_fill_53178_5 {w : WX} {X : MX} {S' : Mem} (h0 : CX RJ7 cJ7_fill_53178 4 rm_J7_fill_53178 X w) (fu : Nat) (ck len k : Nat) (hia : isIA w ck len) (hk : k < wN w ck) (x1 : Int32) (hE : EN none none S' X w) : ∀ (n : Nat) (x2 : Int32) (x3 : Int32) (S : Mem), f_J7_fill_53178_5 fu ck len k x1 n x2 x3 S = some ((), S') → GV X w 4 0 0 S [(0, .ref (wA w ck k)), (1, .int x1), (2, .int x2), (3, .int x3)] 5 [] := by
  intro n
  induction n with
  | zero =>
    intro x2 x3 S h
    exact nomatch (show none = _ from h)
  | succ n ih =>
    intro x2 x3 S h
    rw [f_J7_fill_53178_5] at h
    refine r_iload_n (pc' := 6) h0 2 dJ7_fill_53178_5 rfl rfl rfl ?_
    refine r_iload_n (pc' := 7) h0 3 dJ7_fill_53178_6 rfl rfl rfl ?_
    refine r_ic_ge (pt := 20) (pf := 10) h0 dJ7_fill_53178_7 rfl rfl h (fun c7 h => ?_) (fun c7 h => ?_)
    · exact r_vret h0 hE dJ7_fill_53178_20 h
    · refine r_aload_n (pc' := 11) h0 0 dJ7_fill_53178_10 rfl rfl rfl ?_
      refine r_iload_n (pc' := 12) h0 2 dJ7_fill_53178_11 rfl rfl rfl ?_
      refine r_iload_n (pc' := 13) h0 1 dJ7_fill_53178_12 rfl rfl rfl ?_
      refine r_iastA (pc' := 14) h0 hia hk dJ7_fill_53178_13 rfl h (fun h => ?_)
      refine r_iinc (pc' := 17) (L' := [(2, .int (x2 + 1)), (0, .ref (wA w ck k)), (1, .int x1), (3, .int x3)]) h0 2 dJ7_fill_53178_14 rfl ki_1 (Nat.le_of_ble_eq_true rfl) rfl rfl ?_
      refine r_goto (pc' := 5) h0 dJ7_fill_53178_17 rfl ?_
      refine r_sub (L' := [(0, .ref (wA w ck k)), (1, .int x1), (2, .int (x2 + 1)), (3, .int x3)]) [1, 2, 0, 3] rfl ?_
      exact ih (x2 + 1) x3 (wI S ck k (x2 : Int32).toNatClampNeg x1) h
/-- the machine does what f_J7_fill_53178 says -/
theorem c_J7_fill_53178 (w : WX) (fu : Nat) (ck len k : Nat) (hia : isIA w ck len) (hk : k < wN w ck) (x1 : Int32) (S : Mem) {S' : Mem} (h : f_J7_fill_53178 fu ck len k x1 S = some ((), S')) : ctN yJ7_fill_53178 cJ7_fill_53178 4 none rm_J7_fill_53178 w [.ref (wA w ck k), .int x1] S none S' := by
  refine ct_of (own := RJ7) (L := [(0, .ref (wA w ck k)), (1, .int x1)]) (by decide +kernel) rfl (Nat.le_of_ble_eq_true rfl) rfl (fun X h0 hE => ?_)
  rw [f_J7_fill_53178] at h
  refine r_iconst (pc' := 1) h0 dJ7_fill_53178_0 ki_0 rfl ?_
  refine r_istore_n (pc' := 2) (L' := [(2, .int 0), (0, .ref (wA w ck k)), (1, .int x1)]) h0 dJ7_fill_53178_1 rfl (Nat.le_of_ble_eq_true rfl) rfl rfl ?_
  refine r_aload_n (pc' := 3) h0 1 dJ7_fill_53178_2 rfl rfl rfl ?_
  refine r_alenA (pc' := 4) h0 hia hk dJ7_fill_53178_3 rfl ?_
  refine r_istore_n (pc' := 5) (L' := [(3, .int (nI len)), (2, .int 0), (0, .ref (wA w ck k)), (1, .int x1)]) h0 dJ7_fill_53178_4 rfl (Nat.le_of_ble_eq_true rfl) rfl rfl ?_
  refine r_sub (L' := [(0, .ref (wA w ck k)), (1, .int x1), (2, .int 0), (3, .int (nI len))]) [2, 3, 1, 0] rfl ?_
  exact w_J7_fill_53178_5 h0 fu ck len k hia hk x1 hE fu 0 (nI len) S h
/-- the machine does what f_X4_reset says -/
theorem c_X4_reset (g : GC) (fu : Nat) (k : Nat) (hk : k < 5) (S : Mem) {S' : Mem} (h : f_X4_reset fu k S = some ((), S')) : ctN yX4_reset cX4_reset 1 none rm_X4_reset (wC g) [.ref (wA (wC g) 4 k)] S none S' := by
  refine ct_of (own := RX4) (L := [(0, .ref (wA (wC g) 4 k))]) (by decide +kernel) rfl (Nat.le_of_ble_eq_true rfl) rfl (fun X h0 hE => ?_)
  rw [f_X4_reset] at h
  refine r_aload_n (pc' := 1) h0 0 dX4_reset_0 rfl rfl rfl ?_
  refine r_bipush (pc' := 3) h0 dX4_reset_1 kb_10 rfl ?_
  refine pf_X4_15 (pc' := 6) h0 hk dX4_reset_3 rfl ?_
  refine r_aload_n (pc' := 7) h0 0 dX4_reset_6 rfl rfl rfl ?_
  refine r_bipush (pc' := 9) h0 dX4_reset_7 kb_20 rfl ?_
  refine pf_X4_19 (pc' := 12) h0 hk dX4_reset_9 rfl ?_
  refine r_aload_n (pc' := 13) h0 0 dX4_reset_12 rfl rfl rfl ?_
  refine r_iconst (pc' := 14) h0 dX4_reset_13 ki_0 rfl ?_
  refine pf_X4_22 (pc' := 17) h0 hk dX4_reset_14 rfl ?_
  refine r_aload_n (pc' := 18) h0 0 dX4_reset_17 rfl rfl rfl ?_
  refine gf_X4_11 (pc' := 21) h0 hk dX4_reset_18 rfl ?_
  refine r_iconst (pc' := 22) h0 dX4_reset_21 ki_0 rfl ?_
  obtain ⟨r22, S22, h22, h⟩ := b2_some h
  refine go_S (k_X4_25 g) (st2 := []) (pc' := 25) [.ref (wA (wC g) 17 k), .int 0] [] h0 (c_J7_fill_53178 (wC g) fu 17 61 k (ia_17 g) hk 0 (wI (wI (wI S 4 k 1 10) 4 k 2 20) 4 k 3 0) h22) rfl rfl dX4_reset_22 rfl (Nat.le_of_ble_eq_true rfl) ⟨rfl, rfl, Nat.le_of_ble_eq_true rfl, Nat.le_of_ble_eq_true rfl⟩ ⟨Nat.le_of_ble_eq_true rfl, Nat.le_of_ble_eq_true rfl⟩ rfl ?_
  exact r_vret h0 hE dX4_reset_25 h
theorem w_X7_write_14 {g : GC} {X : MX} {S' : Mem} (h0 : CX RX7 cX7_write 3 rm_X7_write X (wC g)) (fu : Nat) (ck len k : Nat) (hia : isIA (wC g) ck len) (hk : k < wN (wC g) ck) (x1 : Int32) (x2 : Int32) (hE : EN none none S' X (wC g)) : ∀ (S : Mem), f_X7_write_14 fu ck len k x1 x2 S = some ((), S') → GV X (wC g) 3 0 0 S [] 14 [] := by
  intro S h
  rw [f_X7_write_14] at h
  exact r_vret h0 hE dX7_write_14 h
/-- the machine does what f_X7_write says -/
theorem c_X7_write (g : GC) (fu : Nat) (ck len k : Nat) (hia : isIA (wC g) ck len) (hk : k < wN (wC g) ck) (x1 : Int32) (x2 : Int32) (S : Mem) {S' : Mem} (h : f_X7_write fu ck len k x1 x2 S = some ((), S')) : ctN yX7_write cX7_write 3 none rm_X7_write (wC g) [.ref (wA (wC g) ck k), .int x1, .int x2] S none S' := by
  refine ct_of (own := RX7) (L := [(0, .ref (wA (wC g) ck k)), (1, .int x1), (2, .int x2)]) (by decide +kernel) rfl (Nat.le_of_ble_eq_true rfl) rfl (fun X h0 hE => ?_)
  rw [f_X7_write] at h
  refine r_iload_n (pc' := 1) h0 1 dX7_write_0 rfl rfl rfl ?_
  refine r_if_lt (pt := 14) (pf := 4) h0 dX7_write_1 rfl rfl h (fun c1 h => ?_) (fun c1 h => ?_)
  · refine r_sub (L' := []) [] rfl ?_
    exact w_X7_write_14 h0 fu ck len k hia hk x1 x2 hE S h
  · refine r_iload_n (pc' := 5) h0 1 dX7_write_4 rfl rfl rfl ?_
    refine r_aload_n (pc' := 6) h0 0 dX7_write_5 rfl rfl rfl ?_
    refine r_alenA (pc' := 7) h0 hia hk dX7_write_6 rfl ?_
    refine r_ic_ge (pt := 14) (pf := 10) h0 dX7_write_7 rfl rfl h (fun c7 h => ?_) (fun c7 h => ?_)
    · refine r_sub (L' := []) [] rfl ?_
      exact w_X7_write_14 h0 fu ck len k hia hk x1 x2 hE S h
    · refine r_aload_n (pc' := 11) h0 0 dX7_write_10 rfl rfl rfl ?_
      refine r_iload_n (pc' := 12) h0 1 dX7_write_11 rfl rfl rfl ?_
      refine r_iload_n (pc' := 13) h0 2 dX7_write_12 rfl rfl rfl ?_
      refine r_iastA (pc' := 14) h0 hia hk dX7_write_13 rfl h (fun h => ?_)
      refine r_sub (L' := []) [] rfl ?_
      exact w_X7_write_14 h0 fu ck len k hia hk x1 x2 hE (wI S ck k (x1 : Int32).toNatClampNeg x2) h
/-- the machine does what f_X3_writeClearance says -/
theorem c_X3_writeClearance (g : GC) (fu : Nat) (k : Nat) (hk : k < 5) (x1 : Int32) (x2 : Int32) (x3 : Int32) (S : Mem) {S' : Mem} (h : f_X3_writeClearance fu k x1 x2 x3 S = some ((), S')) : ctN yX3_writeClearance cX3_writeClearance 4 none rm_X3_writeClearance (wC g) [.ref (wA (wC g) 3 k), .int x1, .int x2, .int x3] S none S' := by
  refine ct_of (own := RX3) (L := [(0, .ref (wA (wC g) 3 k)), (1, .int x1), (2, .int x2), (3, .int x3)]) (by decide +kernel) rfl (Nat.le_of_ble_eq_true rfl) rfl (fun X h0 hE => ?_)
  rw [f_X3_writeClearance] at h
  refine r_aload_n (pc' := 1) h0 0 dX3_writeClearance_0 rfl rfl rfl ?_
  refine gf_X3_9 (pc' := 4) h0 hk dX3_writeClearance_1 rfl ?_
  refine r_iload_n (pc' := 5) h0 1 dX3_writeClearance_4 rfl rfl rfl ?_
  refine r_iconst (pc' := 6) h0 dX3_writeClearance_5 ki_4 rfl ?_
  refine r_imul (pc' := 7) h0 dX3_writeClearance_6 rfl ?_
  refine r_iload_n (pc' := 8) h0 2 dX3_writeClearance_7 rfl rfl rfl ?_
  refine r_iadd (pc' := 9) h0 dX3_writeClearance_8 rfl ?_
  refine r_iload_n (pc' := 10) h0 3 dX3_writeClearance_9 rfl rfl rfl ?_
  obtain ⟨r10, S10, h10, h⟩ := b2_some h
  refine go_S (k_X3_86 g) (st2 := []) (pc' := 13) [.ref (wA (wC g) 11 k), .int ((x1 * 4) + x2), .int x3] [] h0 (c_X7_write g fu 11 16 k (ia_11 g) hk ((x1 * 4) + x2) x3 S h10) rfl rfl dX3_writeClearance_10 rfl (Nat.le_of_ble_eq_true rfl) ⟨rfl, rfl, Nat.le_of_ble_eq_true rfl, Nat.le_of_ble_eq_true rfl⟩ ⟨Nat.le_of_ble_eq_true rfl, Nat.le_of_ble_eq_true rfl⟩ rfl ?_
  refine r_aload_n (pc' := 14) h0 0 dX3_writeClearance_13 rfl rfl rfl ?_
  refine gf_X3_9 (pc' := 17) h0 hk dX3_writeClearance_14 rfl ?_
  refine r_iload_n (pc' := 18) h0 2 dX3_writeClearance_17 rfl rfl rfl ?_
  refine r_iconst (pc' := 19) h0 dX3_writeClearance_18 ki_4 rfl ?_
  refine r_imul (pc' := 20) h0 dX3_writeClearance_19 rfl ?_
  refine r_iload_n (pc' := 21) h0 1 dX3_writeClearance_20 rfl rfl rfl ?_
  refine r_iadd (pc' := 22) h0 dX3_writeClearance_21 rfl ?_
  refine r_iload_n (pc' := 23) h0 3 dX3_writeClearance_22 rfl rfl rfl ?_
  obtain ⟨r23, S23, h23, h⟩ := b2_some h
  refine go_S (k_X3_86 g) (st2 := []) (pc' := 26) [.ref (wA (wC g) 11 k), .int ((x2 * 4) + x1), .int x3] [] h0 (c_X7_write g fu 11 16 k (ia_11 g) hk ((x2 * 4) + x1) x3 S10 h23) rfl rfl dX3_writeClearance_23 rfl (Nat.le_of_ble_eq_true rfl) ⟨rfl, rfl, Nat.le_of_ble_eq_true rfl, Nat.le_of_ble_eq_true rfl⟩ ⟨Nat.le_of_ble_eq_true rfl, Nat.le_of_ble_eq_true rfl⟩ rfl ?_
  exact r_vret h0 hE dX3_writeClearance_26 h
theorem w_X3_writeSets_64 {g : GC} {X : MX} {S' : Mem} (h0 : CX RX3 cX3_writeSets 5 rm_X3_writeSets X (wC g)) (fu : Nat) (k : Nat) (hk : k < 5) (x1 : Int32) (x2 : Int32) (x3 : Int32) (x4 : Int32) (hE : EN none none S' X (wC g)) : ∀ (t0 : Int32) (S : Mem), f_X3_writeSets_64 fu k x1 x2 x3 x4 t0 S = some ((), S') → GV X (wC g) 5 0 0 S [] 64 [.int t0, .ref (wA (wC g) 3 k)] := by
  intro t0 S h
  rw [f_X3_writeSets_64] at h
  refine pf_X3_90 (pc' := 67) h0 hk dX3_writeSets_64 rfl ?_
  exact r_vret h0 hE dX3_writeSets_67 h
/-- the machine does what f_X3_writeSets says -/
theorem c_X3_writeSets (g : GC) (fu : Nat) (k : Nat) (hk : k < 5) (x1 : Int32) (x2 : Int32) (x3 : Int32) (x4 : Int32) (S : Mem) {S' : Mem} (h : f_X3_writeSets fu k x1 x2 x3 x4 S = some ((), S')) : ctN yX3_writeSets cX3_writeSets 5 none rm_X3_writeSets (wC g) [.ref (wA (wC g) 3 k), .int x1, .int x2, .int x3, .int x4] S none S' := by
  refine ct_of (own := RX3) (L := [(0, .ref (wA (wC g) 3 k)), (1, .int x1), (2, .int x2), (3, .int x3), (4, .int x4)]) (by decide +kernel) rfl (Nat.le_of_ble_eq_true rfl) rfl (fun X h0 hE => ?_)
  rw [f_X3_writeSets] at h
  refine r_aload_n (pc' := 1) h0 0 dX3_writeSets_0 rfl rfl rfl ?_
  refine gf_X3_15 (pc' := 4) h0 hk dX3_writeSets_1 rfl ?_
  refine r_iconst (pc' := 5) h0 dX3_writeSets_4 ki_0 rfl ?_
  refine r_iload_n (pc' := 6) h0 1 dX3_writeSets_5 rfl rfl rfl ?_
  obtain ⟨r6, S6, h6, h⟩ := b2_some h
  refine go_S (k_X3_86 g) (st2 := []) (pc' := 9) [.ref (wA (wC g) 12 k), .int 0, .int x1] [] h0 (c_X7_write g fu 12 4 k (ia_12 g) hk 0 x1 S h6) rfl rfl dX3_writeSets_6 rfl (Nat.le_of_ble_eq_true rfl) ⟨rfl, rfl, Nat.le_of_ble_eq_true rfl, Nat.le_of_ble_eq_true rfl⟩ ⟨Nat.le_of_ble_eq_true rfl, Nat.le_of_ble_eq_true rfl⟩ rfl ?_
  refine r_aload_n (pc' := 10) h0 0 dX3_writeSets_9 rfl rfl rfl ?_
  refine gf_X3_15 (pc' := 13) h0 hk dX3_writeSets_10 rfl ?_
  refine r_iconst (pc' := 14) h0 dX3_writeSets_13 ki_1 rfl ?_
  refine r_iload_n (pc' := 15) h0 2 dX3_writeSets_14 rfl rfl rfl ?_
  obtain ⟨r15, S15, h15, h⟩ := b2_some h
  refine go_S (k_X3_86 g) (st2 := []) (pc' := 18) [.ref (wA (wC g) 12 k), .int 1, .int x2] [] h0 (c_X7_write g fu 12 4 k (ia_12 g) hk 1 x2 S6 h15) rfl rfl dX3_writeSets_15 rfl (Nat.le_of_ble_eq_true rfl) ⟨rfl, rfl, Nat.le_of_ble_eq_true rfl, Nat.le_of_ble_eq_true rfl⟩ ⟨Nat.le_of_ble_eq_true rfl, Nat.le_of_ble_eq_true rfl⟩ rfl ?_
  refine r_aload_n (pc' := 19) h0 0 dX3_writeSets_18 rfl rfl rfl ?_
  refine gf_X3_15 (pc' := 22) h0 hk dX3_writeSets_19 rfl ?_
  refine r_iconst (pc' := 23) h0 dX3_writeSets_22 ki_2 rfl ?_
  refine r_iload_n (pc' := 24) h0 3 dX3_writeSets_23 rfl rfl rfl ?_
  obtain ⟨r24, S24, h24, h⟩ := b2_some h
  refine go_S (k_X3_86 g) (st2 := []) (pc' := 27) [.ref (wA (wC g) 12 k), .int 2, .int x3] [] h0 (c_X7_write g fu 12 4 k (ia_12 g) hk 2 x3 S15 h24) rfl rfl dX3_writeSets_24 rfl (Nat.le_of_ble_eq_true rfl) ⟨rfl, rfl, Nat.le_of_ble_eq_true rfl, Nat.le_of_ble_eq_true rfl⟩ ⟨Nat.le_of_ble_eq_true rfl, Nat.le_of_ble_eq_true rfl⟩ rfl ?_
  refine r_aload_n (pc' := 28) h0 0 dX3_writeSets_27 rfl rfl rfl ?_
  refine gf_X3_15 (pc' := 31) h0 hk dX3_writeSets_28 rfl ?_
  refine r_iconst (pc' := 32) h0 dX3_writeSets_31 ki_3 rfl ?_
  refine r_iload (pc' := 34) h0 4 dX3_writeSets_32 rfl rfl ?_
  obtain ⟨r34, S34, h34, h⟩ := b2_some h
  refine go_S (k_X3_86 g) (st2 := []) (pc' := 37) [.ref (wA (wC g) 12 k), .int 3, .int x4] [] h0 (c_X7_write g fu 12 4 k (ia_12 g) hk 3 x4 S24 h34) rfl rfl dX3_writeSets_34 rfl (Nat.le_of_ble_eq_true rfl) ⟨rfl, rfl, Nat.le_of_ble_eq_true rfl, Nat.le_of_ble_eq_true rfl⟩ ⟨Nat.le_of_ble_eq_true rfl, Nat.le_of_ble_eq_true rfl⟩ rfl ?_
  refine r_aload_n (pc' := 38) h0 0 dX3_writeSets_37 rfl rfl rfl ?_
  refine r_iload_n (pc' := 39) h0 2 dX3_writeSets_38 rfl rfl rfl ?_
  refine r_if_ne (pt := 46) (pf := 42) h0 dX3_writeSets_39 rfl rfl h (fun c39 h => ?_) (fun c39 h => ?_)
  · refine r_iload_n (pc' := 47) h0 3 dX3_writeSets_46 rfl rfl rfl ?_
    refine r_if_ne (pt := 54) (pf := 50) h0 dX3_writeSets_47 rfl rfl h (fun c47 h => ?_) (fun c47 h => ?_)
    · refine r_iload (pc' := 56) h0 4 dX3_writeSets_54 rfl rfl ?_
      refine r_if_ne (pt := 63) (pf := 59) h0 dX3_writeSets_56 rfl rfl h (fun c56 h => ?_) (fun c56 h => ?_)
      · refine r_iconst (pc' := 64) h0 dX3_writeSets_63 ki_4 rfl ?_
        refine r_sub (L' := []) [] rfl ?_
        exact w_X3_writeSets_64 h0 fu k hk x1 x2 x3 x4 hE 4 S34 h
      · refine r_iconst (pc' := 60) h0 dX3_writeSets_59 ki_3 rfl ?_
        refine r_goto (pc' := 64) h0 dX3_writeSets_60 rfl ?_
        refine r_sub (L' := []) [] rfl ?_
        exact w_X3_writeSets_64 h0 fu k hk x1 x2 x3 x4 hE 3 S34 h
    · refine r_iconst (pc' := 51) h0 dX3_writeSets_50 ki_2 rfl ?_
      refine r_goto (pc' := 64) h0 dX3_writeSets_51 rfl ?_
      refine r_sub (L' := []) [] rfl ?_
      exact w_X3_writeSets_64 h0 fu k hk x1 x2 x3 x4 hE 2 S34 h
  · refine r_iconst (pc' := 43) h0 dX3_writeSets_42 ki_1 rfl ?_
    refine r_goto (pc' := 64) h0 dX3_writeSets_43 rfl ?_
    refine r_sub (L' := []) [] rfl ?_
    exact w_X3_writeSets_64 h0 fu k hk x1 x2 x3 x4 hE 1 S34 h
/-- the machine does what f_X3_clearanceOf says -/
theorem c_X3_clearanceOf (g : GC) (fu : Nat) (k : Nat) (hk : k < 5) (x1 : Int32) (x2 : Int32) (S : Mem) {r : Int32}  (h : f_X3_clearanceOf fu k x1 x2 S = some r) : ctN yX3_clearanceOf cX3_clearanceOf 3 (some .int) rm_X3_clearanceOf (wC g) [.ref (wA (wC g) 3 k), .int x1, .int x2] S (some (.int r)) S := by
  refine ct_of (own := RX3) (L := [(0, .ref (wA (wC g) 3 k)), (1, .int x1), (2, .int x2)]) (by decide +kernel) rfl (Nat.le_of_ble_eq_true rfl) rfl (fun X h0 hE => ?_)
  rw [f_X3_clearanceOf] at h
  refine r_aload_n (pc' := 1) h0 0 dX3_clearanceOf_0 rfl rfl rfl ?_
  refine gf_X3_9 (pc' := 4) h0 hk dX3_clearanceOf_1 rfl ?_
  refine r_iload_n (pc' := 5) h0 1 dX3_clearanceOf_4 rfl rfl rfl ?_
  refine r_iconst (pc' := 6) h0 dX3_clearanceOf_5 ki_4 rfl ?_
  refine r_imul (pc' := 7) h0 dX3_clearanceOf_6 rfl ?_
  refine r_iload_n (pc' := 8) h0 2 dX3_clearanceOf_7 rfl rfl rfl ?_
  refine r_iadd (pc' := 9) h0 dX3_clearanceOf_8 rfl ?_
  obtain ⟨r9, h9, h⟩ := b1_some h
  refine go_S (k_X3_82 g) (st2 := [.int r9]) (pc' := 12) [.ref (wA (wC g) 11 k), .int ((x1 * 4) + x2)] [] h0 (c_X7_read g fu 11 16 k (ia_11 g) hk ((x1 * 4) + x2) S h9) rfl rfl dX3_clearanceOf_9 rfl (Nat.le_of_ble_eq_true rfl) ⟨rfl, rfl, Nat.le_of_ble_eq_true rfl, Nat.le_of_ble_eq_true rfl⟩ ⟨Nat.le_of_ble_eq_true rfl, Nat.le_of_ble_eq_true rfl⟩ rfl ?_
  exact r_iretR h0 hE dX3_clearanceOf_12 h
