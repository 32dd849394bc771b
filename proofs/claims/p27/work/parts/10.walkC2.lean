theorem w_X3_secondsOfGreenBehind_12 {g : GC} {X : MX} {r : Int32}  (h0 : CX RX3 cX3_secondsOfGreenBehind 5 rm_X3_secondsOfGreenBehind X (wC g)) (fu : Nat) (k : Nat) (hk : k < 5) (x1 : Int32) (x2 : Int32) (S : Mem) (hE : EN (some .int) (some (.int r)) S X (wC g)) : ∀ (n : Nat) (x3 : Int32) (x4 : Int32), f_X3_secondsOfGreenBehind_12 fu k x1 x2 S n x3 x4 = some r → GV X (wC g) 5 0 0 S [(0, .ref (wA (wC g) 3 k)), (1, .int x1), (2, .int x2), (3, .int x3), (4, .int x4)] 12 [] := by
  intro n
  induction n with
  | zero =>
    intro x3 x4 h
    exact nomatch (show none = _ from h)
  | succ n ih =>
    intro x3 x4 h
    rw [f_X3_secondsOfGreenBehind_12] at h
    refine r_iload (pc' := 14) h0 4 dX3_secondsOfGreenBehind_12 rfl rfl ?_
    refine r_iload_n (pc' := 15) h0 1 dX3_secondsOfGreenBehind_14 rfl rfl rfl ?_
    refine r_ic_ge (pt := 46) (pf := 18) h0 dX3_secondsOfGreenBehind_15 rfl rfl h (fun c15 h => ?_) (fun c15 h => ?_)
    · refine r_iload_n (pc' := 47) h0 3 dX3_secondsOfGreenBehind_46 rfl rfl rfl ?_
      refine r_iconst (pc' := 48) h0 dX3_secondsOfGreenBehind_47 ki_1 rfl ?_
      refine r_isub (pc' := 49) h0 dX3_secondsOfGreenBehind_48 rfl ?_
      refine r_aload_n (pc' := 50) h0 0 dX3_secondsOfGreenBehind_49 rfl rfl rfl ?_
      refine r_iload_n (pc' := 51) h0 2 dX3_secondsOfGreenBehind_50 rfl rfl rfl ?_
      obtain ⟨r51, h51, h⟩ := b1_some h
      refine go_V (k_X3_150 g) (st2 := [.int r51, .int (x3 - 1)]) (pc' := 54) [.int x2] [.int (x3 - 1)] h0 hk (c_X3_placeInCycle g fu k hk x2 S h51) rfl rfl dX3_secondsOfGreenBehind_51 rfl (Nat.le_of_ble_eq_true rfl) ⟨rfl, rfl, Nat.le_of_ble_eq_true rfl, Nat.le_of_ble_eq_true rfl⟩ ⟨Nat.le_of_ble_eq_true rfl, Nat.le_of_ble_eq_true rfl⟩ rfl ?_
      refine r_isub (pc' := 55) h0 dX3_secondsOfGreenBehind_54 rfl ?_
      exact r_iretR h0 hE dX3_secondsOfGreenBehind_55 h
    · refine r_iload_n (pc' := 19) h0 3 dX3_secondsOfGreenBehind_18 rfl rfl rfl ?_
      refine r_aload_n (pc' := 20) h0 0 dX3_secondsOfGreenBehind_19 rfl rfl rfl ?_
      refine gf_X3_21 (pc' := 23) h0 hk dX3_secondsOfGreenBehind_20 rfl ?_
      refine r_iload (pc' := 25) h0 4 dX3_secondsOfGreenBehind_23 rfl rfl ?_
      obtain ⟨r25, h25, h⟩ := b1_some h
      refine go_S (k_X3_82 g) (st2 := [.int r25, .int x3]) (pc' := 28) [.ref (wA (wC g) 14 k), .int x4] [.int x3] h0 (c_X7_read g fu 14 4 k (ia_14 g) hk x4 S h25) rfl rfl dX3_secondsOfGreenBehind_25 rfl (Nat.le_of_ble_eq_true rfl) ⟨rfl, rfl, Nat.le_of_ble_eq_true rfl, Nat.le_of_ble_eq_true rfl⟩ ⟨Nat.le_of_ble_eq_true rfl, Nat.le_of_ble_eq_true rfl⟩ rfl ?_
      refine r_aload_n (pc' := 29) h0 0 dX3_secondsOfGreenBehind_28 rfl rfl rfl ?_
      refine gf_X3_24 (pc' := 32) h0 hk dX3_secondsOfGreenBehind_29 rfl ?_
      refine r_iload (pc' := 34) h0 4 dX3_secondsOfGreenBehind_32 rfl rfl ?_
      obtain ⟨r34, h34, h⟩ := b1_some h
      refine go_S (k_X3_82 g) (st2 := [.int r34, .int r25, .int x3]) (pc' := 37) [.ref (wA (wC g) 15 k), .int x4] [.int r25, .int x3] h0 (c_X7_read g fu 15 4 k (ia_15 g) hk x4 S h34) rfl rfl dX3_secondsOfGreenBehind_34 rfl (Nat.le_of_ble_eq_true rfl) ⟨rfl, rfl, Nat.le_of_ble_eq_true rfl, Nat.le_of_ble_eq_true rfl⟩ ⟨Nat.le_of_ble_eq_true rfl, Nat.le_of_ble_eq_true rfl⟩ rfl ?_
      refine r_iadd (pc' := 38) h0 dX3_secondsOfGreenBehind_37 rfl ?_
      refine r_iadd (pc' := 39) h0 dX3_secondsOfGreenBehind_38 rfl ?_
      refine r_istore_n (pc' := 40) (L' := [(3, .int (x3 + (r25 + r34))), (0, .ref (wA (wC g) 3 k)), (1, .int x1), (2, .int x2), (4, .int x4)]) h0 dX3_secondsOfGreenBehind_39 rfl (Nat.le_of_ble_eq_true rfl) rfl rfl ?_
      refine r_iinc (pc' := 43) (L' := [(4, .int (x4 + 1)), (3, .int (x3 + (r25 + r34))), (0, .ref (wA (wC g) 3 k)), (1, .int x1), (2, .int x2)]) h0 4 dX3_secondsOfGreenBehind_40 rfl ki_1 (Nat.le_of_ble_eq_true rfl) rfl rfl ?_
      refine r_goto (pc' := 12) h0 dX3_secondsOfGreenBehind_43 rfl ?_
      refine r_sub (L' := [(0, .ref (wA (wC g) 3 k)), (1, .int x1), (2, .int x2), (3, .int (x3 + (r25 + r34))), (4, .int (x4 + 1))]) [2, 3, 4, 1, 0] rfl ?_
      exact ih (x3 + (r25 + r34)) (x4 + 1) h
/-- the machine does what f_X3_secondsOfGreenBehind says -/
theorem c_X3_secondsOfGreenBehind (g : GC) (fu : Nat) (k : Nat) (hk : k < 5) (x1 : Int32) (x2 : Int32) (S : Mem) {r : Int32}  (h : f_X3_secondsOfGreenBehind fu k x1 x2 S = some r) : ctN yX3_secondsOfGreenBehind cX3_secondsOfGreenBehind 5 (some .int) rm_X3_secondsOfGreenBehind (wC g) [.ref (wA (wC g) 3 k), .int x1, .int x2] S (some (.int r)) S := by
  refine ct_of (own := RX3) (L := [(0, .ref (wA (wC g) 3 k)), (1, .int x1), (2, .int x2)]) (by decide +kernel) rfl (Nat.le_of_ble_eq_true rfl) rfl (fun X h0 hE => ?_)
  rw [f_X3_secondsOfGreenBehind] at h
  refine r_aload_n (pc' := 1) h0 0 dX3_secondsOfGreenBehind_0 rfl rfl rfl ?_
  refine gf_X3_21 (pc' := 4) h0 hk dX3_secondsOfGreenBehind_1 rfl ?_
  refine r_iload_n (pc' := 5) h0 1 dX3_secondsOfGreenBehind_4 rfl rfl rfl ?_
  obtain ⟨r5, h5, h⟩ := b1_some h
  refine go_S (k_X3_82 g) (st2 := [.int r5]) (pc' := 8) [.ref (wA (wC g) 14 k), .int x1] [] h0 (c_X7_read g fu 14 4 k (ia_14 g) hk x1 S h5) rfl rfl dX3_secondsOfGreenBehind_5 rfl (Nat.le_of_ble_eq_true rfl) ⟨rfl, rfl, Nat.le_of_ble_eq_true rfl, Nat.le_of_ble_eq_true rfl⟩ ⟨Nat.le_of_ble_eq_true rfl, Nat.le_of_ble_eq_true rfl⟩ rfl ?_
  refine r_istore_n (pc' := 9) (L' := [(3, .int r5), (0, .ref (wA (wC g) 3 k)), (1, .int x1), (2, .int x2)]) h0 dX3_secondsOfGreenBehind_8 rfl (Nat.le_of_ble_eq_true rfl) rfl rfl ?_
  refine r_iconst (pc' := 10) h0 dX3_secondsOfGreenBehind_9 ki_0 rfl ?_
  refine r_istore (pc' := 12) (L' := [(4, .int 0), (3, .int r5), (0, .ref (wA (wC g) 3 k)), (1, .int x1), (2, .int x2)]) h0 dX3_secondsOfGreenBehind_10 (Nat.le_of_ble_eq_true rfl) rfl rfl ?_
  refine r_sub (L' := [(0, .ref (wA (wC g) 3 k)), (1, .int x1), (2, .int x2), (3, .int r5), (4, .int 0)]) [2, 3, 4, 1, 0] rfl ?_
  exact w_X3_secondsOfGreenBehind_12 h0 fu k hk x1 x2 S hE fu r5 0 h
theorem w_X3_takeBus_134 {g : GC} {X : MX} {r : Int32} {S' : Mem} (h0 : CX RX3 cX3_takeBus 6 rm_X3_takeBus X (wC g)) (fu : Nat) (k : Nat) (hk : k < 5) (x1 : Int32) (x2 : Int32) (hE : EN (some .int) (some (.int r)) S' X (wC g)) : ∀ (S : Mem), f_X3_takeBus_134 fu k x1 x2 S = some (r, S') → GV X (wC g) 6 0 0 S [(0, .ref (wA (wC g) 3 k))] 134 [] := by
  intro S h
  rw [f_X3_takeBus_134] at h
  refine r_aload_n (pc' := 135) h0 0 dX3_takeBus_134 rfl rfl rfl ?_
  refine gf_X3_59 (pc' := 138) h0 hk dX3_takeBus_135 rfl ?_
  exact r_iret h0 hE dX3_takeBus_138 h
theorem w_X3_takeBus_86 {g : GC} {X : MX} {r : Int32} {S' : Mem} (h0 : CX RX3 cX3_takeBus 6 rm_X3_takeBus X (wC g)) (fu : Nat) (k : Nat) (hk : k < 5) (x1 : Int32) (x2 : Int32) (hE : EN (some .int) (some (.int r)) S' X (wC g)) : ∀ (x3 : Int32) (x4 : Int32) (S : Mem), f_X3_takeBus_86 fu k x1 x2 x3 x4 S = some (r, S') → GV X (wC g) 6 0 0 S [(0, .ref (wA (wC g) 3 k)), (1, .int x1), (3, .int x3), (4, .int x4)] 86 [] := by
  intro x3 x4 S h
  rw [f_X3_takeBus_86] at h
  refine r_iload (pc' := 88) h0 3 dX3_takeBus_86 rfl rfl ?_
  refine r_iconst (pc' := 89) h0 dX3_takeBus_88 ki_m1 rfl ?_
  refine r_ic_eq (pt := 134) (pf := 92) h0 dX3_takeBus_89 rfl rfl h (fun c89 h => ?_) (fun c89 h => ?_)
  · refine r_sub (L' := [(0, .ref (wA (wC g) 3 k))]) [0] rfl ?_
    exact w_X3_takeBus_134 h0 fu k hk x1 x2 hE S h
  · refine r_iload_n (pc' := 93) h0 2 dX3_takeBus_92 rfl rfl rfl ?_
    refine r_iload (pc' := 95) h0 3 dX3_takeBus_93 rfl rfl ?_
    refine r_ic_le (pt := 134) (pf := 98) h0 dX3_takeBus_95 rfl rfl h (fun c95 h => ?_) (fun c95 h => ?_)
    · refine r_sub (L' := [(0, .ref (wA (wC g) 3 k))]) [0] rfl ?_
      exact w_X3_takeBus_134 h0 fu k hk x1 x2 hE S h
    · refine r_aload_n (pc' := 99) h0 0 dX3_takeBus_98 rfl rfl rfl ?_
      refine r_iload (pc' := 101) h0 3 dX3_takeBus_99 rfl rfl ?_
      refine pf_X3_53 (pc' := 104) h0 hk dX3_takeBus_101 rfl ?_
      refine r_aload_n (pc' := 105) h0 0 dX3_takeBus_104 rfl rfl rfl ?_
      refine r_iload (pc' := 107) h0 3 dX3_takeBus_105 rfl rfl ?_
      refine r_iload_n (pc' := 108) h0 1 dX3_takeBus_107 rfl rfl rfl ?_
      obtain ⟨r108, h108, h⟩ := b1_some h
      refine go_V (k_X3_168 g) (st2 := [.int r108]) (pc' := 111) [.int x4, .int x1] [] h0 hk (c_X3_secondsOfGreenBehind g fu k hk x4 x1 (wI S 3 k 14 x4) h108) rfl rfl dX3_takeBus_108 rfl (Nat.le_of_ble_eq_true rfl) ⟨rfl, rfl, Nat.le_of_ble_eq_true rfl, Nat.le_of_ble_eq_true rfl⟩ ⟨Nat.le_of_ble_eq_true rfl, Nat.le_of_ble_eq_true rfl⟩ rfl ?_
      refine r_istore (pc' := 113) (L' := [(5, .int r108), (0, .ref (wA (wC g) 3 k)), (1, .int x1), (3, .int x3), (4, .int x4)]) h0 dX3_takeBus_111 (Nat.le_of_ble_eq_true rfl) rfl rfl ?_
      refine r_aload_n (pc' := 114) h0 1 dX3_takeBus_113 rfl rfl rfl ?_
      refine r_iconst (pc' := 115) h0 dX3_takeBus_114 ki_5 rfl ?_
      refine r_iload (pc' := 117) h0 0 dX3_takeBus_115 rfl rfl ?_
      refine r_aload_n (pc' := 118) h0 1 dX3_takeBus_117 rfl rfl rfl ?_
      refine r_aload_n (pc' := 119) h0 1 dX3_takeBus_118 rfl rfl rfl ?_
      refine gf_X3_53 (pc' := 122) h0 hk dX3_takeBus_119 rfl ?_
      obtain ⟨r122, h122, h⟩ := b1_some h
      refine go_V (k_X3_162 g) (st2 := [.int r122, .int r108, .int 5, .ref (wA (wC g) 3 k)]) (pc' := 125) [.int ((wI S 3 k 14 x4).1 3 k 14)] [.int r108, .int 5, .ref (wA (wC g) 3 k)] h0 hk (c_X3_spareGreen g fu k hk ((wI S 3 k 14 x4).1 3 k 14) (wI S 3 k 14 x4) h122) rfl rfl dX3_takeBus_122 rfl (Nat.le_of_ble_eq_true rfl) ⟨rfl, rfl, Nat.le_of_ble_eq_true rfl, Nat.le_of_ble_eq_true rfl⟩ ⟨Nat.le_of_ble_eq_true rfl, Nat.le_of_ble_eq_true rfl⟩ rfl ?_
      refine r_min (pc' := 128) h0 v_584 v_585 v_41 v_586 dX3_takeBus_125 rfl (Nat.le_of_ble_eq_true rfl) ⟨Nat.le_of_ble_eq_true rfl, Nat.le_of_ble_eq_true rfl⟩ ⟨Nat.le_of_ble_eq_true rfl, Nat.le_of_ble_eq_true rfl⟩ ?_
      refine r_min (pc' := 131) h0 v_584 v_585 v_41 v_586 dX3_takeBus_128 rfl (Nat.le_of_ble_eq_true rfl) ⟨Nat.le_of_ble_eq_true rfl, Nat.le_of_ble_eq_true rfl⟩ ⟨Nat.le_of_ble_eq_true rfl, Nat.le_of_ble_eq_true rfl⟩ ?_
      refine pf_X3_59 (pc' := 134) h0 hk dX3_takeBus_131 rfl ?_
      refine r_sub (L' := [(0, .ref (wA (wC g) 3 k))]) [1] rfl ?_
      exact w_X3_takeBus_134 h0 fu k hk x1 x2 hE (wI (wI S 3 k 14 x4) 3 k 16 (jmin 5 (jmin r108 r122))) h
/-- the machine does what f_X3_takeBus says -/
theorem c_X3_takeBus (g : GC) (fu : Nat) (k : Nat) (hk : k < 5) (x1 : Int32) (x2 : Int32) (S : Mem) {r : Int32} {S' : Mem} (h : f_X3_takeBus fu k x1 x2 S = some (r, S')) : ctN yX3_takeBus cX3_takeBus 6 (some .int) rm_X3_takeBus (wC g) [.ref (wA (wC g) 3 k), .int x1, .int x2] S (some (.int r)) S' := by
  refine ct_of (own := RX3) (L := [(0, .ref (wA (wC g) 3 k)), (1, .int x1), (2, .int x2)]) (by decide +kernel) rfl (Nat.le_of_ble_eq_true rfl) rfl (fun X h0 hE => ?_)
  rw [f_X3_takeBus] at h
  refine r_aload_n (pc' := 1) h0 0 dX3_takeBus_0 rfl rfl rfl ?_
  refine r_iload_n (pc' := 2) h0 2 dX3_takeBus_1 rfl rfl rfl ?_
  obtain ⟨r2, h2, h⟩ := b1_some h
  refine go_V (k_X3_156 g) (st2 := [.int r2]) (pc' := 5) [.int x2] [] h0 hk (c_X3_lowestPhaseWith g fu k hk x2 S h2) rfl rfl dX3_takeBus_2 rfl (Nat.le_of_ble_eq_true rfl) ⟨rfl, rfl, Nat.le_of_ble_eq_true rfl, Nat.le_of_ble_eq_true rfl⟩ ⟨Nat.le_of_ble_eq_true rfl, Nat.le_of_ble_eq_true rfl⟩ rfl ?_
  refine r_istore_n (pc' := 6) (L' := [(3, .int r2), (0, .ref (wA (wC g) 3 k)), (1, .int x1), (2, .int x2)]) h0 dX3_takeBus_5 rfl (Nat.le_of_ble_eq_true rfl) rfl rfl ?_
  refine r_aload_n (pc' := 7) h0 1 dX3_takeBus_6 rfl rfl rfl ?_
  refine r_iload_n (pc' := 8) h0 2 dX3_takeBus_7 rfl rfl rfl ?_
  obtain ⟨r8, h8, h⟩ := b1_some h
  refine go_V (k_X3_159 g) (st2 := [.int r8]) (pc' := 11) [.int x1] [] h0 hk (c_X3_phaseIn g fu k hk x1 S h8) rfl rfl dX3_takeBus_8 rfl (Nat.le_of_ble_eq_true rfl) ⟨rfl, rfl, Nat.le_of_ble_eq_true rfl, Nat.le_of_ble_eq_true rfl⟩ ⟨Nat.le_of_ble_eq_true rfl, Nat.le_of_ble_eq_true rfl⟩ rfl ?_
  refine r_istore (pc' := 13) (L' := [(4, .int r8), (3, .int r2), (0, .ref (wA (wC g) 3 k)), (1, .int x1), (2, .int x2)]) h0 dX3_takeBus_11 (Nat.le_of_ble_eq_true rfl) rfl rfl ?_
  refine r_aload_n (pc' := 14) h0 2 dX3_takeBus_13 rfl rfl rfl ?_
  refine r_iload_n (pc' := 15) h0 3 dX3_takeBus_14 rfl rfl rfl ?_
  refine r_aload_n (pc' := 16) h0 2 dX3_takeBus_15 rfl rfl rfl ?_
  refine r_iload_n (pc' := 17) h0 3 dX3_takeBus_16 rfl rfl rfl ?_
  obtain ⟨r17, h17, h⟩ := b1_some h
  refine go_V (k_X3_150 g) (st2 := [.int r17, .int x1, .ref (wA (wC g) 3 k)]) (pc' := 20) [.int x1] [.int x1, .ref (wA (wC g) 3 k)] h0 hk (c_X3_placeInCycle g fu k hk x1 S h17) rfl rfl dX3_takeBus_17 rfl (Nat.le_of_ble_eq_true rfl) ⟨rfl, rfl, Nat.le_of_ble_eq_true rfl, Nat.le_of_ble_eq_true rfl⟩ ⟨Nat.le_of_ble_eq_true rfl, Nat.le_of_ble_eq_true rfl⟩ rfl ?_
  refine r_isub (pc' := 21) h0 dX3_takeBus_20 rfl ?_
  refine r_aload_n (pc' := 22) h0 2 dX3_takeBus_21 rfl rfl rfl ?_
  refine gf_X3_37 (pc' := 25) h0 hk dX3_takeBus_22 rfl ?_
  refine r_iadd (pc' := 26) h0 dX3_takeBus_25 rfl ?_
  refine pf_X3_50 (pc' := 29) h0 hk dX3_takeBus_26 rfl ?_
  refine r_aload_n (pc' := 30) h0 2 dX3_takeBus_29 rfl rfl rfl ?_
  refine r_iconst (pc' := 31) h0 dX3_takeBus_30 ki_m1 rfl ?_
  refine pf_X3_53 (pc' := 34) h0 hk dX3_takeBus_31 rfl ?_
  refine r_aload_n (pc' := 35) h0 2 dX3_takeBus_34 rfl rfl rfl ?_
  refine r_iload_n (pc' := 36) h0 1 dX3_takeBus_35 rfl rfl rfl ?_
  refine pf_X3_56 (pc' := 39) h0 hk dX3_takeBus_36 rfl ?_
  refine r_aload_n (pc' := 40) h0 2 dX3_takeBus_39 rfl rfl rfl ?_
  refine r_iconst (pc' := 41) h0 dX3_takeBus_40 ki_0 rfl ?_
  refine pf_X3_59 (pc' := 44) h0 hk dX3_takeBus_41 rfl ?_
  refine r_iload (pc' := 46) h0 0 dX3_takeBus_44 rfl rfl ?_
  refine r_iload_n (pc' := 47) h0 1 dX3_takeBus_46 rfl rfl rfl ?_
  refine r_ic_ne (pt := 86) (pf := 50) h0 dX3_takeBus_47 rfl rfl h (fun c47 h => ?_) (fun c47 h => ?_)
  · refine r_sub (L' := [(0, .ref (wA (wC g) 3 k)), (1, .int x1), (3, .int r2), (4, .int r8)]) [2, 3, 1, 0] rfl ?_
    exact w_X3_takeBus_86 h0 fu k hk x1 x2 hE r2 r8 (wI (wI (wI (wI S 3 k 13 ((x1 - r17) + (S.1 3 k 8))) 3 k 14 (-1)) 3 k 15 r2) 3 k 16 0) h
  · refine r_iload_n (pc' := 51) h0 1 dX3_takeBus_50 rfl rfl rfl ?_
    refine r_iconst (pc' := 52) h0 dX3_takeBus_51 ki_1 rfl ?_
    refine r_iadd (pc' := 53) h0 dX3_takeBus_52 rfl ?_
    refine r_aload_n (pc' := 54) h0 2 dX3_takeBus_53 rfl rfl rfl ?_
    refine gf_X3_90 (pc' := 57) h0 hk dX3_takeBus_54 rfl ?_
    refine r_ic_ge (pt := 86) (pf := 60) h0 dX3_takeBus_57 rfl rfl h (fun c57 h => ?_) (fun c57 h => ?_)
    · refine r_sub (L' := [(0, .ref (wA (wC g) 3 k)), (1, .int x1), (3, .int r2), (4, .int r8)]) [2, 3, 1, 0] rfl ?_
      exact w_X3_takeBus_86 h0 fu k hk x1 x2 hE r2 r8 (wI (wI (wI (wI S 3 k 13 ((x1 - r17) + (S.1 3 k 8))) 3 k 14 (-1)) 3 k 15 r2) 3 k 16 0) h
    · refine r_aload_n (pc' := 61) h0 2 dX3_takeBus_60 rfl rfl rfl ?_
      refine r_iload_n (pc' := 62) h0 1 dX3_takeBus_61 rfl rfl rfl ?_
      refine r_iconst (pc' := 63) h0 dX3_takeBus_62 ki_1 rfl ?_
      refine r_iadd (pc' := 64) h0 dX3_takeBus_63 rfl ?_
      refine pf_X3_53 (pc' := 67) h0 hk dX3_takeBus_64 rfl ?_
      refine r_aload_n (pc' := 68) h0 2 dX3_takeBus_67 rfl rfl rfl ?_
      refine r_iconst (pc' := 69) h0 dX3_takeBus_68 ki_5 rfl ?_
      refine r_aload_n (pc' := 70) h0 2 dX3_takeBus_69 rfl rfl rfl ?_
      refine r_aload_n (pc' := 71) h0 2 dX3_takeBus_70 rfl rfl rfl ?_
      refine gf_X3_53 (pc' := 74) h0 hk dX3_takeBus_71 rfl ?_
      obtain ⟨r74, h74, h⟩ := b1_some h
      refine go_V (k_X3_162 g) (st2 := [.int r74, .int 5, .ref (wA (wC g) 3 k)]) (pc' := 77) [.int ((wI (wI (wI (wI (wI S 3 k 13 ((x1 - r17) + (S.1 3 k 8))) 3 k 14 (-1)) 3 k 15 r2) 3 k 16 0) 3 k 14 (r2 + 1)).1 3 k 14)] [.int 5, .ref (wA (wC g) 3 k)] h0 hk (c_X3_spareGreen g fu k hk ((wI (wI (wI (wI (wI S 3 k 13 ((x1 - r17) + (S.1 3 k 8))) 3 k 14 (-1)) 3 k 15 r2) 3 k 16 0) 3 k 14 (r2 + 1)).1 3 k 14) (wI (wI (wI (wI (wI S 3 k 13 ((x1 - r17) + (S.1 3 k 8))) 3 k 14 (-1)) 3 k 15 r2) 3 k 16 0) 3 k 14 (r2 + 1)) h74) rfl rfl dX3_takeBus_74 rfl (Nat.le_of_ble_eq_true rfl) ⟨rfl, rfl, Nat.le_of_ble_eq_true rfl, Nat.le_of_ble_eq_true rfl⟩ ⟨Nat.le_of_ble_eq_true rfl, Nat.le_of_ble_eq_true rfl⟩ rfl ?_
      refine r_min (pc' := 80) h0 v_584 v_585 v_41 v_586 dX3_takeBus_77 rfl (Nat.le_of_ble_eq_true rfl) ⟨Nat.le_of_ble_eq_true rfl, Nat.le_of_ble_eq_true rfl⟩ ⟨Nat.le_of_ble_eq_true rfl, Nat.le_of_ble_eq_true rfl⟩ ?_
      refine pf_X3_59 (pc' := 83) h0 hk dX3_takeBus_80 rfl ?_
      refine r_goto (pc' := 134) h0 dX3_takeBus_83 rfl ?_
      refine r_sub (L' := [(0, .ref (wA (wC g) 3 k))]) [2] rfl ?_
      exact w_X3_takeBus_134 h0 fu k hk x1 x2 hE (wI (wI (wI (wI (wI (wI S 3 k 13 ((x1 - r17) + (S.1 3 k 8))) 3 k 14 (-1)) 3 k 15 r2) 3 k 16 0) 3 k 14 (r2 + 1)) 3 k 16 (jmin 5 r74)) h
theorem w_X3_growReady_51 {g : GC} {X : MX} {S' : Mem} (h0 : CX RX3 cX3_growReady 4 rm_X3_growReady X (wC g)) (fu : Nat) (k : Nat) (hk : k < 5) (x1 : Int32) (hE : EN none none S' X (wC g)) : ∀ (t0 : Int32) (S : Mem), f_X3_growReady_51 fu k x1 t0 S = some ((), S') → GV X (wC g) 4 0 0 S [] 51 [.int t0, .ref (wA (wC g) 3 k)] := by
  intro t0 S h
  rw [f_X3_growReady_51] at h
  refine pf_X3_47 (pc' := 54) h0 hk dX3_growReady_51 rfl ?_
  exact r_vret h0 hE dX3_growReady_54 h
theorem w_X3_growReady_31 {g : GC} {X : MX} {S' : Mem} (h0 : CX RX3 cX3_growReady 4 rm_X3_growReady X (wC g)) (fu : Nat) (k : Nat) (hk : k < 5) (x1 : Int32) (hE : EN none none S' X (wC g)) : ∀ (t0 : Int32) (S : Mem), f_X3_growReady_31 fu k x1 t0 S = some ((), S') → GV X (wC g) 4 0 0 S [(0, .ref (wA (wC g) 3 k))] 31 [.int t0] := by
  intro t0 S h
  rw [f_X3_growReady_31] at h
  refine r_istore_n (pc' := 32) (L' := [(3, .int t0), (0, .ref (wA (wC g) 3 k))]) h0 dX3_growReady_31 rfl (Nat.le_of_ble_eq_true rfl) rfl rfl ?_
  refine r_aload_n (pc' := 33) h0 1 dX3_growReady_32 rfl rfl rfl ?_
  refine r_iload_n (pc' := 34) h0 0 dX3_growReady_33 rfl rfl rfl ?_
  refine r_if_eq (pt := 50) (pf := 37) h0 dX3_growReady_34 rfl rfl h (fun c34 h => ?_) (fun c34 h => ?_)
  · refine r_iconst (pc' := 51) h0 dX3_growReady_50 ki_0 rfl ?_
    refine r_sub (L' := []) [] rfl ?_
    exact w_X3_growReady_51 h0 fu k hk x1 hE 0 S h
  · refine r_iconst (pc' := 38) h0 dX3_growReady_37 ki_2 rfl ?_
    refine r_aload_n (pc' := 39) h0 1 dX3_growReady_38 rfl rfl rfl ?_
    refine gf_X3_47 (pc' := 42) h0 hk dX3_growReady_39 rfl ?_
    refine r_iconst (pc' := 43) h0 dX3_growReady_42 ki_1 rfl ?_
    refine r_iadd (pc' := 44) h0 dX3_growReady_43 rfl ?_
    refine r_min (pc' := 47) h0 v_584 v_585 v_41 v_586 dX3_growReady_44 rfl (Nat.le_of_ble_eq_true rfl) ⟨Nat.le_of_ble_eq_true rfl, Nat.le_of_ble_eq_true rfl⟩ ⟨Nat.le_of_ble_eq_true rfl, Nat.le_of_ble_eq_true rfl⟩ ?_
    refine r_goto (pc' := 51) h0 dX3_growReady_47 rfl ?_
    refine r_sub (L' := []) [] rfl ?_
    exact w_X3_growReady_51 h0 fu k hk x1 hE (jmin 2 ((S.1 3 k 12) + 1)) S h
theorem w_X3_growReady_30 {g : GC} {X : MX} {S' : Mem} (h0 : CX RX3 cX3_growReady 4 rm_X3_growReady X (wC g)) (fu : Nat) (k : Nat) (hk : k < 5) (x1 : Int32) (hE : EN none none S' X (wC g)) : ∀ (S : Mem), f_X3_growReady_30 fu k x1 S = some ((), S') → GV X (wC g) 4 0 0 S [(0, .ref (wA (wC g) 3 k))] 30 [] := by
  intro S h
  rw [f_X3_growReady_30] at h
  refine r_iconst (pc' := 31) h0 dX3_growReady_30 ki_0 rfl ?_
  exact w_X3_growReady_31 h0 fu k hk x1 hE 0 S h
/-- the machine does what f_X3_growReady says -/
theorem c_X3_growReady (g : GC) (fu : Nat) (k : Nat) (hk : k < 5) (x1 : Int32) (S : Mem) {S' : Mem} (h : f_X3_growReady fu k x1 S = some ((), S')) : ctN yX3_growReady cX3_growReady 4 none rm_X3_growReady (wC g) [.ref (wA (wC g) 3 k), .int x1] S none S' := by
  refine ct_of (own := RX3) (L := [(0, .ref (wA (wC g) 3 k)), (1, .int x1)]) (by decide +kernel) rfl (Nat.le_of_ble_eq_true rfl) rfl (fun X h0 hE => ?_)
  rw [f_X3_growReady] at h
  refine r_aload_n (pc' := 1) h0 0 dX3_growReady_0 rfl rfl rfl ?_
  refine r_iload_n (pc' := 2) h0 1 dX3_growReady_1 rfl rfl rfl ?_
  obtain ⟨r2, h2, h⟩ := b1_some h
  refine go_V (k_X3_159 g) (st2 := [.int r2]) (pc' := 5) [.int x1] [] h0 hk (c_X3_phaseIn g fu k hk x1 S h2) rfl rfl dX3_growReady_2 rfl (Nat.le_of_ble_eq_true rfl) ⟨rfl, rfl, Nat.le_of_ble_eq_true rfl, Nat.le_of_ble_eq_true rfl⟩ ⟨Nat.le_of_ble_eq_true rfl, Nat.le_of_ble_eq_true rfl⟩ rfl ?_
  refine r_istore_n (pc' := 6) (L' := [(2, .int r2), (0, .ref (wA (wC g) 3 k)), (1, .int x1)]) h0 dX3_growReady_5 rfl (Nat.le_of_ble_eq_true rfl) rfl rfl ?_
  refine r_iload_n (pc' := 7) h0 0 dX3_growReady_6 rfl rfl rfl ?_
  refine r_iconst (pc' := 8) h0 dX3_growReady_7 ki_m1 rfl ?_
  refine r_ic_eq (pt := 30) (pf := 11) h0 dX3_growReady_8 rfl rfl h (fun c8 h => ?_) (fun c8 h => ?_)
  · refine r_sub (L' := [(0, .ref (wA (wC g) 3 k))]) [1] rfl ?_
    exact w_X3_growReady_30 h0 fu k hk x1 hE S h
  · refine r_aload_n (pc' := 12) h0 1 dX3_growReady_11 rfl rfl rfl ?_
    refine gf_X3_15 (pc' := 15) h0 hk dX3_growReady_12 rfl ?_
    refine r_iload_n (pc' := 16) h0 0 dX3_growReady_15 rfl rfl rfl ?_
    obtain ⟨r16, h16, h⟩ := b1_some h
    refine go_S (k_X3_82 g) (st2 := [.int r16]) (pc' := 19) [.ref (wA (wC g) 12 k), .int r2] [] h0 (c_X7_read g fu 12 4 k (ia_12 g) hk r2 S h16) rfl rfl dX3_growReady_16 rfl (Nat.le_of_ble_eq_true rfl) ⟨rfl, rfl, Nat.le_of_ble_eq_true rfl, Nat.le_of_ble_eq_true rfl⟩ ⟨Nat.le_of_ble_eq_true rfl, Nat.le_of_ble_eq_true rfl⟩ rfl ?_
    refine r_iconst (pc' := 20) h0 dX3_growReady_19 ki_0 rfl ?_
    obtain ⟨r20, h20, h⟩ := b1_some h
    refine go_S (k_X3_93 g) (st2 := [.int r20]) (pc' := 23) [.int r16, .int 0] [] h0 (c_X7_hasBit g fu r16 0 S h20) rfl rfl dX3_growReady_20 rfl (Nat.le_of_ble_eq_true rfl) ⟨rfl, rfl, Nat.le_of_ble_eq_true rfl, Nat.le_of_ble_eq_true rfl⟩ ⟨Nat.le_of_ble_eq_true rfl, Nat.le_of_ble_eq_true rfl⟩ rfl ?_
    refine r_if_eq (pt := 30) (pf := 26) h0 dX3_growReady_23 rfl rfl h (fun c23 h => ?_) (fun c23 h => ?_)
    · refine r_sub (L' := [(0, .ref (wA (wC g) 3 k))]) [1] rfl ?_
      exact w_X3_growReady_30 h0 fu k hk x1 hE S h
    · refine r_iconst (pc' := 27) h0 dX3_growReady_26 ki_1 rfl ?_
      refine r_goto (pc' := 31) h0 dX3_growReady_27 rfl ?_
      refine r_sub (L' := [(0, .ref (wA (wC g) 3 k))]) [1] rfl ?_
      exact w_X3_growReady_31 h0 fu k hk x1 hE 1 S h
/-- the machine does what f_X4_send says -/
theorem c_X4_send (g : GC) (fu : Nat) (k : Nat) (hk : k < 5) (x1 : Int32) (S : Mem) {S' : Mem} (h : f_X4_send fu k x1 S = some ((), S')) : ctN yX4_send cX4_send 3 none rm_X4_send (wC g) [.ref (wA (wC g) 4 k), .int x1] S none S' := by
  refine ct_of (own := RX4) (L := [(0, .ref (wA (wC g) 4 k)), (1, .int x1)]) (by decide +kernel) rfl (Nat.le_of_ble_eq_true rfl) rfl (fun X h0 hE => ?_)
  rw [f_X4_send] at h
  refine r_iload_n (pc' := 1) h0 1 dX4_send_0 rfl rfl rfl ?_
  refine r_aload_n (pc' := 2) h0 0 dX4_send_1 rfl rfl rfl ?_
  refine gf_X4_15 (pc' := 5) h0 hk dX4_send_2 rfl ?_
  refine r_iadd (pc' := 6) h0 dX4_send_5 rfl ?_
  refine r_bipush (pc' := 8) h0 dX4_send_6 kb_61 rfl ?_
  obtain ⟨r8, h8, h⟩ := b1_some h
  refine go_S (k_X4_31 g) (st2 := [.int r8]) (pc' := 11) [.int (x1 + (S.1 4 k 1)), .int 61] [] h0 (c_X7_modulo g fu (x1 + (S.1 4 k 1)) 61 S h8) rfl rfl dX4_send_8 rfl (Nat.le_of_ble_eq_true rfl) ⟨rfl, rfl, Nat.le_of_ble_eq_true rfl, Nat.le_of_ble_eq_true rfl⟩ ⟨Nat.le_of_ble_eq_true rfl, Nat.le_of_ble_eq_true rfl⟩ rfl ?_
  refine r_istore_n (pc' := 12) (L' := [(2, .int r8), (0, .ref (wA (wC g) 4 k)), (1, .int x1)]) h0 dX4_send_11 rfl (Nat.le_of_ble_eq_true rfl) rfl rfl ?_
  refine r_aload_n (pc' := 13) h0 1 dX4_send_12 rfl rfl rfl ?_
  refine gf_X4_11 (pc' := 16) h0 hk dX4_send_13 rfl ?_
  refine r_iload_n (pc' := 17) h0 0 dX4_send_16 rfl rfl rfl ?_
  refine r_aload_n (pc' := 18) h0 1 dX4_send_17 rfl rfl rfl ?_
  refine gf_X4_11 (pc' := 21) h0 hk dX4_send_18 rfl ?_
  refine r_iload_n (pc' := 22) h0 0 dX4_send_21 rfl rfl rfl ?_
  obtain ⟨r22, h22, h⟩ := b1_some h
  refine go_S (k_X4_35 g) (st2 := [.int r22, .int r8, .ref (wA (wC g) 17 k)]) (pc' := 25) [.ref (wA (wC g) 17 k), .int r8] [.int r8, .ref (wA (wC g) 17 k)] h0 (c_X7_read g fu 17 61 k (ia_17 g) hk r8 S h22) rfl rfl dX4_send_22 rfl (Nat.le_of_ble_eq_true rfl) ⟨rfl, rfl, Nat.le_of_ble_eq_true rfl, Nat.le_of_ble_eq_true rfl⟩ ⟨Nat.le_of_ble_eq_true rfl, Nat.le_of_ble_eq_true rfl⟩ rfl ?_
  refine r_iconst (pc' := 26) h0 dX4_send_25 ki_1 rfl ?_
  refine r_iadd (pc' := 27) h0 dX4_send_26 rfl ?_
  obtain ⟨r27, S27, h27, h⟩ := b2_some h
  refine go_S (k_X4_39 g) (st2 := []) (pc' := 30) [.ref (wA (wC g) 17 k), .int r8, .int (r22 + 1)] [] h0 (c_X7_write g fu 17 61 k (ia_17 g) hk r8 (r22 + 1) S h27) rfl rfl dX4_send_27 rfl (Nat.le_of_ble_eq_true rfl) ⟨rfl, rfl, Nat.le_of_ble_eq_true rfl, Nat.le_of_ble_eq_true rfl⟩ ⟨Nat.le_of_ble_eq_true rfl, Nat.le_of_ble_eq_true rfl⟩ rfl ?_
  refine r_aload_n (pc' := 31) h0 1 dX4_send_30 rfl rfl rfl ?_
  refine r_dup (pc' := 32) h0 dX4_send_31 rfl rfl ?_
  refine gf_X4_22 (pc' := 35) h0 hk dX4_send_32 rfl ?_
  refine r_iconst (pc' := 36) h0 dX4_send_35 ki_1 rfl ?_
  refine r_iadd (pc' := 37) h0 dX4_send_36 rfl ?_
  refine pf_X4_22 (pc' := 40) h0 hk dX4_send_37 rfl ?_
  exact r_vret h0 hE dX4_send_40 h
/-- the machine does what f_X4_land says -/
theorem c_X4_land (g : GC) (fu : Nat) (k : Nat) (hk : k < 5) (x1 : Int32) (S : Mem) {r : Int32} {S' : Mem} (h : f_X4_land fu k x1 S = some (r, S')) : ctN yX4_land cX4_land 4 (some .int) rm_X4_land (wC g) [.ref (wA (wC g) 4 k), .int x1] S (some (.int r)) S' := by
  refine ct_of (own := RX4) (L := [(0, .ref (wA (wC g) 4 k)), (1, .int x1)]) (by decide +kernel) rfl (Nat.le_of_ble_eq_true rfl) rfl (fun X h0 hE => ?_)
  rw [f_X4_land] at h
  refine r_iload_n (pc' := 1) h0 1 dX4_land_0 rfl rfl rfl ?_
  refine r_bipush (pc' := 3) h0 dX4_land_1 kb_61 rfl ?_
  obtain ⟨r3, h3, h⟩ := b1_some h
  refine go_S (k_X4_31 g) (st2 := [.int r3]) (pc' := 6) [.int x1, .int 61] [] h0 (c_X7_modulo g fu x1 61 S h3) rfl rfl dX4_land_3 rfl (Nat.le_of_ble_eq_true rfl) ⟨rfl, rfl, Nat.le_of_ble_eq_true rfl, Nat.le_of_ble_eq_true rfl⟩ ⟨Nat.le_of_ble_eq_true rfl, Nat.le_of_ble_eq_true rfl⟩ rfl ?_
  refine r_istore_n (pc' := 7) (L' := [(2, .int r3), (0, .ref (wA (wC g) 4 k)), (1, .int x1)]) h0 dX4_land_6 rfl (Nat.le_of_ble_eq_true rfl) rfl rfl ?_
  refine r_aload_n (pc' := 8) h0 1 dX4_land_7 rfl rfl rfl ?_
  refine gf_X4_11 (pc' := 11) h0 hk dX4_land_8 rfl ?_
  refine r_iload_n (pc' := 12) h0 0 dX4_land_11 rfl rfl rfl ?_
  obtain ⟨r12, h12, h⟩ := b1_some h
  refine go_S (k_X4_35 g) (st2 := [.int r12]) (pc' := 15) [.ref (wA (wC g) 17 k), .int r3] [] h0 (c_X7_read g fu 17 61 k (ia_17 g) hk r3 S h12) rfl rfl dX4_land_12 rfl (Nat.le_of_ble_eq_true rfl) ⟨rfl, rfl, Nat.le_of_ble_eq_true rfl, Nat.le_of_ble_eq_true rfl⟩ ⟨Nat.le_of_ble_eq_true rfl, Nat.le_of_ble_eq_true rfl⟩ rfl ?_
  refine r_istore_n (pc' := 16) (L' := [(3, .int r12), (2, .int r3), (0, .ref (wA (wC g) 4 k)), (1, .int x1)]) h0 dX4_land_15 rfl (Nat.le_of_ble_eq_true rfl) rfl rfl ?_
  refine r_aload_n (pc' := 17) h0 2 dX4_land_16 rfl rfl rfl ?_
  refine gf_X4_11 (pc' := 20) h0 hk dX4_land_17 rfl ?_
  refine r_iload_n (pc' := 21) h0 1 dX4_land_20 rfl rfl rfl ?_
  refine r_iconst (pc' := 22) h0 dX4_land_21 ki_0 rfl ?_
  obtain ⟨r22, S22, h22, h⟩ := b2_some h
  refine go_S (k_X4_39 g) (st2 := []) (pc' := 25) [.ref (wA (wC g) 17 k), .int r3, .int 0] [] h0 (c_X7_write g fu 17 61 k (ia_17 g) hk r3 0 S h22) rfl rfl dX4_land_22 rfl (Nat.le_of_ble_eq_true rfl) ⟨rfl, rfl, Nat.le_of_ble_eq_true rfl, Nat.le_of_ble_eq_true rfl⟩ ⟨Nat.le_of_ble_eq_true rfl, Nat.le_of_ble_eq_true rfl⟩ rfl ?_
  refine r_aload_n (pc' := 26) h0 2 dX4_land_25 rfl rfl rfl ?_
  refine r_dup (pc' := 27) h0 dX4_land_26 rfl rfl ?_
  refine gf_X4_22 (pc' := 30) h0 hk dX4_land_27 rfl ?_
  refine r_iload_n (pc' := 31) h0 0 dX4_land_30 rfl rfl rfl ?_
  refine r_isub (pc' := 32) h0 dX4_land_31 rfl ?_
  refine pf_X4_22 (pc' := 35) h0 hk dX4_land_32 rfl ?_
  refine r_iload_n (pc' := 36) h0 0 dX4_land_35 rfl rfl rfl ?_
  exact r_iret h0 hE dX4_land_36 h
/-- the machine does what f_X6_reset says -/
theorem c_X6_reset (g : GC) (fu : Nat) (S : Mem) {S' : Mem} (h : f_X6_reset fu S = some ((), S')) : ctN yX6_reset cX6_reset 1 none rm_X6_reset (wC g) [.ref (wA (wC g) 6 0)] S none S' := by
  refine ct_of (own := RX6) (L := [(0, .ref (wA (wC g) 6 0))]) (by decide +kernel) rfl (Nat.le_of_ble_eq_true rfl) rfl (fun X h0 hE => ?_)
  rw [f_X6_reset] at h
  refine r_aload_n (pc' := 1) h0 0 dX6_reset_0 rfl rfl rfl ?_
  refine r_iconst (pc' := 2) h0 dX6_reset_1 ki_0 rfl ?_
  refine pf_X6_15 (pc' := 5) h0 (Nat.le_of_ble_eq_true rfl) dX6_reset_2 rfl ?_
  refine r_aload_n (pc' := 6) h0 0 dX6_reset_5 rfl rfl rfl ?_
  refine r_iconst (pc' := 7) h0 dX6_reset_6 ki_0 rfl ?_
  refine pf_X6_19 (pc' := 10) h0 (Nat.le_of_ble_eq_true rfl) dX6_reset_7 rfl ?_
  refine r_aload_n (pc' := 11) h0 0 dX6_reset_10 rfl rfl rfl ?_
  refine r_iconst (pc' := 12) h0 dX6_reset_11 ki_0 rfl ?_
  refine pf_X6_22 (pc' := 15) h0 (Nat.le_of_ble_eq_true rfl) dX6_reset_12 rfl ?_
  refine r_aload_n (pc' := 16) h0 0 dX6_reset_15 rfl rfl rfl ?_
  refine r_iconst (pc' := 17) h0 dX6_reset_16 ki_0 rfl ?_
  refine pf_X6_25 (pc' := 20) h0 (Nat.le_of_ble_eq_true rfl) dX6_reset_17 rfl ?_
  refine r_aload_n (pc' := 21) h0 0 dX6_reset_20 rfl rfl rfl ?_
  refine r_iconst (pc' := 22) h0 dX6_reset_21 ki_0 rfl ?_
  refine pf_X6_28 (pc' := 25) h0 (Nat.le_of_ble_eq_true rfl) dX6_reset_22 rfl rfl ?_
  exact r_vret h0 hE dX6_reset_25 h
theorem w_X6_letCome_56 {g : GC} {X : MX} {S' : Mem} (h0 : CX RX6 cX6_letCome 2 rm_X6_letCome X (wC g)) (fu : Nat) (i1 : Nat) (hi1 : i1 < 5) (hE : EN none none S' X (wC g)) : ∀ (S : Mem), f_X6_letCome_56 fu i1 S = some ((), S') → GV X (wC g) 2 0 0 S [] 56 [] := by
  intro S h
  rw [f_X6_letCome_56] at h
  exact r_vret h0 hE dX6_letCome_56 h
/-- the machine does what f_X6_letCome says -/
theorem c_X6_letCome (g : GC) (fu : Nat) (i1 : Nat) (hi1 : i1 < 5) (S : Mem) {S' : Mem} (h : f_X6_letCome fu i1 S = some ((), S')) : ctN yX6_letCome cX6_letCome 2 none rm_X6_letCome (wC g) [.ref (wA (wC g) 6 0), .ref (wA (wC g) 3 i1)] S none S' := by
  refine ct_of (own := RX6) (L := [(0, .ref (wA (wC g) 6 0)), (1, .ref (wA (wC g) 3 i1))]) (by decide +kernel) rfl (Nat.le_of_ble_eq_true rfl) rfl (fun X h0 hE => ?_)
  rw [f_X6_letCome] at h
  refine r_aload_n (pc' := 1) h0 0 dX6_letCome_0 rfl rfl rfl ?_
  refine r_dup (pc' := 2) h0 dX6_letCome_1 rfl rfl ?_
  refine gf_X6_19 (pc' := 5) h0 (Nat.le_of_ble_eq_true rfl) dX6_letCome_2 rfl ?_
  refine r_aload_n (pc' := 6) h0 1 dX6_letCome_5 rfl rfl rfl ?_
  refine r_iconst (pc' := 7) h0 dX6_letCome_6 ki_0 rfl ?_
  obtain ⟨r7, h7, h⟩ := b1_some h
  refine go_V (k_X6_77 g) (st2 := [.int r7, .int (S.1 6 0 2), .ref (wA (wC g) 6 0)]) (pc' := 10) [.int 0] [.int (S.1 6 0 2), .ref (wA (wC g) 6 0)] h0 hi1 (c_X3_flowOf g fu i1 hi1 0 S h7) rfl rfl dX6_letCome_7 rfl (Nat.le_of_ble_eq_true rfl) ⟨rfl, rfl, Nat.le_of_ble_eq_true rfl, Nat.le_of_ble_eq_true rfl⟩ ⟨Nat.le_of_ble_eq_true rfl, Nat.le_of_ble_eq_true rfl⟩ rfl ?_
  refine r_iadd (pc' := 11) h0 dX6_letCome_10 rfl ?_
  refine pf_X6_19 (pc' := 14) h0 (Nat.le_of_ble_eq_true rfl) dX6_letCome_11 rfl ?_
  refine r_aload_n (pc' := 15) h0 0 dX6_letCome_14 rfl rfl rfl ?_
  refine gf_X6_19 (pc' := 18) h0 (Nat.le_of_ble_eq_true rfl) dX6_letCome_15 rfl ?_
  refine r_sipush (pc' := 21) h0 dX6_letCome_18 ks_3600 rfl ?_
  refine r_ic_lt (pt := 56) (pf := 24) h0 dX6_letCome_21 rfl rfl h (fun c21 h => ?_) (fun c21 h => ?_)
  · refine r_sub (L' := []) [] rfl ?_
    exact w_X6_letCome_56 h0 fu i1 hi1 hE (wI S 6 0 2 ((S.1 6 0 2) + r7)) h
  · refine r_aload_n (pc' := 25) h0 0 dX6_letCome_24 rfl rfl rfl ?_
    refine r_dup (pc' := 26) h0 dX6_letCome_25 rfl rfl ?_
    refine gf_X6_19 (pc' := 29) h0 (Nat.le_of_ble_eq_true rfl) dX6_letCome_26 rfl ?_
    refine r_sipush (pc' := 32) h0 dX6_letCome_29 ks_3600 rfl ?_
    refine r_isub (pc' := 33) h0 dX6_letCome_32 rfl ?_
    refine pf_X6_19 (pc' := 36) h0 (Nat.le_of_ble_eq_true rfl) dX6_letCome_33 rfl ?_
    refine r_aload_n (pc' := 37) h0 1 dX6_letCome_36 rfl rfl rfl ?_
    refine r_dup (pc' := 38) h0 dX6_letCome_37 rfl rfl ?_
    refine gf_X6_48 (pc' := 41) h0 hi1 dX6_letCome_38 rfl ?_
    refine r_iconst (pc' := 42) h0 dX6_letCome_41 ki_1 rfl ?_
    refine r_iadd (pc' := 43) h0 dX6_letCome_42 rfl ?_
    refine pf_X6_48 (pc' := 46) h0 hi1 dX6_letCome_43 rfl ?_
    refine r_aload_n (pc' := 47) h0 0 dX6_letCome_46 rfl rfl rfl ?_
    refine r_dup (pc' := 48) h0 dX6_letCome_47 rfl rfl ?_
    refine gf_X6_22 (pc' := 51) h0 (Nat.le_of_ble_eq_true rfl) dX6_letCome_48 rfl ?_
    refine r_iconst (pc' := 52) h0 dX6_letCome_51 ki_1 rfl ?_
    refine r_iadd (pc' := 53) h0 dX6_letCome_52 rfl ?_
    refine pf_X6_22 (pc' := 56) h0 (Nat.le_of_ble_eq_true rfl) dX6_letCome_53 rfl ?_
    refine r_sub (L' := []) [] rfl ?_
    exact w_X6_letCome_56 h0 fu i1 hi1 hE (wI (wI (wI (wI S 6 0 2 ((S.1 6 0 2) + r7)) 6 0 2 (((wI S 6 0 2 ((S.1 6 0 2) + r7)).1 6 0 2) - 3600)) 3 i1 11 (((wI (wI S 6 0 2 ((S.1 6 0 2) + r7)) 6 0 2 (((wI S 6 0 2 ((S.1 6 0 2) + r7)).1 6 0 2) - 3600)).1 3 i1 11) + 1)) 6 0 3 (((wI (wI (wI S 6 0 2 ((S.1 6 0 2) + r7)) 6 0 2 (((wI S 6 0 2 ((S.1 6 0 2) + r7)).1 6 0 2) - 3600)) 3 i1 11 (((wI (wI S 6 0 2 ((S.1 6 0 2) + r7)) 6 0 2 (((wI S 6 0 2 ((S.1 6 0 2) + r7)).1 6 0 2) - 3600)).1 3 i1 11) + 1)).1 6 0 3) + 1)) h
theorem w_X6_hasRoomBehind_38 {g : GC} {X : MX} {r : Int32}  (h0 : CX RX6 cX6_hasRoomBehind 2 rm_X6_hasRoomBehind X (wC g)) (fu : Nat) (x1 : Int32) (S : Mem) (hE : EN (some .boolean) (some (.int r)) S X (wC g)) : ∀ (t0 : Int32), f_X6_hasRoomBehind_38 fu x1 S t0 = some r → GV X (wC g) 2 0 0 S [] 38 [.int t0] := by
  intro t0 h
  rw [f_X6_hasRoomBehind_38] at h
  exact r_zretR h0 hE dX6_hasRoomBehind_38 h
theorem w_X6_hasRoomBehind_33 {g : GC} {X : MX} {r : Int32}  (h0 : CX RX6 cX6_hasRoomBehind 2 rm_X6_hasRoomBehind X (wC g)) (fu : Nat) (x1 : Int32) (S : Mem) (hE : EN (some .boolean) (some (.int r)) S X (wC g)) : f_X6_hasRoomBehind_33 fu x1 S = some r → GV X (wC g) 2 0 0 S [] 33 [] := by
  intro  h
  rw [f_X6_hasRoomBehind_33] at h
  refine r_iconst (pc' := 34) h0 dX6_hasRoomBehind_33 ki_1 rfl ?_
  refine r_goto (pc' := 38) h0 dX6_hasRoomBehind_34 rfl ?_
  exact w_X6_hasRoomBehind_38 h0 fu x1 S hE 1 h
/-- the machine does what f_X6_hasRoomBehind says -/
theorem c_X6_hasRoomBehind (g : GC) (fu : Nat) (x1 : Int32) (S : Mem) {r : Int32}  (h : f_X6_hasRoomBehind fu x1 S = some r) : ctN yX6_hasRoomBehind cX6_hasRoomBehind 2 (some .boolean) rm_X6_hasRoomBehind (wC g) [.ref (wA (wC g) 6 0), .int x1] S (some (.int r)) S := by
  refine ct_of (own := RX6) (L := [(0, .ref (wA (wC g) 6 0)), (1, .int x1)]) (by decide +kernel) rfl (Nat.le_of_ble_eq_true rfl) rfl (fun X h0 hE => ?_)
  rw [f_X6_hasRoomBehind] at h
  refine r_aload_n (pc' := 1) h0 0 dX6_hasRoomBehind_0 rfl rfl rfl ?_
  refine gf_X6_9 (pc' := 4) h0 (Nat.le_of_ble_eq_true rfl) dX6_hasRoomBehind_1 rfl ?_
  refine r_iload_n (pc' := 5) h0 1 dX6_hasRoomBehind_4 rfl rfl rfl ?_
  obtain ⟨r5, h5, h⟩ := b1_some h
  refine go_V (k_X6_80 g) (st2 := [.int r5]) (pc' := 8) [.int x1] [] h0 (Nat.le_of_ble_eq_true rfl) (c_X1_isLast g fu x1 S h5) rfl rfl dX6_hasRoomBehind_5 rfl (Nat.le_of_ble_eq_true rfl) ⟨rfl, rfl, Nat.le_of_ble_eq_true rfl, Nat.le_of_ble_eq_true rfl⟩ ⟨Nat.le_of_ble_eq_true rfl, Nat.le_of_ble_eq_true rfl⟩ rfl ?_
  refine r_if_ne (pt := 33) (pf := 11) h0 dX6_hasRoomBehind_8 rfl rfl h (fun c8 h => ?_) (fun c8 h => ?_)
  · refine r_sub (L' := []) [] rfl ?_
    exact w_X6_hasRoomBehind_33 h0 fu x1 S hE h
  · refine r_aload_n (pc' := 12) h0 0 dX6_hasRoomBehind_11 rfl rfl rfl ?_
    refine gf_X6_9 (pc' := 15) h0 (Nat.le_of_ble_eq_true rfl) dX6_hasRoomBehind_12 rfl ?_
    refine r_iload_n (pc' := 16) h0 1 dX6_hasRoomBehind_15 rfl rfl rfl ?_
    obtain ⟨r16, h16, h⟩ := b1_some h
    refine go_V (k_X6_83 g) (st2 := [.int r16]) (pc' := 19) [.int x1] [] h0 (Nat.le_of_ble_eq_true rfl) (c_X1_vehiclesOnLinkFrom g fu x1 S h16) rfl rfl dX6_hasRoomBehind_16 rfl (Nat.le_of_ble_eq_true rfl) ⟨rfl, rfl, Nat.le_of_ble_eq_true rfl, Nat.le_of_ble_eq_true rfl⟩ ⟨Nat.le_of_ble_eq_true rfl, Nat.le_of_ble_eq_true rfl⟩ rfl ?_
    refine r_aload_n (pc' := 20) h0 0 dX6_hasRoomBehind_19 rfl rfl rfl ?_
    refine gf_X6_9 (pc' := 23) h0 (Nat.le_of_ble_eq_true rfl) dX6_hasRoomBehind_20 rfl ?_
    refine r_iload_n (pc' := 24) h0 1 dX6_hasRoomBehind_23 rfl rfl rfl ?_
    obtain ⟨r24, h24, h⟩ := b1_some h
    refine go_V (k_X6_53 g) (st2 := [.ref (wA (wC g) 4 r24), .int r16]) (pc' := 27) [.int x1] [.int r16] h0 (Nat.le_of_ble_eq_true rfl) (c_X1_linkFrom g fu x1 S h24) rfl rfl dX6_hasRoomBehind_24 rfl (Nat.le_of_ble_eq_true rfl) ⟨rfl, rfl, Nat.le_of_ble_eq_true rfl, Nat.le_of_ble_eq_true rfl⟩ ⟨Nat.le_of_ble_eq_true rfl, Nat.le_of_ble_eq_true rfl⟩ rfl ?_
    refine gf_X6_86 (pc' := 30) h0 (b_X1_linkFrom h24) dX6_hasRoomBehind_27 rfl ?_
    refine r_ic_ge (pt := 37) (pf := 33) h0 dX6_hasRoomBehind_30 rfl rfl h (fun c30 h => ?_) (fun c30 h => ?_)
    · refine r_iconst (pc' := 38) h0 dX6_hasRoomBehind_37 ki_0 rfl ?_
      refine r_sub (L' := []) [] rfl ?_
      exact w_X6_hasRoomBehind_38 h0 fu x1 S hE 0 h
    · refine r_sub (L' := []) [] rfl ?_
      exact w_X6_hasRoomBehind_33 h0 fu x1 S hE h
theorem w_X6_letLeave_59 {g : GC} {X : MX} {S' : Mem} (h0 : CX RX6 cX6_letLeave 3 rm_X6_letLeave X (wC g)) (fu : Nat) (x1 : Int32) (hE : EN none none S' X (wC g)) : ∀ (S : Mem), f_X6_letLeave_59 fu x1 S = some ((), S') → GV X (wC g) 3 0 0 S [] 59 [] := by
  intro S h
  rw [f_X6_letLeave_59] at h
  exact r_vret h0 hE dX6_letLeave_59 h
/-- the machine does what f_X6_letLeave says -/
theorem c_X6_letLeave (g : GC) (fu : Nat) (x1 : Int32) (S : Mem) {S' : Mem} (h : f_X6_letLeave fu x1 S = some ((), S')) : ctN yX6_letLeave cX6_letLeave 3 none rm_X6_letLeave (wC g) [.ref (wA (wC g) 6 0), .int x1] S none S' := by
  refine ct_of (own := RX6) (L := [(0, .ref (wA (wC g) 6 0)), (1, .int x1)]) (by decide +kernel) rfl (Nat.le_of_ble_eq_true rfl) rfl (fun X h0 hE => ?_)
  rw [f_X6_letLeave] at h
  refine r_aload_n (pc' := 1) h0 0 dX6_letLeave_0 rfl rfl rfl ?_
  refine gf_X6_9 (pc' := 4) h0 (Nat.le_of_ble_eq_true rfl) dX6_letLeave_1 rfl ?_
  refine r_iload_n (pc' := 5) h0 1 dX6_letLeave_4 rfl rfl rfl ?_
  obtain ⟨r5, h5, h⟩ := b1_some h
  refine go_V (k_X6_40 g) (st2 := [.ref (wA (wC g) 3 r5)]) (pc' := 8) [.int x1] [] h0 (Nat.le_of_ble_eq_true rfl) (c_X1_at g fu x1 S h5) rfl rfl dX6_letLeave_5 rfl (Nat.le_of_ble_eq_true rfl) ⟨rfl, rfl, Nat.le_of_ble_eq_true rfl, Nat.le_of_ble_eq_true rfl⟩ ⟨Nat.le_of_ble_eq_true rfl, Nat.le_of_ble_eq_true rfl⟩ rfl ?_
  refine r_astore_n (pc' := 9) (L' := [(2, .ref (wA (wC g) 3 r5)), (0, .ref (wA (wC g) 6 0)), (1, .int x1)]) h0 dX6_letLeave_8 rfl (Nat.le_of_ble_eq_true rfl) rfl rfl ?_
  refine r_aload_n (pc' := 10) h0 0 dX6_letLeave_9 rfl rfl rfl ?_
  refine r_dup (pc' := 11) h0 dX6_letLeave_10 rfl rfl ?_
  refine gf_X6_48 (pc' := 14) h0 (b_X1_at h5) dX6_letLeave_11 rfl ?_
  refine r_iconst (pc' := 15) h0 dX6_letLeave_14 ki_1 rfl ?_
  refine r_isub (pc' := 16) h0 dX6_letLeave_15 rfl ?_
  refine pf_X6_48 (pc' := 19) h0 (b_X1_at h5) dX6_letLeave_16 rfl ?_
  refine r_aload_n (pc' := 20) h0 0 dX6_letLeave_19 rfl rfl rfl ?_
  refine r_iconst (pc' := 21) h0 dX6_letLeave_20 ki_0 rfl ?_
  refine pf_X6_67 (pc' := 24) h0 (b_X1_at h5) dX6_letLeave_21 rfl ?_
  refine r_aload_n (pc' := 25) h0 1 dX6_letLeave_24 rfl rfl rfl ?_
  refine gf_X6_9 (pc' := 28) h0 (Nat.le_of_ble_eq_true rfl) dX6_letLeave_25 rfl ?_
  refine r_iload_n (pc' := 29) h0 2 dX6_letLeave_28 rfl rfl rfl ?_
  obtain ⟨r29, h29, h⟩ := b1_some h
  refine go_V (k_X6_80 g) (st2 := [.int r29]) (pc' := 32) [.int x1] [] h0 (Nat.le_of_ble_eq_true rfl) (c_X1_isLast g fu x1 (wI (wI S 3 r5 11 ((S.1 3 r5 11) - 1)) 3 r5 12 0) h29) rfl rfl dX6_letLeave_29 rfl (Nat.le_of_ble_eq_true rfl) ⟨rfl, rfl, Nat.le_of_ble_eq_true rfl, Nat.le_of_ble_eq_true rfl⟩ ⟨Nat.le_of_ble_eq_true rfl, Nat.le_of_ble_eq_true rfl⟩ rfl ?_
  refine r_if_eq (pt := 48) (pf := 35) h0 dX6_letLeave_32 rfl rfl h (fun c32 h => ?_) (fun c32 h => ?_)
  · refine r_aload_n (pc' := 49) h0 0 dX6_letLeave_48 rfl rfl rfl ?_
    refine gf_X6_89 (pc' := 52) h0 (b_X1_at h5) dX6_letLeave_49 rfl ?_
    refine r_aload_n (pc' := 53) h0 1 dX6_letLeave_52 rfl rfl rfl ?_
    refine gf_X6_15 (pc' := 56) h0 (Nat.le_of_ble_eq_true rfl) dX6_letLeave_53 rfl ?_
    obtain ⟨r56, S56, h56, h⟩ := b2_some h
    refine go_V (k_X6_93 g) (st2 := []) (pc' := 59) [.int ((wI (wI S 3 r5 11 ((S.1 3 r5 11) - 1)) 3 r5 12 0).1 6 0 1)] [] h0 (b_X1_at h5) (c_X4_send g fu r5 (b_X1_at h5) ((wI (wI S 3 r5 11 ((S.1 3 r5 11) - 1)) 3 r5 12 0).1 6 0 1) (wI (wI S 3 r5 11 ((S.1 3 r5 11) - 1)) 3 r5 12 0) h56) rfl rfl dX6_letLeave_56 rfl (Nat.le_of_ble_eq_true rfl) ⟨rfl, rfl, Nat.le_of_ble_eq_true rfl, Nat.le_of_ble_eq_true rfl⟩ ⟨Nat.le_of_ble_eq_true rfl, Nat.le_of_ble_eq_true rfl⟩ rfl ?_
    refine r_sub (L' := []) [] rfl ?_
    exact w_X6_letLeave_59 h0 fu x1 hE S56 h
  · refine r_aload_n (pc' := 36) h0 1 dX6_letLeave_35 rfl rfl rfl ?_
    refine r_dup (pc' := 37) h0 dX6_letLeave_36 rfl rfl ?_
    refine gf_X6_25 (pc' := 40) h0 (Nat.le_of_ble_eq_true rfl) dX6_letLeave_37 rfl ?_
    refine r_iconst (pc' := 41) h0 dX6_letLeave_40 ki_1 rfl ?_
    refine r_iadd (pc' := 42) h0 dX6_letLeave_41 rfl ?_
    refine pf_X6_25 (pc' := 45) h0 (Nat.le_of_ble_eq_true rfl) dX6_letLeave_42 rfl ?_
    refine r_goto (pc' := 59) h0 dX6_letLeave_45 rfl ?_
    refine r_sub (L' := []) [] rfl ?_
    exact w_X6_letLeave_59 h0 fu x1 hE (wI (wI (wI S 3 r5 11 ((S.1 3 r5 11) - 1)) 3 r5 12 0) 6 0 4 (((wI (wI S 3 r5 11 ((S.1 3 r5 11) - 1)) 3 r5 12 0).1 6 0 4) + 1)) h
theorem w_X6_passSecond_96 {g : GC} {X : MX} {S' : Mem} (h0 : CX RX6 cX6_passSecond 3 rm_X6_passSecond X (wC g)) (fu : Nat) (hE : EN none none S' X (wC g)) (K2 : Int32 → Mem → Option (Unit × Mem)) (kK2 : ∀ (x1 : Int32) (S : Mem), K2 x1 S = some ((), S') → GV X (wC g) 3 0 0 S [(0, .ref (wA (wC g) 6 0)), (1, .int x1)] 2 []) : ∀ (x1 : Int32) (S : Mem), f_X6_passSecond_96 fu K2 x1 S = some ((), S') → GV X (wC g) 3 0 0 S [(0, .ref (wA (wC g) 6 0)), (1, .int x1)] 96 [] := by
  intro x1 S h
  rw [f_X6_passSecond_96] at h
  refine r_iinc (pc' := 99) (L' := [(1, .int (x1 + 1)), (0, .ref (wA (wC g) 6 0))]) h0 1 dX6_passSecond_96 rfl ki_1 (Nat.le_of_ble_eq_true rfl) rfl rfl ?_
  refine r_goto (pc' := 2) h0 dX6_passSecond_99 rfl ?_
  refine r_sub (L' := [(0, .ref (wA (wC g) 6 0)), (1, .int (x1 + 1))]) [1, 0] rfl ?_
  exact kK2 (x1 + 1) S h
theorem w_X6_passSecond_60 {g : GC} {X : MX} {S' : Mem} (h0 : CX RX6 cX6_passSecond 3 rm_X6_passSecond X (wC g)) (fu : Nat) (hE : EN none none S' X (wC g)) (K2 : Int32 → Mem → Option (Unit × Mem)) (kK2 : ∀ (x1 : Int32) (S : Mem), K2 x1 S = some ((), S') → GV X (wC g) 3 0 0 S [(0, .ref (wA (wC g) 6 0)), (1, .int x1)] 2 []) : ∀ (x1 : Int32) (x2 : Nat) (hx2 : x2 < 5) (S : Mem), f_X6_passSecond_60 fu K2 x1 x2 S = some ((), S') → GV X (wC g) 3 0 0 S [(0, .ref (wA (wC g) 6 0)), (1, .int x1), (2, .ref (wA (wC g) 3 x2))] 60 [] := by
  intro x1 x2 hx2 S h
  rw [f_X6_passSecond_60] at h
  refine r_aload_n (pc' := 61) h0 2 dX6_passSecond_60 rfl rfl rfl ?_
  refine r_aload_n (pc' := 62) h0 0 dX6_passSecond_61 rfl rfl rfl ?_
  refine gf_X6_15 (pc' := 65) h0 (Nat.le_of_ble_eq_true rfl) dX6_passSecond_62 rfl ?_
  obtain ⟨r65, S65, h65, h⟩ := b2_some h
  refine go_V (k_X6_63 g) (st2 := []) (pc' := 68) [.int (S.1 6 0 1)] [] h0 hx2 (c_X3_growReady g fu x2 hx2 (S.1 6 0 1) S h65) rfl rfl dX6_passSecond_65 rfl (Nat.le_of_ble_eq_true rfl) ⟨rfl, rfl, Nat.le_of_ble_eq_true rfl, Nat.le_of_ble_eq_true rfl⟩ ⟨Nat.le_of_ble_eq_true rfl, Nat.le_of_ble_eq_true rfl⟩ rfl ?_
  refine r_aload_n (pc' := 69) h0 2 dX6_passSecond_68 rfl rfl rfl ?_
  refine gf_X6_67 (pc' := 72) h0 hx2 dX6_passSecond_69 rfl ?_
  refine r_iconst (pc' := 73) h0 dX6_passSecond_72 ki_2 rfl ?_
  refine r_ic_ne (pt := 96) (pf := 76) h0 dX6_passSecond_73 rfl rfl h (fun c73 h => ?_) (fun c73 h => ?_)
  · refine r_sub (L' := [(0, .ref (wA (wC g) 6 0)), (1, .int x1)]) [0, 1] rfl ?_
    exact w_X6_passSecond_96 h0 fu hE K2 kK2 x1 S65 h
  · refine r_aload_n (pc' := 77) h0 2 dX6_passSecond_76 rfl rfl rfl ?_
    refine gf_X6_48 (pc' := 80) h0 hx2 dX6_passSecond_77 rfl ?_
    refine r_if_le (pt := 96) (pf := 83) h0 dX6_passSecond_80 rfl rfl h (fun c80 h => ?_) (fun c80 h => ?_)
    · refine r_sub (L' := [(0, .ref (wA (wC g) 6 0)), (1, .int x1)]) [0, 1] rfl ?_
      exact w_X6_passSecond_96 h0 fu hE K2 kK2 x1 S65 h
    · refine r_aload_n (pc' := 84) h0 0 dX6_passSecond_83 rfl rfl rfl ?_
      refine r_iload_n (pc' := 85) h0 1 dX6_passSecond_84 rfl rfl rfl ?_
      obtain ⟨r85, h85, h⟩ := b1_some h
      refine go_V (k_X6_70 g) (st2 := [.int r85]) (pc' := 88) [.int x1] [] h0 (Nat.le_of_ble_eq_true rfl) (c_X6_hasRoomBehind g fu x1 S65 h85) rfl rfl dX6_passSecond_85 rfl (Nat.le_of_ble_eq_true rfl) ⟨rfl, rfl, Nat.le_of_ble_eq_true rfl, Nat.le_of_ble_eq_true rfl⟩ ⟨Nat.le_of_ble_eq_true rfl, Nat.le_of_ble_eq_true rfl⟩ rfl ?_
      refine r_if_eq (pt := 96) (pf := 91) h0 dX6_passSecond_88 rfl rfl h (fun c88 h => ?_) (fun c88 h => ?_)
      · refine r_sub (L' := [(0, .ref (wA (wC g) 6 0)), (1, .int x1)]) [0, 1] rfl ?_
        exact w_X6_passSecond_96 h0 fu hE K2 kK2 x1 S65 h
      · refine r_aload_n (pc' := 92) h0 0 dX6_passSecond_91 rfl rfl rfl ?_
        refine r_iload_n (pc' := 93) h0 1 dX6_passSecond_92 rfl rfl rfl ?_
        obtain ⟨r93, S93, h93, h⟩ := b2_some h
        refine go_V (k_X6_74 g) (st2 := []) (pc' := 96) [.int x1] [] h0 (Nat.le_of_ble_eq_true rfl) (c_X6_letLeave g fu x1 S65 h93) rfl rfl dX6_passSecond_93 rfl (Nat.le_of_ble_eq_true rfl) ⟨rfl, rfl, Nat.le_of_ble_eq_true rfl, Nat.le_of_ble_eq_true rfl⟩ ⟨Nat.le_of_ble_eq_true rfl, Nat.le_of_ble_eq_true rfl⟩ rfl ?_
        refine r_sub (L' := [(0, .ref (wA (wC g) 6 0)), (1, .int x1)]) [0, 1] rfl ?_
        exact w_X6_passSecond_96 h0 fu hE K2 kK2 x1 S93 h
theorem w_X6_passSecond_2 {g : GC} {X : MX} {S' : Mem} (h0 : CX RX6 cX6_passSecond 3 rm_X6_passSecond X (wC g)) (fu : Nat) (hE : EN none none S' X (wC g)) : ∀ (n : Nat) (x1 : Int32) (S : Mem), f_X6_passSecond_2 fu n x1 S = some ((), S') → GV X (wC g) 3 0 0 S [(0, .ref (wA (wC g) 6 0)), (1, .int x1)] 2 [] := by
  intro n
  induction n with
  | zero =>
    intro x1 S h
    exact nomatch (show none = _ from h)
  | succ n ih =>
    intro x1 S h
    rw [f_X6_passSecond_2] at h
    refine r_iload_n (pc' := 3) h0 1 dX6_passSecond_2 rfl rfl rfl ?_
    refine r_aload_n (pc' := 4) h0 0 dX6_passSecond_3 rfl rfl rfl ?_
    refine gf_X6_9 (pc' := 7) h0 (Nat.le_of_ble_eq_true rfl) dX6_passSecond_4 rfl ?_
    refine gf_X6_35 (pc' := 10) h0 (Nat.le_of_ble_eq_true rfl) dX6_passSecond_7 rfl ?_
    refine r_ic_ge (pt := 102) (pf := 13) h0 dX6_passSecond_10 rfl rfl h (fun c10 h => ?_) (fun c10 h => ?_)
    · refine r_aload_n (pc' := 103) h0 0 dX6_passSecond_102 rfl rfl rfl ?_
      refine r_dup (pc' := 104) h0 dX6_passSecond_103 rfl rfl ?_
      refine gf_X6_15 (pc' := 107) h0 (Nat.le_of_ble_eq_true rfl) dX6_passSecond_104 rfl ?_
      refine r_iconst (pc' := 108) h0 dX6_passSecond_107 ki_1 rfl ?_
      refine r_iadd (pc' := 109) h0 dX6_passSecond_108 rfl ?_
      refine pf_X6_15 (pc' := 112) h0 (Nat.le_of_ble_eq_true rfl) dX6_passSecond_109 rfl ?_
      exact r_vret h0 hE dX6_passSecond_112 h
    · refine r_aload_n (pc' := 14) h0 0 dX6_passSecond_13 rfl rfl rfl ?_
      refine gf_X6_9 (pc' := 17) h0 (Nat.le_of_ble_eq_true rfl) dX6_passSecond_14 rfl ?_
      refine r_iload_n (pc' := 18) h0 1 dX6_passSecond_17 rfl rfl rfl ?_
      obtain ⟨r18, h18, h⟩ := b1_some h
      refine go_V (k_X6_40 g) (st2 := [.ref (wA (wC g) 3 r18)]) (pc' := 21) [.int x1] [] h0 (Nat.le_of_ble_eq_true rfl) (c_X1_at g fu x1 S h18) rfl rfl dX6_passSecond_18 rfl (Nat.le_of_ble_eq_true rfl) ⟨rfl, rfl, Nat.le_of_ble_eq_true rfl, Nat.le_of_ble_eq_true rfl⟩ ⟨Nat.le_of_ble_eq_true rfl, Nat.le_of_ble_eq_true rfl⟩ rfl ?_
      refine r_astore_n (pc' := 22) (L' := [(2, .ref (wA (wC g) 3 r18)), (0, .ref (wA (wC g) 6 0)), (1, .int x1)]) h0 dX6_passSecond_21 rfl (Nat.le_of_ble_eq_true rfl) rfl rfl ?_
      refine r_iload_n (pc' := 23) h0 2 dX6_passSecond_22 rfl rfl rfl ?_
      refine r_if_ne (pt := 34) (pf := 26) h0 dX6_passSecond_23 rfl rfl h (fun c23 h => ?_) (fun c23 h => ?_)
      · refine r_aload_n (pc' := 35) h0 0 dX6_passSecond_34 rfl rfl rfl ?_
        refine r_dup (pc' := 36) h0 dX6_passSecond_35 rfl rfl ?_
        refine gf_X6_48 (pc' := 39) h0 (b_X1_at h18) dX6_passSecond_36 rfl ?_
        refine r_aload_n (pc' := 40) h0 1 dX6_passSecond_39 rfl rfl rfl ?_
        refine gf_X6_9 (pc' := 43) h0 (Nat.le_of_ble_eq_true rfl) dX6_passSecond_40 rfl ?_
        refine r_iload_n (pc' := 44) h0 2 dX6_passSecond_43 rfl rfl rfl ?_
        refine r_iconst (pc' := 45) h0 dX6_passSecond_44 ki_1 rfl ?_
        refine r_isub (pc' := 46) h0 dX6_passSecond_45 rfl ?_
        obtain ⟨r46, h46, h⟩ := b1_some h
        refine go_V (k_X6_53 g) (st2 := [.ref (wA (wC g) 4 r46), .int (S.1 3 r18 11), .ref (wA (wC g) 3 r18)]) (pc' := 49) [.int (x1 - 1)] [.int (S.1 3 r18 11), .ref (wA (wC g) 3 r18)] h0 (Nat.le_of_ble_eq_true rfl) (c_X1_linkFrom g fu (x1 - 1) S h46) rfl rfl dX6_passSecond_46 rfl (Nat.le_of_ble_eq_true rfl) ⟨rfl, rfl, Nat.le_of_ble_eq_true rfl, Nat.le_of_ble_eq_true rfl⟩ ⟨Nat.le_of_ble_eq_true rfl, Nat.le_of_ble_eq_true rfl⟩ rfl ?_
        refine r_aload_n (pc' := 50) h0 1 dX6_passSecond_49 rfl rfl rfl ?_
        refine gf_X6_15 (pc' := 53) h0 (Nat.le_of_ble_eq_true rfl) dX6_passSecond_50 rfl ?_
        obtain ⟨r53, S53, h53, h⟩ := b2_some h
        refine go_V (k_X6_57 g) (st2 := [.int r53, .int (S.1 3 r18 11), .ref (wA (wC g) 3 r18)]) (pc' := 56) [.int (S.1 6 0 1)] [.int (S.1 3 r18 11), .ref (wA (wC g) 3 r18)] h0 (b_X1_linkFrom h46) (c_X4_land g fu r46 (b_X1_linkFrom h46) (S.1 6 0 1) S h53) rfl rfl dX6_passSecond_53 rfl (Nat.le_of_ble_eq_true rfl) ⟨rfl, rfl, Nat.le_of_ble_eq_true rfl, Nat.le_of_ble_eq_true rfl⟩ ⟨Nat.le_of_ble_eq_true rfl, Nat.le_of_ble_eq_true rfl⟩ rfl ?_
        refine r_iadd (pc' := 57) h0 dX6_passSecond_56 rfl ?_
        refine pf_X6_48 (pc' := 60) h0 (b_X1_at h18) dX6_passSecond_57 rfl ?_
        refine r_sub (L' := [(0, .ref (wA (wC g) 6 0)), (1, .int x1), (2, .ref (wA (wC g) 3 r18))]) [1, 2, 0] rfl ?_
        exact w_X6_passSecond_60 h0 fu hE (f_X6_passSecond_2 fu n) ih x1 r18 (b_X1_at h18) (wI S53 3 r18 11 ((S.1 3 r18 11) + r53)) h
      · refine r_aload_n (pc' := 27) h0 1 dX6_passSecond_26 rfl rfl rfl ?_
        refine r_aload_n (pc' := 28) h0 0 dX6_passSecond_27 rfl rfl rfl ?_
        obtain ⟨r28, S28, h28, h⟩ := b2_some h
        refine go_V (k_X6_44 g) (st2 := []) (pc' := 31) [.ref (wA (wC g) 3 r18)] [] h0 (Nat.le_of_ble_eq_true rfl) (c_X6_letCome g fu r18 (b_X1_at h18) S h28) rfl rfl dX6_passSecond_28 rfl (Nat.le_of_ble_eq_true rfl) ⟨rfl, rfl, Nat.le_of_ble_eq_true rfl, Nat.le_of_ble_eq_true rfl⟩ ⟨Nat.le_of_ble_eq_true rfl, Nat.le_of_ble_eq_true rfl⟩ rfl ?_
        refine r_goto (pc' := 60) h0 dX6_passSecond_31 rfl ?_
        refine r_sub (L' := [(0, .ref (wA (wC g) 6 0)), (1, .int x1), (2, .ref (wA (wC g) 3 r18))]) [1, 2, 0] rfl ?_
        exact w_X6_passSecond_60 h0 fu hE (f_X6_passSecond_2 fu n) ih x1 r18 (b_X1_at h18) S28 h
/-- the machine does what f_X6_passSecond says -/
theorem c_X6_passSecond (g : GC) (fu : Nat) (S : Mem) {S' : Mem} (h : f_X6_passSecond fu S = some ((), S')) : ctN yX6_passSecond cX6_passSecond 3 none rm_X6_passSecond (wC g) [.ref (wA (wC g) 6 0)] S none S' := by
  refine ct_of (own := RX6) (L := [(0, .ref (wA (wC g) 6 0))]) (by decide +kernel) rfl (Nat.le_of_ble_eq_true rfl) rfl (fun X h0 hE => ?_)
  rw [f_X6_passSecond] at h
  refine r_iconst (pc' := 1) h0 dX6_passSecond_0 ki_0 rfl ?_
  refine r_istore_n (pc' := 2) (L' := [(1, .int 0), (0, .ref (wA (wC g) 6 0))]) h0 dX6_passSecond_1 rfl (Nat.le_of_ble_eq_true rfl) rfl rfl ?_
  refine r_sub (L' := [(0, .ref (wA (wC g) 6 0)), (1, .int 0)]) [1, 0] rfl ?_
  exact w_X6_passSecond_2 h0 fu hE fu 0 S h
theorem w_X6_pass_12 {g : GC} {X : MX} {r : Int32} {S' : Mem} (h0 : CX RX6 cX6_pass 4 rm_X6_pass X (wC g)) (fu : Nat) (x1 : Int32) (hE : EN (some .int) (some (.int r)) S' X (wC g)) : ∀ (n : Nat) (x2 : Int32) (x3 : Int32) (S : Mem), f_X6_pass_12 fu x1 n x2 x3 S = some (r, S') → GV X (wC g) 4 0 0 S [(0, .ref (wA (wC g) 6 0)), (1, .int x1), (2, .int x2), (3, .int x3)] 12 [] := by
  intro n
  induction n with
  | zero =>
    intro x2 x3 S h
    exact nomatch (show none = _ from h)
  | succ n ih =>
    intro x2 x3 S h
    rw [f_X6_pass_12] at h
    refine r_iload_n (pc' := 13) h0 3 dX6_pass_12 rfl rfl rfl ?_
    refine r_iload_n (pc' := 14) h0 1 dX6_pass_13 rfl rfl rfl ?_
    refine r_ic_ge (pt := 27) (pf := 17) h0 dX6_pass_14 rfl rfl h (fun c14 h => ?_) (fun c14 h => ?_)
    · refine r_aload_n (pc' := 28) h0 0 dX6_pass_27 rfl rfl rfl ?_
      refine gf_X6_25 (pc' := 31) h0 (Nat.le_of_ble_eq_true rfl) dX6_pass_28 rfl ?_
      refine r_iload_n (pc' := 32) h0 2 dX6_pass_31 rfl rfl rfl ?_
      refine r_isub (pc' := 33) h0 dX6_pass_32 rfl ?_
      exact r_iret h0 hE dX6_pass_33 h
    · refine r_aload_n (pc' := 18) h0 0 dX6_pass_17 rfl rfl rfl ?_
      obtain ⟨r18, S18, h18, h⟩ := b2_some h
      refine go_V (k_X6_32 g) (st2 := []) (pc' := 21) [] [] h0 (Nat.le_of_ble_eq_true rfl) (c_X6_passSecond g fu S h18) rfl rfl dX6_pass_18 rfl (Nat.le_of_ble_eq_true rfl) ⟨rfl, rfl, Nat.le_of_ble_eq_true rfl, Nat.le_of_ble_eq_true rfl⟩ ⟨Nat.le_of_ble_eq_true rfl, Nat.le_of_ble_eq_true rfl⟩ rfl ?_
      refine r_iinc (pc' := 24) (L' := [(3, .int (x3 + 1)), (0, .ref (wA (wC g) 6 0)), (1, .int x1), (2, .int x2)]) h0 3 dX6_pass_21 rfl ki_1 (Nat.le_of_ble_eq_true rfl) rfl rfl ?_
      refine r_goto (pc' := 12) h0 dX6_pass_24 rfl ?_
      refine r_sub (L' := [(0, .ref (wA (wC g) 6 0)), (1, .int x1), (2, .int x2), (3, .int (x3 + 1))]) [1, 2, 3, 0] rfl ?_
      exact ih x2 (x3 + 1) S18 h
/-- the machine does what f_X6_pass says -/
theorem c_X6_pass (g : GC) (fu : Nat) (x1 : Int32) (S : Mem) {r : Int32} {S' : Mem} (h : f_X6_pass fu x1 S = some (r, S')) : ctN yX6_pass cX6_pass 4 (some .int) rm_X6_pass (wC g) [.ref (wA (wC g) 6 0), .int x1] S (some (.int r)) S' := by
  refine ct_of (own := RX6) (L := [(0, .ref (wA (wC g) 6 0)), (1, .int x1)]) (by decide +kernel) rfl (Nat.le_of_ble_eq_true rfl) rfl (fun X h0 hE => ?_)
  rw [f_X6_pass] at h
  refine r_aload_n (pc' := 1) h0 0 dX6_pass_0 rfl rfl rfl ?_
  refine gf_X6_25 (pc' := 4) h0 (Nat.le_of_ble_eq_true rfl) dX6_pass_1 rfl ?_
  refine r_istore_n (pc' := 5) (L' := [(2, .int (S.1 6 0 4)), (0, .ref (wA (wC g) 6 0)), (1, .int x1)]) h0 dX6_pass_4 rfl (Nat.le_of_ble_eq_true rfl) rfl rfl ?_
  refine r_aload_n (pc' := 6) h0 1 dX6_pass_5 rfl rfl rfl ?_
  refine r_iconst (pc' := 7) h0 dX6_pass_6 ki_1 rfl ?_
  refine pf_X6_28 (pc' := 10) h0 (Nat.le_of_ble_eq_true rfl) dX6_pass_7 rfl rfl ?_
  refine r_iconst (pc' := 11) h0 dX6_pass_10 ki_0 rfl ?_
  refine r_istore_n (pc' := 12) (L' := [(3, .int 0), (2, .int (S.1 6 0 4)), (0, .ref (wA (wC g) 6 0)), (1, .int x1)]) h0 dX6_pass_11 rfl (Nat.le_of_ble_eq_true rfl) rfl rfl ?_
  refine r_sub (L' := [(0, .ref (wA (wC g) 6 0)), (1, .int x1), (2, .int (S.1 6 0 4)), (3, .int 0)]) [2, 3, 1, 0] rfl ?_
  exact w_X6_pass_12 h0 fu x1 hE fu (S.1 6 0 4) 0 (wI S 6 0 5 1) h
/-- the machine does what f_X7_junctions says -/
theorem c_X7_junctions (g : GC) (fu : Nat) (S : Mem) {r : Int32}  (h : f_X7_junctions fu S = some r) : ctN yX7_junctions cX7_junctions 1 (some .int) rm_X7_junctions (wC g) [.ref (wA (wC g) 7 0)] S (some (.int r)) S := by
  refine ct_of (own := RX7) (L := [(0, .ref (wA (wC g) 7 0))]) (by decide +kernel) rfl (Nat.le_of_ble_eq_true rfl) rfl (fun X h0 hE => ?_)
  rw [f_X7_junctions] at h
  refine r_aload_n (pc' := 1) h0 0 dX7_junctions_0 rfl rfl rfl ?_
  refine gf_X7_10 (pc' := 4) h0 (Nat.le_of_ble_eq_true rfl) dX7_junctions_1 rfl ?_
  refine gf_X7_133 (pc' := 7) h0 (Nat.le_of_ble_eq_true rfl) dX7_junctions_4 rfl ?_
  exact r_iretR h0 hE dX7_junctions_7 h
/-- the machine does what f_X7_clock says -/
theorem c_X7_clock (g : GC) (fu : Nat) (S : Mem) {r : Int32}  (h : f_X7_clock fu S = some r) : ctN yX7_clock cX7_clock 1 (some .int) rm_X7_clock (wC g) [.ref (wA (wC g) 7 0)] S (some (.int r)) S := by
  refine ct_of (own := RX7) (L := [(0, .ref (wA (wC g) 7 0))]) (by decide +kernel) rfl (Nat.le_of_ble_eq_true rfl) rfl (fun X h0 hE => ?_)
  rw [f_X7_clock] at h
  refine r_aload_n (pc' := 1) h0 0 dX7_clock_0 rfl rfl rfl ?_
  refine gf_X7_28 (pc' := 4) h0 (Nat.le_of_ble_eq_true rfl) dX7_clock_1 rfl ?_
  refine gf_X7_179 (pc' := 7) h0 (Nat.le_of_ble_eq_true rfl) dX7_clock_4 rfl ?_
  exact r_iretR h0 hE dX7_clock_7 h
/-- the machine does what f_X7_come says -/
theorem c_X7_come (g : GC) (fu : Nat) (S : Mem) {r : Int32}  (h : f_X7_come fu S = some r) : ctN yX7_come cX7_come 1 (some .int) rm_X7_come (wC g) [.ref (wA (wC g) 7 0)] S (some (.int r)) S := by
  refine ct_of (own := RX7) (L := [(0, .ref (wA (wC g) 7 0))]) (by decide +kernel) rfl (Nat.le_of_ble_eq_true rfl) rfl (fun X h0 hE => ?_)
  rw [f_X7_come] at h
  refine r_aload_n (pc' := 1) h0 0 dX7_come_0 rfl rfl rfl ?_
  refine gf_X7_28 (pc' := 4) h0 (Nat.le_of_ble_eq_true rfl) dX7_come_1 rfl ?_
  refine gf_X7_212 (pc' := 7) h0 (Nat.le_of_ble_eq_true rfl) dX7_come_4 rfl ?_
  exact r_iretR h0 hE dX7_come_7 h
/-- the machine does what f_X7_through says -/
theorem c_X7_through (g : GC) (fu : Nat) (S : Mem) {r : Int32}  (h : f_X7_through fu S = some r) : ctN yX7_through cX7_through 1 (some .int) rm_X7_through (wC g) [.ref (wA (wC g) 7 0)] S (some (.int r)) S := by
  refine ct_of (own := RX7) (L := [(0, .ref (wA (wC g) 7 0))]) (by decide +kernel) rfl (Nat.le_of_ble_eq_true rfl) rfl (fun X h0 hE => ?_)
  rw [f_X7_through] at h
  refine r_aload_n (pc' := 1) h0 0 dX7_through_0 rfl rfl rfl ?_
  refine gf_X7_28 (pc' := 4) h0 (Nat.le_of_ble_eq_true rfl) dX7_through_1 rfl ?_
  refine gf_X7_215 (pc' := 7) h0 (Nat.le_of_ble_eq_true rfl) dX7_through_4 rfl ?_
  exact r_iretR h0 hE dX7_through_7 h
theorem w_X7_isOutside_15 {g : GC} {X : MX} {r : Int32}  (h0 : CX RX7 cX7_isOutside 3 rm_X7_isOutside X (wC g)) (fu : Nat) (x0 : Int32) (x1 : Int32) (x2 : Int32) (S : Mem) (hE : EN (some .boolean) (some (.int r)) S X (wC g)) : ∀ (t0 : Int32), f_X7_isOutside_15 fu x0 x1 x2 S t0 = some r → GV X (wC g) 3 0 0 S [] 15 [.int t0] := by
  intro t0 h
  rw [f_X7_isOutside_15] at h
  exact r_zretR h0 hE dX7_isOutside_15 h
theorem w_X7_isOutside_10 {g : GC} {X : MX} {r : Int32}  (h0 : CX RX7 cX7_isOutside 3 rm_X7_isOutside X (wC g)) (fu : Nat) (x0 : Int32) (x1 : Int32) (x2 : Int32) (S : Mem) (hE : EN (some .boolean) (some (.int r)) S X (wC g)) : f_X7_isOutside_10 fu x0 x1 x2 S = some r → GV X (wC g) 3 0 0 S [] 10 [] := by
  intro  h
  rw [f_X7_isOutside_10] at h
  refine r_iconst (pc' := 11) h0 dX7_isOutside_10 ki_1 rfl ?_
  refine r_goto (pc' := 15) h0 dX7_isOutside_11 rfl ?_
  exact w_X7_isOutside_15 h0 fu x0 x1 x2 S hE 1 h
/-- the machine does what f_X7_isOutside says -/
theorem c_X7_isOutside (g : GC) (fu : Nat) (x0 : Int32) (x1 : Int32) (x2 : Int32) (S : Mem) {r : Int32}  (h : f_X7_isOutside fu x0 x1 x2 S = some r) : ctN yX7_isOutside cX7_isOutside 3 (some .boolean) rm_X7_isOutside (wC g) [.int x0, .int x1, .int x2] S (some (.int r)) S := by
  refine ct_of (own := RX7) (L := [(0, .int x0), (1, .int x1), (2, .int x2)]) (by decide +kernel) rfl (Nat.le_of_ble_eq_true rfl) rfl (fun X h0 hE => ?_)
  rw [f_X7_isOutside] at h
  refine r_iload_n (pc' := 1) h0 0 dX7_isOutside_0 rfl rfl rfl ?_
  refine r_iload_n (pc' := 2) h0 1 dX7_isOutside_1 rfl rfl rfl ?_
  refine r_ic_lt (pt := 10) (pf := 5) h0 dX7_isOutside_2 rfl rfl h (fun c2 h => ?_) (fun c2 h => ?_)
  · refine r_sub (L' := []) [] rfl ?_
    exact w_X7_isOutside_10 h0 fu x0 x1 x2 S hE h
  · refine r_iload_n (pc' := 6) h0 0 dX7_isOutside_5 rfl rfl rfl ?_
    refine r_iload_n (pc' := 7) h0 2 dX7_isOutside_6 rfl rfl rfl ?_
    refine r_ic_le (pt := 14) (pf := 10) h0 dX7_isOutside_7 rfl rfl h (fun c7 h => ?_) (fun c7 h => ?_)
    · refine r_iconst (pc' := 15) h0 dX7_isOutside_14 ki_0 rfl ?_
      refine r_sub (L' := []) [] rfl ?_
      exact w_X7_isOutside_15 h0 fu x0 x1 x2 S hE 0 h
    · refine r_sub (L' := []) [] rfl ?_
      exact w_X7_isOutside_10 h0 fu x0 x1 x2 S hE h
/-- the machine does what f_X7_hasPlan says -/
theorem c_X7_hasPlan (g : GC) (fu : Nat) (x1 : Int32) (S : Mem) {r : Int32}  (h : f_X7_hasPlan fu x1 S = some r) : ctN yX7_hasPlan cX7_hasPlan 2 (some .boolean) rm_X7_hasPlan (wC g) [.ref (wA (wC g) 7 0), .int x1] S (some (.int r)) S := by
  refine ct_of (own := RX7) (L := [(0, .ref (wA (wC g) 7 0)), (1, .int x1)]) (by decide +kernel) rfl (Nat.le_of_ble_eq_true rfl) rfl (fun X h0 hE => ?_)
  rw [f_X7_hasPlan] at h
  refine r_aload_n (pc' := 1) h0 0 dX7_hasPlan_0 rfl rfl rfl ?_
  refine gf_X7_10 (pc' := 4) h0 (Nat.le_of_ble_eq_true rfl) dX7_hasPlan_1 rfl ?_
  refine r_iload_n (pc' := 5) h0 1 dX7_hasPlan_4 rfl rfl rfl ?_
  obtain ⟨r5, h5, h⟩ := b1_some h
  refine go_V (k_X7_49 g) (st2 := [.ref (wA (wC g) 3 r5)]) (pc' := 8) [.int x1] [] h0 (Nat.le_of_ble_eq_true rfl) (c_X1_at g fu x1 S h5) rfl rfl dX7_hasPlan_5 rfl (Nat.le_of_ble_eq_true rfl) ⟨rfl, rfl, Nat.le_of_ble_eq_true rfl, Nat.le_of_ble_eq_true rfl⟩ ⟨Nat.le_of_ble_eq_true rfl, Nat.le_of_ble_eq_true rfl⟩ rfl ?_
  refine gf_X7_136 (pc' := 11) h0 (b_X1_at h5) dX7_hasPlan_8 rfl ?_
  exact r_zretR h0 hE dX7_hasPlan_11 h
theorem w_X7_checkPhase_12 {g : GC} {X : MX}  (h0 : CX RX7 cX7_checkPhase 2 rm_X7_checkPhase X (wC g)) (fu : Nat) (i0 : Nat) (hi0 : i0 < 5) (x1 : Int32) (S : Mem) (hE : EN none none S X (wC g)) : f_X7_checkPhase_12 fu i0 x1 S = some () → GV X (wC g) 2 0 0 S [] 12 [] := by
  intro  h
  rw [f_X7_checkPhase_12] at h
  exact nomatch h
/-- the machine does what f_X7_checkPhase says -/
theorem c_X7_checkPhase (g : GC) (fu : Nat) (i0 : Nat) (hi0 : i0 < 5) (x1 : Int32) (S : Mem)  (h : f_X7_checkPhase fu i0 x1 S = some ()) : ctN yX7_checkPhase cX7_checkPhase 2 none rm_X7_checkPhase (wC g) [.ref (wA (wC g) 3 i0), .int x1] S none S := by
  refine ct_of (own := RX7) (L := [(0, .ref (wA (wC g) 3 i0)), (1, .int x1)]) (by decide +kernel) rfl (Nat.le_of_ble_eq_true rfl) rfl (fun X h0 hE => ?_)
  rw [f_X7_checkPhase] at h
  refine r_iload_n (pc' := 1) h0 1 dX7_checkPhase_0 rfl rfl rfl ?_
  refine r_if_lt (pt := 12) (pf := 4) h0 dX7_checkPhase_1 rfl rfl h (fun c1 h => ?_) (fun c1 h => ?_)
  · refine r_sub (L' := []) [] rfl ?_
    exact w_X7_checkPhase_12 h0 fu i0 hi0 x1 S hE h
  · refine r_iload_n (pc' := 5) h0 1 dX7_checkPhase_4 rfl rfl rfl ?_
    refine r_aload_n (pc' := 6) h0 0 dX7_checkPhase_5 rfl rfl rfl ?_
    refine gf_X7_91 (pc' := 9) h0 hi0 dX7_checkPhase_6 rfl ?_
    refine r_ic_lt (pt := 22) (pf := 12) h0 dX7_checkPhase_9 rfl rfl h (fun c9 h => ?_) (fun c9 h => ?_)
    · exact r_vretR h0 hE dX7_checkPhase_22 h
    · refine r_sub (L' := []) [] rfl ?_
      exact w_X7_checkPhase_12 h0 fu i0 hi0 x1 S hE h
/-- the machine does what f_X7_clearing says -/
theorem c_X7_clearing (g : GC) (fu : Nat) (x1 : Int32) (x2 : Int32) (S : Mem) {r : Int32}  (h : f_X7_clearing fu x1 x2 S = some r) : ctN yX7_clearing cX7_clearing 4 (some .int) rm_X7_clearing (wC g) [.ref (wA (wC g) 7 0), .int x1, .int x2] S (some (.int r)) S := by
  refine ct_of (own := RX7) (L := [(0, .ref (wA (wC g) 7 0)), (1, .int x1), (2, .int x2)]) (by decide +kernel) rfl (Nat.le_of_ble_eq_true rfl) rfl (fun X h0 hE => ?_)
  rw [f_X7_clearing] at h
  refine r_aload_n (pc' := 1) h0 0 dX7_clearing_0 rfl rfl rfl ?_
  refine gf_X7_10 (pc' := 4) h0 (Nat.le_of_ble_eq_true rfl) dX7_clearing_1 rfl ?_
  refine r_iload_n (pc' := 5) h0 1 dX7_clearing_4 rfl rfl rfl ?_
  obtain ⟨r5, h5, h⟩ := b1_some h
  refine go_V (k_X7_49 g) (st2 := [.ref (wA (wC g) 3 r5)]) (pc' := 8) [.int x1] [] h0 (Nat.le_of_ble_eq_true rfl) (c_X1_at g fu x1 S h5) rfl rfl dX7_clearing_5 rfl (Nat.le_of_ble_eq_true rfl) ⟨rfl, rfl, Nat.le_of_ble_eq_true rfl, Nat.le_of_ble_eq_true rfl⟩ ⟨Nat.le_of_ble_eq_true rfl, Nat.le_of_ble_eq_true rfl⟩ rfl ?_
  refine r_astore_n (pc' := 9) (L' := [(3, .ref (wA (wC g) 3 r5)), (0, .ref (wA (wC g) 7 0)), (1, .int x1), (2, .int x2)]) h0 dX7_clearing_8 rfl (Nat.le_of_ble_eq_true rfl) rfl rfl ?_
  refine r_aload_n (pc' := 10) h0 0 dX7_clearing_9 rfl rfl rfl ?_
  refine r_iload_n (pc' := 11) h0 3 dX7_clearing_10 rfl rfl rfl ?_
  obtain ⟨r11, h11, h⟩ := b1_some h
  refine go_S (k_X7_140 g) (st2 := []) (pc' := 14) [.ref (wA (wC g) 3 r5), .int x2] [] h0 (c_X7_checkPhase g fu r5 (b_X1_at h5) x2 S h11) rfl rfl dX7_clearing_11 rfl (Nat.le_of_ble_eq_true rfl) ⟨rfl, rfl, Nat.le_of_ble_eq_true rfl, Nat.le_of_ble_eq_true rfl⟩ ⟨Nat.le_of_ble_eq_true rfl, Nat.le_of_ble_eq_true rfl⟩ rfl ?_
  refine r_aload_n (pc' := 15) h0 0 dX7_clearing_14 rfl rfl rfl ?_
  refine gf_X7_156 (pc' := 18) h0 (b_X1_at h5) dX7_clearing_15 rfl ?_
  refine r_iload_n (pc' := 19) h0 3 dX7_clearing_18 rfl rfl rfl ?_
  obtain ⟨r19, h19, h⟩ := b1_some h
  refine go_S (k_X7_152 g) (st2 := [.int r19]) (pc' := 22) [.ref (wA (wC g) 15 r5), .int x2] [] h0 (c_X7_read g fu 15 4 r5 (ia_15 g) (b_X1_at h5) x2 S h19) rfl rfl dX7_clearing_19 rfl (Nat.le_of_ble_eq_true rfl) ⟨rfl, rfl, Nat.le_of_ble_eq_true rfl, Nat.le_of_ble_eq_true rfl⟩ ⟨Nat.le_of_ble_eq_true rfl, Nat.le_of_ble_eq_true rfl⟩ rfl ?_
  exact r_iretR h0 hE dX7_clearing_22 h
/-- the machine does what f_X7_offset says -/
theorem c_X7_offset (g : GC) (fu : Nat) (x1 : Int32) (S : Mem) {r : Int32}  (h : f_X7_offset fu x1 S = some r) : ctN yX7_offset cX7_offset 2 (some .int) rm_X7_offset (wC g) [.ref (wA (wC g) 7 0), .int x1] S (some (.int r)) S := by
  refine ct_of (own := RX7) (L := [(0, .ref (wA (wC g) 7 0)), (1, .int x1)]) (by decide +kernel) rfl (Nat.le_of_ble_eq_true rfl) rfl (fun X h0 hE => ?_)
  rw [f_X7_offset] at h
  refine r_aload_n (pc' := 1) h0 0 dX7_offset_0 rfl rfl rfl ?_
  refine gf_X7_10 (pc' := 4) h0 (Nat.le_of_ble_eq_true rfl) dX7_offset_1 rfl ?_
  refine r_iload_n (pc' := 5) h0 1 dX7_offset_4 rfl rfl rfl ?_
  obtain ⟨r5, h5, h⟩ := b1_some h
  refine go_V (k_X7_49 g) (st2 := [.ref (wA (wC g) 3 r5)]) (pc' := 8) [.int x1] [] h0 (Nat.le_of_ble_eq_true rfl) (c_X1_at g fu x1 S h5) rfl rfl dX7_offset_5 rfl (Nat.le_of_ble_eq_true rfl) ⟨rfl, rfl, Nat.le_of_ble_eq_true rfl, Nat.le_of_ble_eq_true rfl⟩ ⟨Nat.le_of_ble_eq_true rfl, Nat.le_of_ble_eq_true rfl⟩ rfl ?_
  refine gf_X7_123 (pc' := 11) h0 (b_X1_at h5) dX7_offset_8 rfl ?_
  exact r_iretR h0 hE dX7_offset_11 h
theorem w_X7_checkMovement_9 {g : GC} {X : MX}  (h0 : CX RX7 cX7_checkMovement 1 rm_X7_checkMovement X (wC g)) (fu : Nat) (x0 : Int32) (S : Mem) (hE : EN none none S X (wC g)) : f_X7_checkMovement_9 fu x0 S = some () → GV X (wC g) 1 0 0 S [] 9 [] := by
  intro  h
  rw [f_X7_checkMovement_9] at h
  exact nomatch h
/-- the machine does what f_X7_checkMovement says -/
theorem c_X7_checkMovement (g : GC) (fu : Nat) (x0 : Int32) (S : Mem)  (h : f_X7_checkMovement fu x0 S = some ()) : ctN yX7_checkMovement cX7_checkMovement 1 none rm_X7_checkMovement (wC g) [.int x0] S none S := by
  refine ct_of (own := RX7) (L := [(0, .int x0)]) (by decide +kernel) rfl (Nat.le_of_ble_eq_true rfl) rfl (fun X h0 hE => ?_)
  rw [f_X7_checkMovement] at h
  refine r_iload_n (pc' := 1) h0 0 dX7_checkMovement_0 rfl rfl rfl ?_
  refine r_if_lt (pt := 9) (pf := 4) h0 dX7_checkMovement_1 rfl rfl h (fun c1 h => ?_) (fun c1 h => ?_)
  · refine r_sub (L' := []) [] rfl ?_
    exact w_X7_checkMovement_9 h0 fu x0 S hE h
  · refine r_iload_n (pc' := 5) h0 0 dX7_checkMovement_4 rfl rfl rfl ?_
    refine r_iconst (pc' := 6) h0 dX7_checkMovement_5 ki_4 rfl ?_
    refine r_ic_lt (pt := 19) (pf := 9) h0 dX7_checkMovement_6 rfl rfl h (fun c6 h => ?_) (fun c6 h => ?_)
    · exact r_vretR h0 hE dX7_checkMovement_19 h
    · refine r_sub (L' := []) [] rfl ?_
      exact w_X7_checkMovement_9 h0 fu x0 S hE h
/-- the machine does what f_X7_checkPlan says -/
theorem c_X7_checkPlan (g : GC) (fu : Nat) (i0 : Nat) (hi0 : i0 < 5) (S : Mem)  (h : f_X7_checkPlan fu i0 S = some ()) : ctN yX7_checkPlan cX7_checkPlan 1 none rm_X7_checkPlan (wC g) [.ref (wA (wC g) 3 i0)] S none S := by
  refine ct_of (own := RX7) (L := [(0, .ref (wA (wC g) 3 i0))]) (by decide +kernel) rfl (Nat.le_of_ble_eq_true rfl) rfl (fun X h0 hE => ?_)
  rw [f_X7_checkPlan] at h
  refine r_aload_n (pc' := 1) h0 0 dX7_checkPlan_0 rfl rfl rfl ?_
  refine gf_X7_136 (pc' := 4) h0 hi0 dX7_checkPlan_1 rfl ?_
  refine r_if_ne (pt := 17) (pf := 7) h0 dX7_checkPlan_4 rfl rfl h (fun c4 h => ?_) (fun c4 h => ?_)
  · exact r_vretR h0 hE dX7_checkPlan_17 h
  · exact nomatch h
/-- the machine does what f_X7_isGreen says -/
theorem c_X7_isGreen (g : GC) (fu : Nat) (x1 : Int32) (x2 : Int32) (x3 : Int32) (S : Mem) {r : Int32}  (h : f_X7_isGreen fu x1 x2 x3 S = some r) : ctN yX7_isGreen cX7_isGreen 5 (some .boolean) rm_X7_isGreen (wC g) [.ref (wA (wC g) 7 0), .int x1, .int x2, .int x3] S (some (.int r)) S := by
  refine ct_of (own := RX7) (L := [(0, .ref (wA (wC g) 7 0)), (1, .int x1), (2, .int x2), (3, .int x3)]) (by decide +kernel) rfl (Nat.le_of_ble_eq_true rfl) rfl (fun X h0 hE => ?_)
  rw [f_X7_isGreen] at h
  refine r_aload_n (pc' := 1) h0 0 dX7_isGreen_0 rfl rfl rfl ?_
  refine gf_X7_10 (pc' := 4) h0 (Nat.le_of_ble_eq_true rfl) dX7_isGreen_1 rfl ?_
  refine r_iload_n (pc' := 5) h0 1 dX7_isGreen_4 rfl rfl rfl ?_
  obtain ⟨r5, h5, h⟩ := b1_some h
  refine go_V (k_X7_49 g) (st2 := [.ref (wA (wC g) 3 r5)]) (pc' := 8) [.int x1] [] h0 (Nat.le_of_ble_eq_true rfl) (c_X1_at g fu x1 S h5) rfl rfl dX7_isGreen_5 rfl (Nat.le_of_ble_eq_true rfl) ⟨rfl, rfl, Nat.le_of_ble_eq_true rfl, Nat.le_of_ble_eq_true rfl⟩ ⟨Nat.le_of_ble_eq_true rfl, Nat.le_of_ble_eq_true rfl⟩ rfl ?_
  refine r_astore (pc' := 10) (L' := [(4, .ref (wA (wC g) 3 r5)), (0, .ref (wA (wC g) 7 0)), (1, .int x1), (2, .int x2), (3, .int x3)]) h0 dX7_isGreen_8 (Nat.le_of_ble_eq_true rfl) rfl rfl ?_
  refine r_iload_n (pc' := 11) h0 3 dX7_isGreen_10 rfl rfl rfl ?_
  obtain ⟨r11, h11, h⟩ := b1_some h
  refine go_S (k_X7_53 g) (st2 := []) (pc' := 14) [.int x2] [] h0 (c_X7_checkMovement g fu x2 S h11) rfl rfl dX7_isGreen_11 rfl (Nat.le_of_ble_eq_true rfl) ⟨rfl, rfl, Nat.le_of_ble_eq_true rfl, Nat.le_of_ble_eq_true rfl⟩ ⟨Nat.le_of_ble_eq_true rfl, Nat.le_of_ble_eq_true rfl⟩ rfl ?_
  refine r_iload_n (pc' := 15) h0 4 dX7_isGreen_14 rfl rfl rfl ?_
  refine r_iconst (pc' := 16) h0 dX7_isGreen_15 ki_0 rfl ?_
  refine r_ldc (pc' := 18) h0 v_811 dX7_isGreen_16 rfl ?_
  obtain ⟨r18, h18, h⟩ := b1_some h
  refine go_S (k_X7_36 g) (st2 := [.int r18]) (pc' := 21) [.int x3, .int 0, .int 100000] [] h0 (c_X7_isOutside g fu x3 0 100000 S h18) rfl rfl dX7_isGreen_18 rfl (Nat.le_of_ble_eq_true rfl) ⟨rfl, rfl, Nat.le_of_ble_eq_true rfl, Nat.le_of_ble_eq_true rfl⟩ ⟨Nat.le_of_ble_eq_true rfl, Nat.le_of_ble_eq_true rfl⟩ rfl ?_
  refine r_if_eq (pt := 34) (pf := 24) h0 dX7_isGreen_21 rfl rfl h (fun c21 h => ?_) (fun c21 h => ?_)
  · refine r_aload (pc' := 36) h0 0 dX7_isGreen_34 rfl rfl ?_
    obtain ⟨r36, h36, h⟩ := b1_some h
    refine go_S (k_X7_144 g) (st2 := []) (pc' := 39) [.ref (wA (wC g) 3 r5)] [] h0 (c_X7_checkPlan g fu r5 (b_X1_at h5) S h36) rfl rfl dX7_isGreen_36 rfl (Nat.le_of_ble_eq_true rfl) ⟨rfl, rfl, Nat.le_of_ble_eq_true rfl, Nat.le_of_ble_eq_true rfl⟩ ⟨Nat.le_of_ble_eq_true rfl, Nat.le_of_ble_eq_true rfl⟩ rfl ?_
    refine r_aload (pc' := 41) h0 0 dX7_isGreen_39 rfl rfl ?_
    refine r_iload_n (pc' := 42) h0 3 dX7_isGreen_41 rfl rfl rfl ?_
    refine r_iload_n (pc' := 43) h0 4 dX7_isGreen_42 rfl rfl rfl ?_
    obtain ⟨r43, h43, h⟩ := b1_some h
    refine go_V (k_X7_162 g) (st2 := [.int r43]) (pc' := 46) [.int x2, .int x3] [] h0 (b_X1_at h5) (c_X3_isLit g fu r5 (b_X1_at h5) x2 x3 S h43) rfl rfl dX7_isGreen_43 rfl (Nat.le_of_ble_eq_true rfl) ⟨rfl, rfl, Nat.le_of_ble_eq_true rfl, Nat.le_of_ble_eq_true rfl⟩ ⟨Nat.le_of_ble_eq_true rfl, Nat.le_of_ble_eq_true rfl⟩ rfl ?_
    exact r_zretR h0 hE dX7_isGreen_46 h
  · exact nomatch h
/-- the machine does what f_X7_breaches says -/
theorem c_X7_breaches (g : GC) (fu : Nat) (x1 : Int32) (S : Mem) {r : Int32}  (h : f_X7_breaches fu x1 S = some r) : ctN yX7_breaches cX7_breaches 3 (some .int) rm_X7_breaches (wC g) [.ref (wA (wC g) 7 0), .int x1] S (some (.int r)) S := by
  refine ct_of (own := RX7) (L := [(0, .ref (wA (wC g) 7 0)), (1, .int x1)]) (by decide +kernel) rfl (Nat.le_of_ble_eq_true rfl) rfl (fun X h0 hE => ?_)
  rw [f_X7_breaches] at h
  refine r_aload_n (pc' := 1) h0 0 dX7_breaches_0 rfl rfl rfl ?_
  refine gf_X7_10 (pc' := 4) h0 (Nat.le_of_ble_eq_true rfl) dX7_breaches_1 rfl ?_
  refine r_iload_n (pc' := 5) h0 1 dX7_breaches_4 rfl rfl rfl ?_
  obtain ⟨r5, h5, h⟩ := b1_some h
  refine go_V (k_X7_49 g) (st2 := [.ref (wA (wC g) 3 r5)]) (pc' := 8) [.int x1] [] h0 (Nat.le_of_ble_eq_true rfl) (c_X1_at g fu x1 S h5) rfl rfl dX7_breaches_5 rfl (Nat.le_of_ble_eq_true rfl) ⟨rfl, rfl, Nat.le_of_ble_eq_true rfl, Nat.le_of_ble_eq_true rfl⟩ ⟨Nat.le_of_ble_eq_true rfl, Nat.le_of_ble_eq_true rfl⟩ rfl ?_
  refine r_astore_n (pc' := 9) (L' := [(2, .ref (wA (wC g) 3 r5)), (0, .ref (wA (wC g) 7 0)), (1, .int x1)]) h0 dX7_breaches_8 rfl (Nat.le_of_ble_eq_true rfl) rfl rfl ?_
  refine r_aload_n (pc' := 10) h0 0 dX7_breaches_9 rfl rfl rfl ?_
  obtain ⟨r10, h10, h⟩ := b1_some h
  refine go_S (k_X7_144 g) (st2 := []) (pc' := 13) [.ref (wA (wC g) 3 r5)] [] h0 (c_X7_checkPlan g fu r5 (b_X1_at h5) S h10) rfl rfl dX7_breaches_10 rfl (Nat.le_of_ble_eq_true rfl) ⟨rfl, rfl, Nat.le_of_ble_eq_true rfl, Nat.le_of_ble_eq_true rfl⟩ ⟨Nat.le_of_ble_eq_true rfl, Nat.le_of_ble_eq_true rfl⟩ rfl ?_
  refine r_aload_n (pc' := 14) h0 0 dX7_breaches_13 rfl rfl rfl ?_
  obtain ⟨r14, h14, h⟩ := b1_some h
  refine go_V (k_X7_165 g) (st2 := [.int r14]) (pc' := 17) [] [] h0 (b_X1_at h5) (c_X3_countBreaches g fu r5 (b_X1_at h5) S h14) rfl rfl dX7_breaches_14 rfl (Nat.le_of_ble_eq_true rfl) ⟨rfl, rfl, Nat.le_of_ble_eq_true rfl, Nat.le_of_ble_eq_true rfl⟩ ⟨Nat.le_of_ble_eq_true rfl, Nat.le_of_ble_eq_true rfl⟩ rfl ?_
  exact r_iretR h0 hE dX7_breaches_17 h
/-- the machine does what f_X7_queue says -/
theorem c_X7_queue (g : GC) (fu : Nat) (x1 : Int32) (S : Mem) {r : Int32}  (h : f_X7_queue fu x1 S = some r) : ctN yX7_queue cX7_queue 2 (some .int) rm_X7_queue (wC g) [.ref (wA (wC g) 7 0), .int x1] S (some (.int r)) S := by
  refine ct_of (own := RX7) (L := [(0, .ref (wA (wC g) 7 0)), (1, .int x1)]) (by decide +kernel) rfl (Nat.le_of_ble_eq_true rfl) rfl (fun X h0 hE => ?_)
  rw [f_X7_queue] at h
  refine r_aload_n (pc' := 1) h0 0 dX7_queue_0 rfl rfl rfl ?_
  refine gf_X7_10 (pc' := 4) h0 (Nat.le_of_ble_eq_true rfl) dX7_queue_1 rfl ?_
  refine r_iload_n (pc' := 5) h0 1 dX7_queue_4 rfl rfl rfl ?_
  obtain ⟨r5, h5, h⟩ := b1_some h
  refine go_V (k_X7_49 g) (st2 := [.ref (wA (wC g) 3 r5)]) (pc' := 8) [.int x1] [] h0 (Nat.le_of_ble_eq_true rfl) (c_X1_at g fu x1 S h5) rfl rfl dX7_queue_5 rfl (Nat.le_of_ble_eq_true rfl) ⟨rfl, rfl, Nat.le_of_ble_eq_true rfl, Nat.le_of_ble_eq_true rfl⟩ ⟨Nat.le_of_ble_eq_true rfl, Nat.le_of_ble_eq_true rfl⟩ rfl ?_
  refine gf_X7_206 (pc' := 11) h0 (b_X1_at h5) dX7_queue_8 rfl ?_
  exact r_iretR h0 hE dX7_queue_11 h
/-- the machine does what f_X7_held says -/
theorem c_X7_held (g : GC) (fu : Nat) (x1 : Int32) (S : Mem) {r : Int32}  (h : f_X7_held fu x1 S = some r) : ctN yX7_held cX7_held 2 (some .int) rm_X7_held (wC g) [.ref (wA (wC g) 7 0), .int x1] S (some (.int r)) S := by
  refine ct_of (own := RX7) (L := [(0, .ref (wA (wC g) 7 0)), (1, .int x1)]) (by decide +kernel) rfl (Nat.le_of_ble_eq_true rfl) rfl (fun X h0 hE => ?_)
  rw [f_X7_held] at h
  refine r_aload_n (pc' := 1) h0 0 dX7_held_0 rfl rfl rfl ?_
  refine gf_X7_10 (pc' := 4) h0 (Nat.le_of_ble_eq_true rfl) dX7_held_1 rfl ?_
  refine r_iload_n (pc' := 5) h0 1 dX7_held_4 rfl rfl rfl ?_
  obtain ⟨r5, h5, h⟩ := b1_some h
  refine go_V (k_X7_209 g) (st2 := [.int r5]) (pc' := 8) [.int x1] [] h0 (Nat.le_of_ble_eq_true rfl) (c_X1_vehiclesOnLinkFrom g fu x1 S h5) rfl rfl dX7_held_5 rfl (Nat.le_of_ble_eq_true rfl) ⟨rfl, rfl, Nat.le_of_ble_eq_true rfl, Nat.le_of_ble_eq_true rfl⟩ ⟨Nat.le_of_ble_eq_true rfl, Nat.le_of_ble_eq_true rfl⟩ rfl ?_
  exact r_iretR h0 hE dX7_held_8 h
