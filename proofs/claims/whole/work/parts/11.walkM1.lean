theorem w_X8_leastOf_23 {g : GR} {X : MX} {r : Int32}  (h0 : CX RX8 cX8_leastOf 3 rm_X8_leastOf X (wR g)) (fu : Nat) (x1 : Int32) (x2 : Int32) (S : Mem) (hE : EN (some .int) (some (.int r)) S X (wR g)) : ∀ (t0 : Int32), f_X8_leastOf_23 fu x1 x2 S t0 = some r → GV X (wR g) 3 0 0 S [] 23 [.int t0] := by
  intro t0 h
  rw [f_X8_leastOf_23] at h
  exact r_iretR h0 hE dX8_leastOf_23 h
/-- the machine does what f_X8_leastOf says -/
theorem c_X8_leastOf (g : GR) (fu : Nat) (x1 : Int32) (x2 : Int32) (S : Mem) {r : Int32}  (h : f_X8_leastOf fu x1 x2 S = some r) : ctN yX8_leastOf cX8_leastOf 3 (some .int) rm_X8_leastOf (wR g) [.ref (wA (wR g) 8 0), .int x1, .int x2] S (some (.int r)) S := by
  refine ct_of (own := RX8) (L := [(0, .ref (wA (wR g) 8 0)), (1, .int x1), (2, .int x2)]) (by decide +kernel) rfl (Nat.le_of_ble_eq_true rfl) rfl (fun X h0 hE => ?_)
  rw [f_X8_leastOf] at h
  refine r_aload_n (pc' := 1) h0 0 dX8_leastOf_0 rfl rfl rfl ?_
  refine gf_X8_13 (pc' := 4) h0 (Nat.le_of_ble_eq_true rfl) dX8_leastOf_1 rfl ?_
  refine r_iconst (pc' := 5) h0 dX8_leastOf_4 ki_4 rfl ?_
  refine r_iload_n (pc' := 6) h0 1 dX8_leastOf_5 rfl rfl rfl ?_
  refine r_imul (pc' := 7) h0 dX8_leastOf_6 rfl ?_
  refine r_iload_n (pc' := 8) h0 2 dX8_leastOf_7 rfl rfl rfl ?_
  refine r_iadd (pc' := 9) h0 dX8_leastOf_8 rfl ?_
  refine r_ialdA (pc' := 10) h0 (ia_21 g) (Nat.le_of_ble_eq_true rfl) dX8_leastOf_9 rfl h (fun h => ?_)
  refine r_iconst (pc' := 11) h0 dX8_leastOf_10 ki_3 rfl ?_
  obtain ⟨r11, h11, h⟩ := b1_some h
  refine go_S (k_X8_106 g) (st2 := [.int r11]) (pc' := 14) [.int (S.1 21 0 (((4 * x1) + x2) : Int32).toNatClampNeg), .int 3] [] h0 (c_X8_has g fu (S.1 21 0 (((4 * x1) + x2) : Int32).toNatClampNeg) 3 S h11) rfl rfl dX8_leastOf_11 rfl (Nat.le_of_ble_eq_true rfl) ⟨rfl, rfl, Nat.le_of_ble_eq_true rfl, Nat.le_of_ble_eq_true rfl⟩ ⟨Nat.le_of_ble_eq_true rfl, Nat.le_of_ble_eq_true rfl⟩ rfl ?_
  refine r_if_eq (pt := 22) (pf := 17) h0 dX8_leastOf_14 rfl rfl h (fun c14 h => ?_) (fun c14 h => ?_)
  · refine r_iconst (pc' := 23) h0 dX8_leastOf_22 ki_5 rfl ?_
    refine r_sub (L' := []) [] rfl ?_
    exact w_X8_leastOf_23 h0 fu x1 x2 S hE 5 h
  · refine r_bipush (pc' := 19) h0 dX8_leastOf_17 kb_8 rfl ?_
    refine r_goto (pc' := 23) h0 dX8_leastOf_19 rfl ?_
    refine r_sub (L' := []) [] rfl ?_
    exact w_X8_leastOf_23 h0 fu x1 x2 S hE 8 h
theorem w_X8_weight_58 {g : GR} {X : MX} {r : Int32}  (h0 : CX RX8 cX8_weight 6 rm_X8_weight X (wR g)) (fu : Nat) (x1 : Int32) (x2 : Int32) (S : Mem) (hE : EN (some .int) (some (.int r)) S X (wR g)) (K5 : Int32 → Int32 → Option Int32) (kK5 : ∀ (x3 : Int32) (x4 : Int32), K5 x3 x4 = some r → GV X (wR g) 6 0 0 S [(0, .ref (wA (wR g) 8 0)), (1, .int x1), (2, .int x2), (3, .int x3), (4, .int x4)] 5 []) : ∀ (x4 : Int32) (t0 : Int32), f_X8_weight_58 fu K5 x1 x2 S x4 t0 = some r → GV X (wR g) 6 0 0 S [(0, .ref (wA (wR g) 8 0)), (1, .int x1), (2, .int x2), (4, .int x4)] 58 [.int t0] := by
  intro x4 t0 h
  rw [f_X8_weight_58] at h
  refine r_istore_n (pc' := 59) (L' := [(3, .int t0), (0, .ref (wA (wR g) 8 0)), (1, .int x1), (2, .int x2), (4, .int x4)]) h0 dX8_weight_58 rfl (Nat.le_of_ble_eq_true rfl) rfl rfl ?_
  refine r_iinc (pc' := 62) (L' := [(4, .int (x4 + 1)), (3, .int t0), (0, .ref (wA (wR g) 8 0)), (1, .int x1), (2, .int x2)]) h0 4 dX8_weight_59 rfl ki_1 (Nat.le_of_ble_eq_true rfl) rfl rfl ?_
  refine r_goto (pc' := 5) h0 dX8_weight_62 rfl ?_
  refine r_sub (L' := [(0, .ref (wA (wR g) 8 0)), (1, .int x1), (2, .int x2), (3, .int t0), (4, .int (x4 + 1))]) [2, 3, 4, 1, 0] rfl ?_
  exact kK5 t0 (x4 + 1) h
theorem w_X8_weight_44 {g : GR} {X : MX} {r : Int32}  (h0 : CX RX8 cX8_weight 6 rm_X8_weight X (wR g)) (fu : Nat) (x1 : Int32) (x2 : Int32) (S : Mem) (hE : EN (some .int) (some (.int r)) S X (wR g)) (K5 : Int32 → Int32 → Option Int32) (kK5 : ∀ (x3 : Int32) (x4 : Int32), K5 x3 x4 = some r → GV X (wR g) 6 0 0 S [(0, .ref (wA (wR g) 8 0)), (1, .int x1), (2, .int x2), (3, .int x3), (4, .int x4)] 5 []) : ∀ (x3 : Int32) (x4 : Int32) (t0 : Int32), f_X8_weight_44 fu K5 x1 x2 S x3 x4 t0 = some r → GV X (wR g) 6 0 0 S [(0, .ref (wA (wR g) 8 0)), (1, .int x1), (2, .int x2), (3, .int x3), (4, .int x4)] 44 [.int t0] := by
  intro x3 x4 t0 h
  rw [f_X8_weight_44] at h
  refine r_istore (pc' := 46) (L' := [(5, .int t0), (0, .ref (wA (wR g) 8 0)), (1, .int x1), (2, .int x2), (3, .int x3), (4, .int x4)]) h0 dX8_weight_44 (Nat.le_of_ble_eq_true rfl) rfl rfl ?_
  refine r_iload (pc' := 48) h0 0 dX8_weight_46 rfl rfl ?_
  refine r_iload_n (pc' := 49) h0 4 dX8_weight_48 rfl rfl rfl ?_
  refine r_ic_le (pt := 57) (pf := 52) h0 dX8_weight_49 rfl rfl h (fun c49 h => ?_) (fun c49 h => ?_)
  · refine r_iload_n (pc' := 58) h0 4 dX8_weight_57 rfl rfl rfl ?_
    refine r_sub (L' := [(0, .ref (wA (wR g) 8 0)), (1, .int x1), (2, .int x2), (4, .int x4)]) [1, 2, 3, 5] rfl ?_
    exact w_X8_weight_58 h0 fu x1 x2 S hE K5 kK5 x4 x3 h
  · refine r_iload (pc' := 54) h0 0 dX8_weight_52 rfl rfl ?_
    refine r_goto (pc' := 58) h0 dX8_weight_54 rfl ?_
    refine r_sub (L' := [(0, .ref (wA (wR g) 8 0)), (1, .int x1), (2, .int x2), (4, .int x4)]) [1, 2, 3, 5] rfl ?_
    exact w_X8_weight_58 h0 fu x1 x2 S hE K5 kK5 x4 t0 h
theorem w_X8_weight_5 {g : GR} {X : MX} {r : Int32}  (h0 : CX RX8 cX8_weight 6 rm_X8_weight X (wR g)) (fu : Nat) (x1 : Int32) (x2 : Int32) (S : Mem) (hE : EN (some .int) (some (.int r)) S X (wR g)) : ∀ (n : Nat) (x3 : Int32) (x4 : Int32), f_X8_weight_5 fu x1 x2 S n x3 x4 = some r → GV X (wR g) 6 0 0 S [(0, .ref (wA (wR g) 8 0)), (1, .int x1), (2, .int x2), (3, .int x3), (4, .int x4)] 5 [] := by
  intro n
  induction n with
  | zero =>
    intro x3 x4 h
    exact nomatch (show none = _ from h)
  | succ n ih =>
    intro x3 x4 h
    rw [f_X8_weight_5] at h
    refine r_iload (pc' := 7) h0 4 dX8_weight_5 rfl rfl ?_
    refine r_iconst (pc' := 8) h0 dX8_weight_7 ki_4 rfl ?_
    refine r_ic_ge (pt := 65) (pf := 11) h0 dX8_weight_8 rfl rfl h (fun c8 h => ?_) (fun c8 h => ?_)
    · refine r_iload_n (pc' := 66) h0 3 dX8_weight_65 rfl rfl rfl ?_
      exact r_iretR h0 hE dX8_weight_66 h
    · refine r_aload_n (pc' := 12) h0 0 dX8_weight_11 rfl rfl rfl ?_
      refine gf_X8_13 (pc' := 15) h0 (Nat.le_of_ble_eq_true rfl) dX8_weight_12 rfl ?_
      refine r_iconst (pc' := 16) h0 dX8_weight_15 ki_4 rfl ?_
      refine r_iload_n (pc' := 17) h0 1 dX8_weight_16 rfl rfl rfl ?_
      refine r_imul (pc' := 18) h0 dX8_weight_17 rfl ?_
      refine r_iload_n (pc' := 19) h0 2 dX8_weight_18 rfl rfl rfl ?_
      refine r_iadd (pc' := 20) h0 dX8_weight_19 rfl ?_
      refine r_ialdA (pc' := 21) h0 (ia_21 g) (Nat.le_of_ble_eq_true rfl) dX8_weight_20 rfl h (fun h => ?_)
      refine r_iload (pc' := 23) h0 4 dX8_weight_21 rfl rfl ?_
      obtain ⟨r23, h23, h⟩ := b1_some h
      refine go_S (k_X8_106 g) (st2 := [.int r23]) (pc' := 26) [.int (S.1 21 0 (((4 * x1) + x2) : Int32).toNatClampNeg), .int x4] [] h0 (c_X8_has g fu (S.1 21 0 (((4 * x1) + x2) : Int32).toNatClampNeg) x4 S h23) rfl rfl dX8_weight_23 rfl (Nat.le_of_ble_eq_true rfl) ⟨rfl, rfl, Nat.le_of_ble_eq_true rfl, Nat.le_of_ble_eq_true rfl⟩ ⟨Nat.le_of_ble_eq_true rfl, Nat.le_of_ble_eq_true rfl⟩ rfl ?_
      refine r_if_eq (pt := 43) (pf := 29) h0 dX8_weight_26 rfl rfl h (fun c26 h => ?_) (fun c26 h => ?_)
      · refine r_iconst (pc' := 44) h0 dX8_weight_43 ki_0 rfl ?_
        exact w_X8_weight_44 h0 fu x1 x2 S hE (f_X8_weight_5 fu x1 x2 S n) ih x3 x4 0 h
      · refine r_aload_n (pc' := 30) h0 0 dX8_weight_29 rfl rfl rfl ?_
        refine gf_X8_19 (pc' := 33) h0 (Nat.le_of_ble_eq_true rfl) dX8_weight_30 rfl ?_
        refine r_iconst (pc' := 34) h0 dX8_weight_33 ki_4 rfl ?_
        refine r_iload_n (pc' := 35) h0 1 dX8_weight_34 rfl rfl rfl ?_
        refine r_imul (pc' := 36) h0 dX8_weight_35 rfl ?_
        refine r_iload (pc' := 38) h0 4 dX8_weight_36 rfl rfl ?_
        refine r_iadd (pc' := 39) h0 dX8_weight_38 rfl ?_
        refine r_ialdA (pc' := 40) h0 (ia_23 g) (Nat.le_of_ble_eq_true rfl) dX8_weight_39 rfl h (fun h => ?_)
        refine r_goto (pc' := 44) h0 dX8_weight_40 rfl ?_
        exact w_X8_weight_44 h0 fu x1 x2 S hE (f_X8_weight_5 fu x1 x2 S n) ih x3 x4 (S.1 23 0 (((4 * x1) + x4) : Int32).toNatClampNeg) h
/-- the machine does what f_X8_weight says -/
theorem c_X8_weight (g : GR) (fu : Nat) (x1 : Int32) (x2 : Int32) (S : Mem) {r : Int32}  (h : f_X8_weight fu x1 x2 S = some r) : ctN yX8_weight cX8_weight 6 (some .int) rm_X8_weight (wR g) [.ref (wA (wR g) 8 0), .int x1, .int x2] S (some (.int r)) S := by
  refine ct_of (own := RX8) (L := [(0, .ref (wA (wR g) 8 0)), (1, .int x1), (2, .int x2)]) (by decide +kernel) rfl (Nat.le_of_ble_eq_true rfl) rfl (fun X h0 hE => ?_)
  rw [f_X8_weight] at h
  refine r_iconst (pc' := 1) h0 dX8_weight_0 ki_0 rfl ?_
  refine r_istore_n (pc' := 2) (L' := [(3, .int 0), (0, .ref (wA (wR g) 8 0)), (1, .int x1), (2, .int x2)]) h0 dX8_weight_1 rfl (Nat.le_of_ble_eq_true rfl) rfl rfl ?_
  refine r_iconst (pc' := 3) h0 dX8_weight_2 ki_0 rfl ?_
  refine r_istore (pc' := 5) (L' := [(4, .int 0), (3, .int 0), (0, .ref (wA (wR g) 8 0)), (1, .int x1), (2, .int x2)]) h0 dX8_weight_3 (Nat.le_of_ble_eq_true rfl) rfl rfl ?_
  refine r_sub (L' := [(0, .ref (wA (wR g) 8 0)), (1, .int x1), (2, .int x2), (3, .int 0), (4, .int 0)]) [2, 3, 4, 1, 0] rfl ?_
  exact w_X8_weight_5 h0 fu x1 x2 S hE fu 0 0 h
theorem w_X8_plans_209 {g : GR} {X : MX} {S' : Mem} (h0 : CX RX8 cX8_plans 7 rm_X8_plans X (wR g)) (fu : Nat) (x1 : Int32) (hE : EN none none S' X (wR g)) (K174 : Int32 → Int32 → Mem → Option (Unit × Mem)) (kK174 : ∀ (x4 : Int32) (x5 : Int32) (S : Mem), K174 x4 x5 S = some ((), S') → GV X (wR g) 7 0 0 S [(0, .ref (wA (wR g) 8 0)), (1, .int x1), (4, .int x4), (5, .int x5)] 174 []) : ∀ (x4 : Int32) (x5 : Int32) (t0 : Int32) (t1 : Int32) (t2 : Int32) (S : Mem), f_X8_plans_209 fu K174 x1 x4 x5 t0 t1 t2 S = some ((), S') → GV X (wR g) 7 0 0 S [(0, .ref (wA (wR g) 8 0)), (1, .int x1), (4, .int x4), (5, .int x5)] 209 [.int t0, .int t1, .int t2, .ref (wA (wR g) 27 0)] := by
  intro x4 x5 t0 t1 t2 S h
  rw [f_X8_plans_209] at h
  refine r_iadd (pc' := 210) h0 dX8_plans_209 rfl ?_
  refine r_iastA (pc' := 211) h0 (ia_27 g) (Nat.le_of_ble_eq_true rfl) dX8_plans_210 rfl h (fun h => ?_)
  refine r_iinc (pc' := 214) (L' := [(5, .int (x5 + 1)), (0, .ref (wA (wR g) 8 0)), (1, .int x1), (4, .int x4)]) h0 3 dX8_plans_211 rfl ki_1 (Nat.le_of_ble_eq_true rfl) rfl rfl ?_
  refine r_goto (pc' := 174) h0 dX8_plans_214 rfl ?_
  refine r_sub (L' := [(0, .ref (wA (wR g) 8 0)), (1, .int x1), (4, .int x4), (5, .int (x5 + 1))]) [1, 2, 3, 0] rfl ?_
  exact kK174 x4 (x5 + 1) (wI S 27 0 (t2 : Int32).toNatClampNeg (t1 + t0)) h
theorem w_X8_plans_174 {g : GR} {X : MX} {S' : Mem} (h0 : CX RX8 cX8_plans 7 rm_X8_plans X (wR g)) (fu : Nat) (x1 : Int32) (hE : EN none none S' X (wR g)) : ∀ (n : Nat) (x4 : Int32) (x5 : Int32) (S : Mem), f_X8_plans_174 fu x1 n x4 x5 S = some ((), S') → GV X (wR g) 7 0 0 S [(0, .ref (wA (wR g) 8 0)), (1, .int x1), (4, .int x4), (5, .int x5)] 174 [] := by
  intro n
  induction n with
  | zero =>
    intro x4 x5 S h
    exact nomatch (show none = _ from h)
  | succ n ih =>
    intro x4 x5 S h
    rw [f_X8_plans_174] at h
    refine r_iload (pc' := 176) h0 3 dX8_plans_174 rfl rfl ?_
    refine r_aload_n (pc' := 177) h0 0 dX8_plans_176 rfl rfl rfl ?_
    refine gf_X8_16 (pc' := 180) h0 (Nat.le_of_ble_eq_true rfl) dX8_plans_177 rfl ?_
    refine r_iload_n (pc' := 181) h0 1 dX8_plans_180 rfl rfl rfl ?_
    refine r_ialdA (pc' := 182) h0 (ia_22 g) (Nat.le_of_ble_eq_true rfl) dX8_plans_181 rfl h (fun h => ?_)
    refine r_ic_ge (pt := 217) (pf := 185) h0 dX8_plans_182 rfl rfl h (fun c182 h => ?_) (fun c182 h => ?_)
    · exact r_vret h0 hE dX8_plans_217 h
    · refine r_aload_n (pc' := 186) h0 0 dX8_plans_185 rfl rfl rfl ?_
      refine gf_X8_31 (pc' := 189) h0 (Nat.le_of_ble_eq_true rfl) dX8_plans_186 rfl ?_
      refine r_iconst (pc' := 190) h0 dX8_plans_189 ki_4 rfl ?_
      refine r_iload_n (pc' := 191) h0 1 dX8_plans_190 rfl rfl rfl ?_
      refine r_imul (pc' := 192) h0 dX8_plans_191 rfl ?_
      refine r_iload (pc' := 194) h0 3 dX8_plans_192 rfl rfl ?_
      refine r_iadd (pc' := 195) h0 dX8_plans_194 rfl ?_
      refine r_dup2 (pc' := 196) h0 dX8_plans_195 rfl rfl rfl ?_
      refine r_ialdA (pc' := 197) h0 (ia_27 g) (Nat.le_of_ble_eq_true rfl) dX8_plans_196 rfl h (fun h => ?_)
      refine r_iload (pc' := 199) h0 3 dX8_plans_197 rfl rfl ?_
      refine r_iload (pc' := 201) h0 2 dX8_plans_199 rfl rfl ?_
      refine r_ic_ge (pt := 208) (pf := 204) h0 dX8_plans_201 rfl rfl h (fun c201 h => ?_) (fun c201 h => ?_)
      · refine r_iconst (pc' := 209) h0 dX8_plans_208 ki_0 rfl ?_
        exact w_X8_plans_209 h0 fu x1 hE (f_X8_plans_174 fu x1 n) ih x4 x5 0 (S.1 27 0 (((4 * x1) + x5) : Int32).toNatClampNeg) ((4 * x1) + x5) S h
      · refine r_iconst (pc' := 205) h0 dX8_plans_204 ki_1 rfl ?_
        refine r_goto (pc' := 209) h0 dX8_plans_205 rfl ?_
        exact w_X8_plans_209 h0 fu x1 hE (f_X8_plans_174 fu x1 n) ih x4 x5 1 (S.1 27 0 (((4 * x1) + x5) : Int32).toNatClampNeg) ((4 * x1) + x5) S h
theorem w_X8_plans_135 {g : GR} {X : MX} {S' : Mem} (h0 : CX RX8 cX8_plans 7 rm_X8_plans X (wR g)) (fu : Nat) (x1 : Int32) (hE : EN none none S' X (wR g)) (K98 : Int32 → Int32 → Int32 → Int32 → Mem → Option (Unit × Mem)) (kK98 : ∀ (x2 : Int32) (x3 : Int32) (x4 : Int32) (x5 : Int32) (S : Mem), K98 x2 x3 x4 x5 S = some ((), S') → GV X (wR g) 7 0 0 S [(0, .ref (wA (wR g) 8 0)), (1, .int x1), (2, .int x2), (3, .int x3), (4, .int x4), (5, .int x5)] 98 []) : ∀ (x2 : Int32) (x3 : Int32) (x4 : Int32) (x5 : Int32) (t0 : Int32) (S : Mem), f_X8_plans_135 fu K98 x1 x2 x3 x4 x5 t0 S = some ((), S') → GV X (wR g) 7 0 0 S [(0, .ref (wA (wR g) 8 0)), (1, .int x1), (2, .int x2), (3, .int x3), (4, .int x4), (5, .int x5)] 135 [.int t0] := by
  intro x2 x3 x4 x5 t0 S h
  rw [f_X8_plans_135] at h
  refine r_istore (pc' := 137) (L' := [(6, .int t0), (0, .ref (wA (wR g) 8 0)), (1, .int x1), (2, .int x2), (3, .int x3), (4, .int x4), (5, .int x5)]) h0 dX8_plans_135 (Nat.le_of_ble_eq_true rfl) rfl rfl ?_
  refine r_aload_n (pc' := 138) h0 1 dX8_plans_137 rfl rfl rfl ?_
  refine gf_X8_31 (pc' := 141) h0 (Nat.le_of_ble_eq_true rfl) dX8_plans_138 rfl ?_
  refine r_iconst (pc' := 142) h0 dX8_plans_141 ki_4 rfl ?_
  refine r_iload_n (pc' := 143) h0 2 dX8_plans_142 rfl rfl rfl ?_
  refine r_imul (pc' := 144) h0 dX8_plans_143 rfl ?_
  refine r_iload (pc' := 146) h0 6 dX8_plans_144 rfl rfl ?_
  refine r_iadd (pc' := 147) h0 dX8_plans_146 rfl ?_
  refine r_aload_n (pc' := 148) h0 1 dX8_plans_147 rfl rfl rfl ?_
  refine r_iload_n (pc' := 149) h0 2 dX8_plans_148 rfl rfl rfl ?_
  refine r_iload (pc' := 151) h0 6 dX8_plans_149 rfl rfl ?_
  obtain ⟨r151, h151, h⟩ := b1_some h
  refine go_V (k_X8_138 g) (st2 := [.int r151, .int ((4 * x1) + x5), .ref (wA (wR g) 27 0)]) (pc' := 154) [.int x1, .int x5] [.int ((4 * x1) + x5), .ref (wA (wR g) 27 0)] h0 (Nat.le_of_ble_eq_true rfl) (c_X8_leastOf g fu x1 x5 S h151) rfl rfl dX8_plans_151 rfl (Nat.le_of_ble_eq_true rfl) ⟨rfl, rfl, Nat.le_of_ble_eq_true rfl, Nat.le_of_ble_eq_true rfl⟩ ⟨Nat.le_of_ble_eq_true rfl, Nat.le_of_ble_eq_true rfl⟩ rfl ?_
  refine r_iload (pc' := 156) h0 0 dX8_plans_154 rfl rfl ?_
  refine r_iadd (pc' := 157) h0 dX8_plans_156 rfl ?_
  refine r_iastA (pc' := 158) h0 (ia_27 g) (Nat.le_of_ble_eq_true rfl) dX8_plans_157 rfl h (fun h => ?_)
  refine r_iload (pc' := 160) h0 5 dX8_plans_158 rfl rfl ?_
  refine r_iload (pc' := 162) h0 0 dX8_plans_160 rfl rfl ?_
  refine r_isub (pc' := 163) h0 dX8_plans_162 rfl ?_
  refine r_istore (pc' := 165) (L' := [(4, .int (x4 - t0)), (6, .int t0), (0, .ref (wA (wR g) 8 0)), (1, .int x1), (2, .int x2), (3, .int x3), (5, .int x5)]) h0 dX8_plans_163 (Nat.le_of_ble_eq_true rfl) rfl rfl ?_
  refine r_iinc (pc' := 168) (L' := [(5, .int (x5 + 1)), (4, .int (x4 - t0)), (6, .int t0), (0, .ref (wA (wR g) 8 0)), (1, .int x1), (2, .int x2), (3, .int x3)]) h0 6 dX8_plans_165 rfl ki_1 (Nat.le_of_ble_eq_true rfl) rfl rfl ?_
  refine r_goto (pc' := 98) h0 dX8_plans_168 rfl ?_
  refine r_sub (L' := [(0, .ref (wA (wR g) 8 0)), (1, .int x1), (2, .int x2), (3, .int x3), (4, .int (x4 - t0)), (5, .int (x5 + 1))]) [3, 4, 5, 6, 1, 0] rfl ?_
  exact kK98 x2 x3 (x4 - t0) (x5 + 1) (wI S 27 0 (((4 * x1) + x5) : Int32).toNatClampNeg (r151 + t0)) h
theorem w_X8_plans_98 {g : GR} {X : MX} {S' : Mem} (h0 : CX RX8 cX8_plans 7 rm_X8_plans X (wR g)) (fu : Nat) (x1 : Int32) (hE : EN none none S' X (wR g)) : ∀ (n : Nat) (x2 : Int32) (x3 : Int32) (x4 : Int32) (x5 : Int32) (S : Mem), f_X8_plans_98 fu x1 n x2 x3 x4 x5 S = some ((), S') → GV X (wR g) 7 0 0 S [(0, .ref (wA (wR g) 8 0)), (1, .int x1), (2, .int x2), (3, .int x3), (4, .int x4), (5, .int x5)] 98 [] := by
  intro n
  induction n with
  | zero =>
    intro x2 x3 x4 x5 S h
    exact nomatch (show none = _ from h)
  | succ n ih =>
    intro x2 x3 x4 x5 S h
    rw [f_X8_plans_98] at h
    refine r_iload (pc' := 100) h0 5 dX8_plans_98 rfl rfl ?_
    refine r_aload_n (pc' := 101) h0 0 dX8_plans_100 rfl rfl rfl ?_
    refine gf_X8_16 (pc' := 104) h0 (Nat.le_of_ble_eq_true rfl) dX8_plans_101 rfl ?_
    refine r_iload_n (pc' := 105) h0 1 dX8_plans_104 rfl rfl rfl ?_
    refine r_ialdA (pc' := 106) h0 (ia_22 g) (Nat.le_of_ble_eq_true rfl) dX8_plans_105 rfl h (fun h => ?_)
    refine r_ic_ge (pt := 171) (pf := 109) h0 dX8_plans_106 rfl rfl h (fun c106 h => ?_) (fun c106 h => ?_)
    · refine r_iconst (pc' := 172) h0 dX8_plans_171 ki_0 rfl ?_
      refine r_istore (pc' := 174) (L' := [(5, .int 0), (0, .ref (wA (wR g) 8 0)), (1, .int x1), (2, .int x2), (3, .int x3), (4, .int x4)]) h0 dX8_plans_172 (Nat.le_of_ble_eq_true rfl) rfl rfl ?_
      refine r_sub (L' := [(0, .ref (wA (wR g) 8 0)), (1, .int x1), (4, .int x4), (5, .int 0)]) [1, 2, 5, 0] rfl ?_
      exact w_X8_plans_174 h0 fu x1 hE fu x4 0 S h
    · refine r_iload_n (pc' := 110) h0 3 dX8_plans_109 rfl rfl rfl ?_
      refine r_if_ne (pt := 124) (pf := 113) h0 dX8_plans_110 rfl rfl h (fun c110 h => ?_) (fun c110 h => ?_)
      · refine r_iload_n (pc' := 125) h0 2 dX8_plans_124 rfl rfl rfl ?_
        refine r_aload_n (pc' := 126) h0 0 dX8_plans_125 rfl rfl rfl ?_
        refine r_iload_n (pc' := 127) h0 1 dX8_plans_126 rfl rfl rfl ?_
        refine r_iload (pc' := 129) h0 5 dX8_plans_127 rfl rfl ?_
        obtain ⟨r129, h129, h⟩ := b1_some h
        refine go_V (k_X8_141 g) (st2 := [.int r129, .int x2]) (pc' := 132) [.int x1, .int x5] [.int x2] h0 (Nat.le_of_ble_eq_true rfl) (c_X8_weight g fu x1 x5 S h129) rfl rfl dX8_plans_129 rfl (Nat.le_of_ble_eq_true rfl) ⟨rfl, rfl, Nat.le_of_ble_eq_true rfl, Nat.le_of_ble_eq_true rfl⟩ ⟨Nat.le_of_ble_eq_true rfl, Nat.le_of_ble_eq_true rfl⟩ rfl ?_
        refine r_imul (pc' := 133) h0 dX8_plans_132 rfl ?_
        refine r_iload_n (pc' := 134) h0 3 dX8_plans_133 rfl rfl rfl ?_
        refine r_idiv (pc' := 135) h0 dX8_plans_134 rfl h (fun h => ?_)
        exact w_X8_plans_135 h0 fu x1 hE (f_X8_plans_98 fu x1 n) ih x2 x3 x4 x5 ((x2 * r129) / x3) S h
      · refine r_iload_n (pc' := 114) h0 2 dX8_plans_113 rfl rfl rfl ?_
        refine r_aload_n (pc' := 115) h0 0 dX8_plans_114 rfl rfl rfl ?_
        refine gf_X8_16 (pc' := 118) h0 (Nat.le_of_ble_eq_true rfl) dX8_plans_115 rfl ?_
        refine r_iload_n (pc' := 119) h0 1 dX8_plans_118 rfl rfl rfl ?_
        refine r_ialdA (pc' := 120) h0 (ia_22 g) (Nat.le_of_ble_eq_true rfl) dX8_plans_119 rfl h (fun h => ?_)
        refine r_idiv (pc' := 121) h0 dX8_plans_120 rfl h (fun h => ?_)
        refine r_goto (pc' := 135) h0 dX8_plans_121 rfl ?_
        exact w_X8_plans_135 h0 fu x1 hE (f_X8_plans_98 fu x1 n) ih x2 x3 x4 x5 (x2 / (S.1 22 0 (x1 : Int32).toNatClampNeg)) S h
theorem w_X8_plans_91 {g : GR} {X : MX} {S' : Mem} (h0 : CX RX8 cX8_plans 7 rm_X8_plans X (wR g)) (fu : Nat) (x1 : Int32) (hE : EN none none S' X (wR g)) : ∀ (x2 : Int32) (x3 : Int32) (t0 : Int32) (t1 : Int32) (S : Mem), f_X8_plans_91 fu x1 x2 x3 t0 t1 S = some ((), S') → GV X (wR g) 7 0 0 S [(0, .ref (wA (wR g) 8 0)), (1, .int x1), (2, .int x2), (3, .int x3)] 91 [.int t0, .int t1, .ref (wA (wR g) 29 0)] := by
  intro x2 x3 t0 t1 S h
  rw [f_X8_plans_91] at h
  refine r_zastA (pc' := 92) h0 (iz_29 g) (Nat.le_of_ble_eq_true rfl) dX8_plans_91 rfl h (fun h => ?_)
  refine r_iload_n (pc' := 93) h0 2 dX8_plans_92 rfl rfl rfl ?_
  refine r_istore (pc' := 95) (L' := [(4, .int x2), (0, .ref (wA (wR g) 8 0)), (1, .int x1), (2, .int x2), (3, .int x3)]) h0 dX8_plans_93 (Nat.le_of_ble_eq_true rfl) rfl rfl ?_
  refine r_iconst (pc' := 96) h0 dX8_plans_95 ki_0 rfl ?_
  refine r_istore (pc' := 98) (L' := [(5, .int 0), (4, .int x2), (0, .ref (wA (wR g) 8 0)), (1, .int x1), (2, .int x2), (3, .int x3)]) h0 dX8_plans_96 (Nat.le_of_ble_eq_true rfl) rfl rfl ?_
  refine r_sub (L' := [(0, .ref (wA (wR g) 8 0)), (1, .int x1), (2, .int x2), (3, .int x3), (4, .int x2), (5, .int 0)]) [2, 3, 4, 5, 1, 0] rfl ?_
  exact w_X8_plans_98 h0 fu x1 hE fu x2 x3 x2 0 (wI S 29 0 (t1 : Int32).toNatClampNeg (nb t0)) h
theorem w_X8_plans_10 {g : GR} {X : MX} {S' : Mem} (h0 : CX RX8 cX8_plans 7 rm_X8_plans X (wR g)) (fu : Nat) (x1 : Int32) (hE : EN none none S' X (wR g)) : ∀ (n : Nat) (x2 : Int32) (x3 : Int32) (x4 : Int32) (S : Mem), f_X8_plans_10 fu x1 n x2 x3 x4 S = some ((), S') → GV X (wR g) 7 0 0 S [(0, .ref (wA (wR g) 8 0)), (1, .int x1), (2, .int x2), (3, .int x3), (4, .int x4)] 10 [] := by
  intro n
  induction n with
  | zero =>
    intro x2 x3 x4 S h
    exact nomatch (show none = _ from h)
  | succ n ih =>
    intro x2 x3 x4 S h
    rw [f_X8_plans_10] at h
    refine r_iload (pc' := 12) h0 4 dX8_plans_10 rfl rfl ?_
    refine r_aload_n (pc' := 13) h0 0 dX8_plans_12 rfl rfl rfl ?_
    refine gf_X8_16 (pc' := 16) h0 (Nat.le_of_ble_eq_true rfl) dX8_plans_13 rfl ?_
    refine r_iload_n (pc' := 17) h0 1 dX8_plans_16 rfl rfl rfl ?_
    refine r_ialdA (pc' := 18) h0 (ia_22 g) (Nat.le_of_ble_eq_true rfl) dX8_plans_17 rfl h (fun h => ?_)
    refine r_ic_ge (pt := 77) (pf := 21) h0 dX8_plans_18 rfl rfl h (fun c18 h => ?_) (fun c18 h => ?_)
    · refine r_aload_n (pc' := 78) h0 0 dX8_plans_77 rfl rfl rfl ?_
      refine gf_X8_37 (pc' := 81) h0 (Nat.le_of_ble_eq_true rfl) dX8_plans_78 rfl ?_
      refine r_iload_n (pc' := 82) h0 1 dX8_plans_81 rfl rfl rfl ?_
      refine r_iload_n (pc' := 83) h0 2 dX8_plans_82 rfl rfl rfl ?_
      refine r_if_lt (pt := 90) (pf := 86) h0 dX8_plans_83 rfl rfl h (fun c83 h => ?_) (fun c83 h => ?_)
      · refine r_iconst (pc' := 91) h0 dX8_plans_90 ki_0 rfl ?_
        refine r_sub (L' := [(0, .ref (wA (wR g) 8 0)), (1, .int x1), (2, .int x2), (3, .int x3)]) [0, 1, 2, 3] rfl ?_
        exact w_X8_plans_91 h0 fu x1 hE x2 x3 0 x1 S h
      · refine r_iconst (pc' := 87) h0 dX8_plans_86 ki_1 rfl ?_
        refine r_goto (pc' := 91) h0 dX8_plans_87 rfl ?_
        refine r_sub (L' := [(0, .ref (wA (wR g) 8 0)), (1, .int x1), (2, .int x2), (3, .int x3)]) [0, 1, 2, 3] rfl ?_
        exact w_X8_plans_91 h0 fu x1 hE x2 x3 1 x1 S h
    · refine r_aload_n (pc' := 22) h0 0 dX8_plans_21 rfl rfl rfl ?_
      refine gf_X8_34 (pc' := 25) h0 (Nat.le_of_ble_eq_true rfl) dX8_plans_22 rfl ?_
      refine r_iconst (pc' := 26) h0 dX8_plans_25 ki_4 rfl ?_
      refine r_iload_n (pc' := 27) h0 1 dX8_plans_26 rfl rfl rfl ?_
      refine r_imul (pc' := 28) h0 dX8_plans_27 rfl ?_
      refine r_iload (pc' := 30) h0 4 dX8_plans_28 rfl rfl ?_
      refine r_iadd (pc' := 31) h0 dX8_plans_30 rfl ?_
      refine r_aload_n (pc' := 32) h0 0 dX8_plans_31 rfl rfl rfl ?_
      refine r_iload_n (pc' := 33) h0 1 dX8_plans_32 rfl rfl rfl ?_
      refine r_iload (pc' := 35) h0 4 dX8_plans_33 rfl rfl ?_
      obtain ⟨r35, h35, h⟩ := b1_some h
      refine go_V (k_X8_134 g) (st2 := [.int r35, .int ((4 * x1) + x4), .ref (wA (wR g) 28 0)]) (pc' := 38) [.int x1, .int x4] [.int ((4 * x1) + x4), .ref (wA (wR g) 28 0)] h0 (Nat.le_of_ble_eq_true rfl) (c_X8_clearingOf g fu x1 x4 S h35) rfl rfl dX8_plans_35 rfl (Nat.le_of_ble_eq_true rfl) ⟨rfl, rfl, Nat.le_of_ble_eq_true rfl, Nat.le_of_ble_eq_true rfl⟩ ⟨Nat.le_of_ble_eq_true rfl, Nat.le_of_ble_eq_true rfl⟩ rfl ?_
      refine r_iastA (pc' := 39) h0 (ia_28 g) (Nat.le_of_ble_eq_true rfl) dX8_plans_38 rfl h (fun h => ?_)
      refine r_iload_n (pc' := 40) h0 2 dX8_plans_39 rfl rfl rfl ?_
      refine r_aload_n (pc' := 41) h0 0 dX8_plans_40 rfl rfl rfl ?_
      refine gf_X8_34 (pc' := 44) h0 (Nat.le_of_ble_eq_true rfl) dX8_plans_41 rfl ?_
      refine r_iconst (pc' := 45) h0 dX8_plans_44 ki_4 rfl ?_
      refine r_iload_n (pc' := 46) h0 1 dX8_plans_45 rfl rfl rfl ?_
      refine r_imul (pc' := 47) h0 dX8_plans_46 rfl ?_
      refine r_iload (pc' := 49) h0 4 dX8_plans_47 rfl rfl ?_
      refine r_iadd (pc' := 50) h0 dX8_plans_49 rfl ?_
      refine r_ialdA (pc' := 51) h0 (ia_28 g) (Nat.le_of_ble_eq_true rfl) dX8_plans_50 rfl h (fun h => ?_)
      refine r_aload_n (pc' := 52) h0 0 dX8_plans_51 rfl rfl rfl ?_
      refine r_iload_n (pc' := 53) h0 1 dX8_plans_52 rfl rfl rfl ?_
      refine r_iload (pc' := 55) h0 4 dX8_plans_53 rfl rfl ?_
      obtain ⟨r55, h55, h⟩ := b1_some h
      refine go_V (k_X8_138 g) (st2 := [.int r55, .int ((wI S 28 0 (((4 * x1) + x4) : Int32).toNatClampNeg r35).1 28 0 (((4 * x1) + x4) : Int32).toNatClampNeg), .int x2]) (pc' := 58) [.int x1, .int x4] [.int ((wI S 28 0 (((4 * x1) + x4) : Int32).toNatClampNeg r35).1 28 0 (((4 * x1) + x4) : Int32).toNatClampNeg), .int x2] h0 (Nat.le_of_ble_eq_true rfl) (c_X8_leastOf g fu x1 x4 (wI S 28 0 (((4 * x1) + x4) : Int32).toNatClampNeg r35) h55) rfl rfl dX8_plans_55 rfl (Nat.le_of_ble_eq_true rfl) ⟨rfl, rfl, Nat.le_of_ble_eq_true rfl, Nat.le_of_ble_eq_true rfl⟩ ⟨Nat.le_of_ble_eq_true rfl, Nat.le_of_ble_eq_true rfl⟩ rfl ?_
      refine r_iadd (pc' := 59) h0 dX8_plans_58 rfl ?_
      refine r_isub (pc' := 60) h0 dX8_plans_59 rfl ?_
      refine r_istore_n (pc' := 61) (L' := [(2, .int (x2 - (((wI S 28 0 (((4 * x1) + x4) : Int32).toNatClampNeg r35).1 28 0 (((4 * x1) + x4) : Int32).toNatClampNeg) + r55))), (0, .ref (wA (wR g) 8 0)), (1, .int x1), (3, .int x3), (4, .int x4)]) h0 dX8_plans_60 rfl (Nat.le_of_ble_eq_true rfl) rfl rfl ?_
      refine r_iload_n (pc' := 62) h0 3 dX8_plans_61 rfl rfl rfl ?_
      refine r_aload_n (pc' := 63) h0 1 dX8_plans_62 rfl rfl rfl ?_
      refine r_iload_n (pc' := 64) h0 2 dX8_plans_63 rfl rfl rfl ?_
      refine r_iload (pc' := 66) h0 4 dX8_plans_64 rfl rfl ?_
      obtain ⟨r66, h66, h⟩ := b1_some h
      refine go_V (k_X8_141 g) (st2 := [.int r66, .int x3]) (pc' := 69) [.int x1, .int x4] [.int x3] h0 (Nat.le_of_ble_eq_true rfl) (c_X8_weight g fu x1 x4 (wI S 28 0 (((4 * x1) + x4) : Int32).toNatClampNeg r35) h66) rfl rfl dX8_plans_66 rfl (Nat.le_of_ble_eq_true rfl) ⟨rfl, rfl, Nat.le_of_ble_eq_true rfl, Nat.le_of_ble_eq_true rfl⟩ ⟨Nat.le_of_ble_eq_true rfl, Nat.le_of_ble_eq_true rfl⟩ rfl ?_
      refine r_iadd (pc' := 70) h0 dX8_plans_69 rfl ?_
      refine r_istore_n (pc' := 71) (L' := [(3, .int (x3 + r66)), (2, .int (x2 - (((wI S 28 0 (((4 * x1) + x4) : Int32).toNatClampNeg r35).1 28 0 (((4 * x1) + x4) : Int32).toNatClampNeg) + r55))), (0, .ref (wA (wR g) 8 0)), (1, .int x1), (4, .int x4)]) h0 dX8_plans_70 rfl (Nat.le_of_ble_eq_true rfl) rfl rfl ?_
      refine r_iinc (pc' := 74) (L' := [(4, .int (x4 + 1)), (3, .int (x3 + r66)), (2, .int (x2 - (((wI S 28 0 (((4 * x1) + x4) : Int32).toNatClampNeg r35).1 28 0 (((4 * x1) + x4) : Int32).toNatClampNeg) + r55))), (0, .ref (wA (wR g) 8 0)), (1, .int x1)]) h0 4 dX8_plans_71 rfl ki_1 (Nat.le_of_ble_eq_true rfl) rfl rfl ?_
      refine r_goto (pc' := 10) h0 dX8_plans_74 rfl ?_
      refine r_sub (L' := [(0, .ref (wA (wR g) 8 0)), (1, .int x1), (2, .int (x2 - (((wI S 28 0 (((4 * x1) + x4) : Int32).toNatClampNeg r35).1 28 0 (((4 * x1) + x4) : Int32).toNatClampNeg) + r55))), (3, .int (x3 + r66)), (4, .int (x4 + 1))]) [3, 4, 2, 1, 0] rfl ?_
      exact ih (x2 - (((wI S 28 0 (((4 * x1) + x4) : Int32).toNatClampNeg r35).1 28 0 (((4 * x1) + x4) : Int32).toNatClampNeg) + r55)) (x3 + r66) (x4 + 1) (wI S 28 0 (((4 * x1) + x4) : Int32).toNatClampNeg r35) h
/-- the machine does what f_X8_plans says -/
theorem c_X8_plans (g : GR) (fu : Nat) (x1 : Int32) (S : Mem) {S' : Mem} (h : f_X8_plans fu x1 S = some ((), S')) : ctN yX8_plans cX8_plans 7 none rm_X8_plans (wR g) [.ref (wA (wR g) 8 0), .int x1] S none S' := by
  refine ct_of (own := RX8) (L := [(0, .ref (wA (wR g) 8 0)), (1, .int x1)]) (by decide +kernel) rfl (Nat.le_of_ble_eq_true rfl) rfl (fun X h0 hE => ?_)
  rw [f_X8_plans] at h
  refine r_aload_n (pc' := 1) h0 0 dX8_plans_0 rfl rfl rfl ?_
  refine gf_X8_83 (pc' := 4) h0 (Nat.le_of_ble_eq_true rfl) dX8_plans_1 rfl ?_
  refine r_istore_n (pc' := 5) (L' := [(2, .int (S.1 8 0 2)), (0, .ref (wA (wR g) 8 0)), (1, .int x1)]) h0 dX8_plans_4 rfl (Nat.le_of_ble_eq_true rfl) rfl rfl ?_
  refine r_iconst (pc' := 6) h0 dX8_plans_5 ki_0 rfl ?_
  refine r_istore_n (pc' := 7) (L' := [(3, .int 0), (2, .int (S.1 8 0 2)), (0, .ref (wA (wR g) 8 0)), (1, .int x1)]) h0 dX8_plans_6 rfl (Nat.le_of_ble_eq_true rfl) rfl rfl ?_
  refine r_iconst (pc' := 8) h0 dX8_plans_7 ki_0 rfl ?_
  refine r_istore (pc' := 10) (L' := [(4, .int 0), (3, .int 0), (2, .int (S.1 8 0 2)), (0, .ref (wA (wR g) 8 0)), (1, .int x1)]) h0 dX8_plans_8 (Nat.le_of_ble_eq_true rfl) rfl rfl ?_
  refine r_sub (L' := [(0, .ref (wA (wR g) 8 0)), (1, .int x1), (2, .int (S.1 8 0 2)), (3, .int 0), (4, .int 0)]) [3, 4, 2, 1, 0] rfl ?_
  exact w_X8_plans_10 h0 fu x1 hE fu (S.1 8 0 2) 0 0 S h
theorem w_X8_plansAll_35 {g : GR} {X : MX} {r : Int32} {S' : Mem} (h0 : CX RX8 cX8_plansAll 3 rm_X8_plansAll X (wR g)) (fu : Nat) (hE : EN (some .boolean) (some (.int r)) S' X (wR g)) (K4 : Int32 → Int32 → Mem → Option (Int32 × Mem)) (kK4 : ∀ (x1 : Int32) (x2 : Int32) (S : Mem), K4 x1 x2 S = some (r, S') → GV X (wR g) 3 0 0 S [(0, .ref (wA (wR g) 8 0)), (1, .int x1), (2, .int x2)] 4 []) : ∀ (x2 : Int32) (t0 : Int32) (S : Mem), f_X8_plansAll_35 fu K4 x2 t0 S = some (r, S') → GV X (wR g) 3 0 0 S [(0, .ref (wA (wR g) 8 0)), (2, .int x2)] 35 [.int t0] := by
  intro x2 t0 S h
  rw [f_X8_plansAll_35] at h
  refine r_istore_n (pc' := 36) (L' := [(1, .int t0), (0, .ref (wA (wR g) 8 0)), (2, .int x2)]) h0 dX8_plansAll_35 rfl (Nat.le_of_ble_eq_true rfl) rfl rfl ?_
  refine r_iinc (pc' := 39) (L' := [(2, .int (x2 + 1)), (1, .int t0), (0, .ref (wA (wR g) 8 0))]) h0 2 dX8_plansAll_36 rfl ki_1 (Nat.le_of_ble_eq_true rfl) rfl rfl ?_
  refine r_goto (pc' := 4) h0 dX8_plansAll_39 rfl ?_
  refine r_sub (L' := [(0, .ref (wA (wR g) 8 0)), (1, .int t0), (2, .int (x2 + 1))]) [2, 1, 0] rfl ?_
  exact kK4 t0 (x2 + 1) S h
theorem w_X8_plansAll_34 {g : GR} {X : MX} {r : Int32} {S' : Mem} (h0 : CX RX8 cX8_plansAll 3 rm_X8_plansAll X (wR g)) (fu : Nat) (hE : EN (some .boolean) (some (.int r)) S' X (wR g)) (K4 : Int32 → Int32 → Mem → Option (Int32 × Mem)) (kK4 : ∀ (x1 : Int32) (x2 : Int32) (S : Mem), K4 x1 x2 S = some (r, S') → GV X (wR g) 3 0 0 S [(0, .ref (wA (wR g) 8 0)), (1, .int x1), (2, .int x2)] 4 []) : ∀ (x2 : Int32) (S : Mem), f_X8_plansAll_34 fu K4 x2 S = some (r, S') → GV X (wR g) 3 0 0 S [(0, .ref (wA (wR g) 8 0)), (2, .int x2)] 34 [] := by
  intro x2 S h
  rw [f_X8_plansAll_34] at h
  refine r_iconst (pc' := 35) h0 dX8_plansAll_34 ki_0 rfl ?_
  exact w_X8_plansAll_35 h0 fu hE K4 kK4 x2 0 S h
theorem w_X8_plansAll_4 {g : GR} {X : MX} {r : Int32} {S' : Mem} (h0 : CX RX8 cX8_plansAll 3 rm_X8_plansAll X (wR g)) (fu : Nat) (hE : EN (some .boolean) (some (.int r)) S' X (wR g)) : ∀ (n : Nat) (x1 : Int32) (x2 : Int32) (S : Mem), f_X8_plansAll_4 fu n x1 x2 S = some (r, S') → GV X (wR g) 3 0 0 S [(0, .ref (wA (wR g) 8 0)), (1, .int x1), (2, .int x2)] 4 [] := by
  intro n
  induction n with
  | zero =>
    intro x1 x2 S h
    exact nomatch (show none = _ from h)
  | succ n ih =>
    intro x1 x2 S h
    rw [f_X8_plansAll_4] at h
    refine r_iload_n (pc' := 5) h0 2 dX8_plansAll_4 rfl rfl rfl ?_
    refine r_aload_n (pc' := 6) h0 0 dX8_plansAll_5 rfl rfl rfl ?_
    refine gf_X8_76 (pc' := 9) h0 (Nat.le_of_ble_eq_true rfl) dX8_plansAll_6 rfl ?_
    refine r_ic_ge (pt := 42) (pf := 12) h0 dX8_plansAll_9 rfl rfl h (fun c9 h => ?_) (fun c9 h => ?_)
    · refine r_iload_n (pc' := 43) h0 1 dX8_plansAll_42 rfl rfl rfl ?_
      exact r_zret h0 hE dX8_plansAll_43 h
    · refine r_aload_n (pc' := 13) h0 0 dX8_plansAll_12 rfl rfl rfl ?_
      refine r_iload_n (pc' := 14) h0 2 dX8_plansAll_13 rfl rfl rfl ?_
      obtain ⟨r14, S14, h14, h⟩ := b2_some h
      refine go_V (k_X8_144 g) (st2 := []) (pc' := 17) [.int x2] [] h0 (Nat.le_of_ble_eq_true rfl) (c_X8_plans g fu x2 S h14) rfl rfl dX8_plansAll_14 rfl (Nat.le_of_ble_eq_true rfl) ⟨rfl, rfl, Nat.le_of_ble_eq_true rfl, Nat.le_of_ble_eq_true rfl⟩ ⟨Nat.le_of_ble_eq_true rfl, Nat.le_of_ble_eq_true rfl⟩ rfl ?_
      refine r_iload_n (pc' := 18) h0 1 dX8_plansAll_17 rfl rfl rfl ?_
      refine r_if_eq (pt := 34) (pf := 21) h0 dX8_plansAll_18 rfl rfl h (fun c18 h => ?_) (fun c18 h => ?_)
      · refine r_sub (L' := [(0, .ref (wA (wR g) 8 0)), (2, .int x2)]) [0, 2] rfl ?_
        exact w_X8_plansAll_34 h0 fu hE (f_X8_plansAll_4 fu n) ih x2 S14 h
      · refine r_aload_n (pc' := 22) h0 0 dX8_plansAll_21 rfl rfl rfl ?_
        refine gf_X8_37 (pc' := 25) h0 (Nat.le_of_ble_eq_true rfl) dX8_plansAll_22 rfl ?_
        refine r_iload_n (pc' := 26) h0 2 dX8_plansAll_25 rfl rfl rfl ?_
        refine r_zaldA (pc' := 27) h0 (iz_29 g) (Nat.le_of_ble_eq_true rfl) dX8_plansAll_26 rfl h (fun h => ?_)
        refine r_if_eq (pt := 34) (pf := 30) h0 dX8_plansAll_27 rfl rfl h (fun c27 h => ?_) (fun c27 h => ?_)
        · refine r_sub (L' := [(0, .ref (wA (wR g) 8 0)), (2, .int x2)]) [0, 2] rfl ?_
          exact w_X8_plansAll_34 h0 fu hE (f_X8_plansAll_4 fu n) ih x2 S14 h
        · refine r_iconst (pc' := 31) h0 dX8_plansAll_30 ki_1 rfl ?_
          refine r_goto (pc' := 35) h0 dX8_plansAll_31 rfl ?_
          refine r_sub (L' := [(0, .ref (wA (wR g) 8 0)), (2, .int x2)]) [0, 2] rfl ?_
          exact w_X8_plansAll_35 h0 fu hE (f_X8_plansAll_4 fu n) ih x2 1 S14 h
/-- the machine does what f_X8_plansAll says -/
theorem c_X8_plansAll (g : GR) (fu : Nat) (S : Mem) {r : Int32} {S' : Mem} (h : f_X8_plansAll fu S = some (r, S')) : ctN yX8_plansAll cX8_plansAll 3 (some .boolean) rm_X8_plansAll (wR g) [.ref (wA (wR g) 8 0)] S (some (.int r)) S' := by
  refine ct_of (own := RX8) (L := [(0, .ref (wA (wR g) 8 0))]) (by decide +kernel) rfl (Nat.le_of_ble_eq_true rfl) rfl (fun X h0 hE => ?_)
  rw [f_X8_plansAll] at h
  refine r_iconst (pc' := 1) h0 dX8_plansAll_0 ki_1 rfl ?_
  refine r_istore_n (pc' := 2) (L' := [(1, .int 1), (0, .ref (wA (wR g) 8 0))]) h0 dX8_plansAll_1 rfl (Nat.le_of_ble_eq_true rfl) rfl rfl ?_
  refine r_iconst (pc' := 3) h0 dX8_plansAll_2 ki_0 rfl ?_
  refine r_istore_n (pc' := 4) (L' := [(2, .int 0), (1, .int 1), (0, .ref (wA (wR g) 8 0))]) h0 dX8_plansAll_3 rfl (Nat.le_of_ble_eq_true rfl) rfl rfl ?_
  refine r_sub (L' := [(0, .ref (wA (wR g) 8 0)), (1, .int 1), (2, .int 0)]) [2, 1, 0] rfl ?_
  exact w_X8_plansAll_4 h0 fu hE fu 1 0 S h
/-- the machine does what f_X8_secondOf says -/
theorem c_X8_secondOf (g : GR) (fu : Nat) (x1 : Int32) (x2 : Int32) (S : Mem) {r : Int32}  (h : f_X8_secondOf fu x1 x2 S = some r) : ctN yX8_secondOf cX8_secondOf 3 (some .int) rm_X8_secondOf (wR g) [.ref (wA (wR g) 8 0), .int x1, .int x2] S (some (.int r)) S := by
  refine ct_of (own := RX8) (L := [(0, .ref (wA (wR g) 8 0)), (1, .int x1), (2, .int x2)]) (by decide +kernel) rfl (Nat.le_of_ble_eq_true rfl) rfl (fun X h0 hE => ?_)
  rw [f_X8_secondOf] at h
  refine r_iload_n (pc' := 1) h0 2 dX8_secondOf_0 rfl rfl rfl ?_
  refine r_aload_n (pc' := 2) h0 0 dX8_secondOf_1 rfl rfl rfl ?_
  refine gf_X8_22 (pc' := 5) h0 (Nat.le_of_ble_eq_true rfl) dX8_secondOf_2 rfl ?_
  refine r_iload_n (pc' := 6) h0 1 dX8_secondOf_5 rfl rfl rfl ?_
  refine r_ialdA (pc' := 7) h0 (ia_24 g) (Nat.le_of_ble_eq_true rfl) dX8_secondOf_6 rfl h (fun h => ?_)
  refine r_isub (pc' := 8) h0 dX8_secondOf_7 rfl ?_
  refine r_aload_n (pc' := 9) h0 0 dX8_secondOf_8 rfl rfl rfl ?_
  refine gf_X8_83 (pc' := 12) h0 (Nat.le_of_ble_eq_true rfl) dX8_secondOf_9 rfl ?_
  refine r_irem (pc' := 13) h0 dX8_secondOf_12 rfl h (fun h => ?_)
  refine r_aload_n (pc' := 14) h0 0 dX8_secondOf_13 rfl rfl rfl ?_
  refine gf_X8_83 (pc' := 17) h0 (Nat.le_of_ble_eq_true rfl) dX8_secondOf_14 rfl ?_
  refine r_iadd (pc' := 18) h0 dX8_secondOf_17 rfl ?_
  refine r_aload_n (pc' := 19) h0 0 dX8_secondOf_18 rfl rfl rfl ?_
  refine gf_X8_83 (pc' := 22) h0 (Nat.le_of_ble_eq_true rfl) dX8_secondOf_19 rfl ?_
  refine r_irem (pc' := 23) h0 dX8_secondOf_22 rfl h (fun h => ?_)
  exact r_iretR h0 hE dX8_secondOf_23 h
/-- the machine does what f_X8_cycleOf says -/
theorem c_X8_cycleOf (g : GR) (fu : Nat) (x1 : Int32) (x2 : Int32) (S : Mem) {r : Int32}  (h : f_X8_cycleOf fu x1 x2 S = some r) : ctN yX8_cycleOf cX8_cycleOf 3 (some .int) rm_X8_cycleOf (wR g) [.ref (wA (wR g) 8 0), .int x1, .int x2] S (some (.int r)) S := by
  refine ct_of (own := RX8) (L := [(0, .ref (wA (wR g) 8 0)), (1, .int x1), (2, .int x2)]) (by decide +kernel) rfl (Nat.le_of_ble_eq_true rfl) rfl (fun X h0 hE => ?_)
  rw [f_X8_cycleOf] at h
  refine r_iload_n (pc' := 1) h0 2 dX8_cycleOf_0 rfl rfl rfl ?_
  refine r_aload_n (pc' := 2) h0 0 dX8_cycleOf_1 rfl rfl rfl ?_
  refine gf_X8_22 (pc' := 5) h0 (Nat.le_of_ble_eq_true rfl) dX8_cycleOf_2 rfl ?_
  refine r_iload_n (pc' := 6) h0 1 dX8_cycleOf_5 rfl rfl rfl ?_
  refine r_ialdA (pc' := 7) h0 (ia_24 g) (Nat.le_of_ble_eq_true rfl) dX8_cycleOf_6 rfl h (fun h => ?_)
  refine r_isub (pc' := 8) h0 dX8_cycleOf_7 rfl ?_
  refine r_aload_n (pc' := 9) h0 0 dX8_cycleOf_8 rfl rfl rfl ?_
  refine r_iload_n (pc' := 10) h0 1 dX8_cycleOf_9 rfl rfl rfl ?_
  refine r_iload_n (pc' := 11) h0 2 dX8_cycleOf_10 rfl rfl rfl ?_
  obtain ⟨r11, h11, h⟩ := b1_some h
  refine go_V (k_X8_148 g) (st2 := [.int r11, .int (x2 - (S.1 24 0 (x1 : Int32).toNatClampNeg))]) (pc' := 14) [.int x1, .int x2] [.int (x2 - (S.1 24 0 (x1 : Int32).toNatClampNeg))] h0 (Nat.le_of_ble_eq_true rfl) (c_X8_secondOf g fu x1 x2 S h11) rfl rfl dX8_cycleOf_11 rfl (Nat.le_of_ble_eq_true rfl) ⟨rfl, rfl, Nat.le_of_ble_eq_true rfl, Nat.le_of_ble_eq_true rfl⟩ ⟨Nat.le_of_ble_eq_true rfl, Nat.le_of_ble_eq_true rfl⟩ rfl ?_
  refine r_isub (pc' := 15) h0 dX8_cycleOf_14 rfl ?_
  refine r_aload_n (pc' := 16) h0 0 dX8_cycleOf_15 rfl rfl rfl ?_
  refine gf_X8_83 (pc' := 19) h0 (Nat.le_of_ble_eq_true rfl) dX8_cycleOf_16 rfl ?_
  refine r_idiv (pc' := 20) h0 dX8_cycleOf_19 rfl h (fun h => ?_)
  exact r_iretR h0 hE dX8_cycleOf_20 h
theorem w_X8_phaseAt_150 {g : GR} {X : MX} {r : Int32}  (h0 : CX RX8 cX8_phaseAt 8 rm_X8_phaseAt X (wR g)) (fu : Nat) (x1 : Int32) (x2 : Int32) (x3 : Int32) (S : Mem) (hE : EN (some .int) (some (.int r)) S X (wR g)) : ∀ (t0 : Int32), f_X8_phaseAt_150 fu x1 x2 x3 S t0 = some r → GV X (wR g) 8 0 0 S [] 150 [.int t0] := by
  intro t0 h
  rw [f_X8_phaseAt_150] at h
  exact r_iretR h0 hE dX8_phaseAt_150 h
theorem w_X8_phaseAt_129 {g : GR} {X : MX} {r : Int32}  (h0 : CX RX8 cX8_phaseAt 8 rm_X8_phaseAt X (wR g)) (fu : Nat) (x1 : Int32) (x2 : Int32) (x3 : Int32) (S : Mem) (hE : EN (some .int) (some (.int r)) S X (wR g)) (K46 : Int32 → Int32 → Int32 → Option Int32) (kK46 : ∀ (x4 : Int32) (x5 : Int32) (x6 : Int32), K46 x4 x5 x6 = some r → GV X (wR g) 8 0 0 S [(0, .ref (wA (wR g) 8 0)), (1, .int x1), (4, .int x4), (5, .int x5), (6, .int x6)] 46 []) : ∀ (x4 : Int32) (x5 : Int32) (x6 : Int32) (t0 : Int32) (t1 : Int32), f_X8_phaseAt_129 fu K46 x1 x2 x3 S x4 x5 x6 t0 t1 = some r → GV X (wR g) 8 0 0 S [(0, .ref (wA (wR g) 8 0)), (1, .int x1), (4, .int x4), (5, .int x5), (6, .int x6)] 129 [.int t0, .int t1] := by
  intro x4 x5 x6 t0 t1 h
  rw [f_X8_phaseAt_129] at h
  refine r_isub (pc' := 130) h0 dX8_phaseAt_129 rfl ?_
  refine r_istore (pc' := 132) (L' := [(7, .int (t1 - t0)), (0, .ref (wA (wR g) 8 0)), (1, .int x1), (4, .int x4), (5, .int x5), (6, .int x6)]) h0 dX8_phaseAt_130 (Nat.le_of_ble_eq_true rfl) rfl rfl ?_
  refine r_iload (pc' := 134) h0 3 dX8_phaseAt_132 rfl rfl ?_
  refine r_iload (pc' := 136) h0 0 dX8_phaseAt_134 rfl rfl ?_
  refine r_ic_ge (pt := 151) (pf := 139) h0 dX8_phaseAt_136 rfl rfl h (fun c136 h => ?_) (fun c136 h => ?_)
  · refine r_iload (pc' := 153) h0 3 dX8_phaseAt_151 rfl rfl ?_
    refine r_iload (pc' := 155) h0 0 dX8_phaseAt_153 rfl rfl ?_
    refine r_aload_n (pc' := 156) h0 1 dX8_phaseAt_155 rfl rfl rfl ?_
    refine gf_X8_34 (pc' := 159) h0 (Nat.le_of_ble_eq_true rfl) dX8_phaseAt_156 rfl ?_
    refine r_iconst (pc' := 160) h0 dX8_phaseAt_159 ki_4 rfl ?_
    refine r_iload_n (pc' := 161) h0 2 dX8_phaseAt_160 rfl rfl rfl ?_
    refine r_imul (pc' := 162) h0 dX8_phaseAt_161 rfl ?_
    refine r_iload (pc' := 164) h0 5 dX8_phaseAt_162 rfl rfl ?_
    refine r_iadd (pc' := 165) h0 dX8_phaseAt_164 rfl ?_
    refine r_ialdA (pc' := 166) h0 (ia_28 g) (Nat.le_of_ble_eq_true rfl) dX8_phaseAt_165 rfl h (fun h => ?_)
    refine r_iadd (pc' := 167) h0 dX8_phaseAt_166 rfl ?_
    refine r_isub (pc' := 168) h0 dX8_phaseAt_167 rfl ?_
    refine r_istore (pc' := 170) (L' := [(4, .int (x4 - ((t1 - t0) + (S.1 28 0 (((4 * x1) + x6) : Int32).toNatClampNeg)))), (7, .int (t1 - t0)), (0, .ref (wA (wR g) 8 0)), (1, .int x1), (5, .int x5), (6, .int x6)]) h0 dX8_phaseAt_168 (Nat.le_of_ble_eq_true rfl) rfl rfl ?_
    refine r_iinc (pc' := 173) (L' := [(6, .int (x6 + 1)), (4, .int (x4 - ((t1 - t0) + (S.1 28 0 (((4 * x1) + x6) : Int32).toNatClampNeg)))), (7, .int (t1 - t0)), (0, .ref (wA (wR g) 8 0)), (1, .int x1), (5, .int x5)]) h0 5 dX8_phaseAt_170 rfl ki_1 (Nat.le_of_ble_eq_true rfl) rfl rfl ?_
    refine r_goto (pc' := 46) h0 dX8_phaseAt_173 rfl ?_
    refine r_sub (L' := [(0, .ref (wA (wR g) 8 0)), (1, .int x1), (4, .int (x4 - ((t1 - t0) + (S.1 28 0 (((4 * x1) + x6) : Int32).toNatClampNeg)))), (5, .int x5), (6, .int (x6 + 1))]) [3, 4, 1, 5, 0] rfl ?_
    exact kK46 (x4 - ((t1 - t0) + (S.1 28 0 (((4 * x1) + x6) : Int32).toNatClampNeg))) x5 (x6 + 1) h
  · refine r_iload (pc' := 141) h0 3 dX8_phaseAt_139 rfl rfl ?_
    refine r_if_ge (pt := 148) (pf := 144) h0 dX8_phaseAt_141 rfl rfl h (fun c141 h => ?_) (fun c141 h => ?_)
    · refine r_iload (pc' := 150) h0 5 dX8_phaseAt_148 rfl rfl ?_
      refine r_sub (L' := []) [] rfl ?_
      exact w_X8_phaseAt_150 h0 fu x1 x2 x3 S hE x6 h
    · refine r_iconst (pc' := 145) h0 dX8_phaseAt_144 ki_m1 rfl ?_
      refine r_goto (pc' := 150) h0 dX8_phaseAt_145 rfl ?_
      refine r_sub (L' := []) [] rfl ?_
      exact w_X8_phaseAt_150 h0 fu x1 x2 x3 S hE (-1) h
theorem w_X8_phaseAt_128 {g : GR} {X : MX} {r : Int32}  (h0 : CX RX8 cX8_phaseAt 8 rm_X8_phaseAt X (wR g)) (fu : Nat) (x1 : Int32) (x2 : Int32) (x3 : Int32) (S : Mem) (hE : EN (some .int) (some (.int r)) S X (wR g)) (K46 : Int32 → Int32 → Int32 → Option Int32) (kK46 : ∀ (x4 : Int32) (x5 : Int32) (x6 : Int32), K46 x4 x5 x6 = some r → GV X (wR g) 8 0 0 S [(0, .ref (wA (wR g) 8 0)), (1, .int x1), (4, .int x4), (5, .int x5), (6, .int x6)] 46 []) : ∀ (x4 : Int32) (x5 : Int32) (x6 : Int32) (t0 : Int32), f_X8_phaseAt_128 fu K46 x1 x2 x3 S x4 x5 x6 t0 = some r → GV X (wR g) 8 0 0 S [(0, .ref (wA (wR g) 8 0)), (1, .int x1), (4, .int x4), (5, .int x5), (6, .int x6)] 128 [.int t0] := by
  intro x4 x5 x6 t0 h
  rw [f_X8_phaseAt_128] at h
  refine r_iconst (pc' := 129) h0 dX8_phaseAt_128 ki_0 rfl ?_
  exact w_X8_phaseAt_129 h0 fu x1 x2 x3 S hE K46 kK46 x4 x5 x6 0 t0 h
theorem w_X8_phaseAt_98 {g : GR} {X : MX} {r : Int32}  (h0 : CX RX8 cX8_phaseAt 8 rm_X8_phaseAt X (wR g)) (fu : Nat) (x1 : Int32) (x2 : Int32) (x3 : Int32) (S : Mem) (hE : EN (some .int) (some (.int r)) S X (wR g)) (K46 : Int32 → Int32 → Int32 → Option Int32) (kK46 : ∀ (x4 : Int32) (x5 : Int32) (x6 : Int32), K46 x4 x5 x6 = some r → GV X (wR g) 8 0 0 S [(0, .ref (wA (wR g) 8 0)), (1, .int x1), (4, .int x4), (5, .int x5), (6, .int x6)] 46 []) : ∀ (x4 : Int32) (x5 : Int32) (x6 : Int32) (t0 : Int32) (t1 : Int32), f_X8_phaseAt_98 fu K46 x1 x2 x3 S x4 x5 x6 t0 t1 = some r → GV X (wR g) 8 0 0 S [(0, .ref (wA (wR g) 8 0)), (1, .int x1), (4, .int x4), (5, .int x5), (6, .int x6)] 98 [.int t0, .int t1] := by
  intro x4 x5 x6 t0 t1 h
  rw [f_X8_phaseAt_98] at h
  refine r_iadd (pc' := 99) h0 dX8_phaseAt_98 rfl ?_
  refine r_istore (pc' := 101) (L' := [(7, .int (t1 + t0)), (0, .ref (wA (wR g) 8 0)), (1, .int x1), (4, .int x4), (5, .int x5), (6, .int x6)]) h0 dX8_phaseAt_99 (Nat.le_of_ble_eq_true rfl) rfl rfl ?_
  refine r_iload (pc' := 103) h0 0 dX8_phaseAt_101 rfl rfl ?_
  refine r_iload (pc' := 105) h0 4 dX8_phaseAt_103 rfl rfl ?_
  refine r_if_eq (pt := 128) (pf := 108) h0 dX8_phaseAt_105 rfl rfl h (fun c105 h => ?_) (fun c105 h => ?_)
  · refine r_sub (L' := [(0, .ref (wA (wR g) 8 0)), (1, .int x1), (4, .int x4), (5, .int x5), (6, .int x6)]) [1, 2, 3, 4, 5] rfl ?_
    exact w_X8_phaseAt_128 h0 fu x1 x2 x3 S hE K46 kK46 x4 x5 x6 (t1 + t0) h
  · refine r_iload (pc' := 110) h0 5 dX8_phaseAt_108 rfl rfl ?_
    refine r_aload_n (pc' := 111) h0 1 dX8_phaseAt_110 rfl rfl rfl ?_
    refine gf_X8_62 (pc' := 114) h0 (Nat.le_of_ble_eq_true rfl) dX8_phaseAt_111 rfl ?_
    refine r_iload_n (pc' := 115) h0 2 dX8_phaseAt_114 rfl rfl rfl ?_
    refine r_ialdA (pc' := 116) h0 (ia_37 g) (Nat.le_of_ble_eq_true rfl) dX8_phaseAt_115 rfl h (fun h => ?_)
    refine r_ic_ne (pt := 128) (pf := 119) h0 dX8_phaseAt_116 rfl rfl h (fun c116 h => ?_) (fun c116 h => ?_)
    · refine r_sub (L' := [(0, .ref (wA (wR g) 8 0)), (1, .int x1), (4, .int x4), (5, .int x5), (6, .int x6)]) [1, 2, 3, 4, 5] rfl ?_
      exact w_X8_phaseAt_128 h0 fu x1 x2 x3 S hE K46 kK46 x4 x5 x6 (t1 + t0) h
    · refine r_aload_n (pc' := 120) h0 1 dX8_phaseAt_119 rfl rfl rfl ?_
      refine gf_X8_65 (pc' := 123) h0 (Nat.le_of_ble_eq_true rfl) dX8_phaseAt_120 rfl ?_
      refine r_iload_n (pc' := 124) h0 2 dX8_phaseAt_123 rfl rfl rfl ?_
      refine r_ialdA (pc' := 125) h0 (ia_38 g) (Nat.le_of_ble_eq_true rfl) dX8_phaseAt_124 rfl h (fun h => ?_)
      refine r_goto (pc' := 129) h0 dX8_phaseAt_125 rfl ?_
      refine r_sub (L' := [(0, .ref (wA (wR g) 8 0)), (1, .int x1), (4, .int x4), (5, .int x5), (6, .int x6)]) [1, 2, 3, 4, 5] rfl ?_
      exact w_X8_phaseAt_129 h0 fu x1 x2 x3 S hE K46 kK46 x4 x5 x6 (S.1 38 0 (x1 : Int32).toNatClampNeg) (t1 + t0) h
theorem w_X8_phaseAt_97 {g : GR} {X : MX} {r : Int32}  (h0 : CX RX8 cX8_phaseAt 8 rm_X8_phaseAt X (wR g)) (fu : Nat) (x1 : Int32) (x2 : Int32) (x3 : Int32) (S : Mem) (hE : EN (some .int) (some (.int r)) S X (wR g)) (K46 : Int32 → Int32 → Int32 → Option Int32) (kK46 : ∀ (x4 : Int32) (x5 : Int32) (x6 : Int32), K46 x4 x5 x6 = some r → GV X (wR g) 8 0 0 S [(0, .ref (wA (wR g) 8 0)), (1, .int x1), (4, .int x4), (5, .int x5), (6, .int x6)] 46 []) : ∀ (x4 : Int32) (x5 : Int32) (x6 : Int32) (t0 : Int32), f_X8_phaseAt_97 fu K46 x1 x2 x3 S x4 x5 x6 t0 = some r → GV X (wR g) 8 0 0 S [(0, .ref (wA (wR g) 8 0)), (1, .int x1), (4, .int x4), (5, .int x5), (6, .int x6)] 97 [.int t0] := by
  intro x4 x5 x6 t0 h
  rw [f_X8_phaseAt_97] at h
  refine r_iconst (pc' := 98) h0 dX8_phaseAt_97 ki_0 rfl ?_
  exact w_X8_phaseAt_98 h0 fu x1 x2 x3 S hE K46 kK46 x4 x5 x6 0 t0 h
theorem w_X8_phaseAt_46 {g : GR} {X : MX} {r : Int32}  (h0 : CX RX8 cX8_phaseAt 8 rm_X8_phaseAt X (wR g)) (fu : Nat) (x1 : Int32) (x2 : Int32) (x3 : Int32) (S : Mem) (hE : EN (some .int) (some (.int r)) S X (wR g)) : ∀ (n : Nat) (x4 : Int32) (x5 : Int32) (x6 : Int32), f_X8_phaseAt_46 fu x1 x2 x3 S n x4 x5 x6 = some r → GV X (wR g) 8 0 0 S [(0, .ref (wA (wR g) 8 0)), (1, .int x1), (4, .int x4), (5, .int x5), (6, .int x6)] 46 [] := by
  intro n
  induction n with
  | zero =>
    intro x4 x5 x6 h
    exact nomatch (show none = _ from h)
  | succ n ih =>
    intro x4 x5 x6 h
    rw [f_X8_phaseAt_46] at h
    refine r_iload (pc' := 48) h0 4 dX8_phaseAt_46 rfl rfl ?_
    refine r_aload_n (pc' := 49) h0 0 dX8_phaseAt_48 rfl rfl rfl ?_
    refine gf_X8_16 (pc' := 52) h0 (Nat.le_of_ble_eq_true rfl) dX8_phaseAt_49 rfl ?_
    refine r_iload_n (pc' := 53) h0 1 dX8_phaseAt_52 rfl rfl rfl ?_
    refine r_ialdA (pc' := 54) h0 (ia_22 g) (Nat.le_of_ble_eq_true rfl) dX8_phaseAt_53 rfl h (fun h => ?_)
    refine r_ic_ge (pt := 176) (pf := 57) h0 dX8_phaseAt_54 rfl rfl h (fun c54 h => ?_) (fun c54 h => ?_)
    · refine r_iconst (pc' := 177) h0 dX8_phaseAt_176 ki_m1 rfl ?_
      exact r_iretR h0 hE dX8_phaseAt_177 h
    · refine r_aload_n (pc' := 58) h0 0 dX8_phaseAt_57 rfl rfl rfl ?_
      refine gf_X8_31 (pc' := 61) h0 (Nat.le_of_ble_eq_true rfl) dX8_phaseAt_58 rfl ?_
      refine r_iconst (pc' := 62) h0 dX8_phaseAt_61 ki_4 rfl ?_
      refine r_iload_n (pc' := 63) h0 1 dX8_phaseAt_62 rfl rfl rfl ?_
      refine r_imul (pc' := 64) h0 dX8_phaseAt_63 rfl ?_
      refine r_iload (pc' := 66) h0 4 dX8_phaseAt_64 rfl rfl ?_
      refine r_iadd (pc' := 67) h0 dX8_phaseAt_66 rfl ?_
      refine r_ialdA (pc' := 68) h0 (ia_27 g) (Nat.le_of_ble_eq_true rfl) dX8_phaseAt_67 rfl h (fun h => ?_)
      refine r_istore (pc' := 70) (L' := [(7, .int (S.1 27 0 (((4 * x1) + x6) : Int32).toNatClampNeg)), (0, .ref (wA (wR g) 8 0)), (1, .int x1), (4, .int x4), (5, .int x5), (6, .int x6)]) h0 dX8_phaseAt_68 (Nat.le_of_ble_eq_true rfl) rfl rfl ?_
      refine r_iload (pc' := 72) h0 0 dX8_phaseAt_70 rfl rfl ?_
      refine r_iload (pc' := 74) h0 4 dX8_phaseAt_72 rfl rfl ?_
      refine r_if_eq (pt := 97) (pf := 77) h0 dX8_phaseAt_74 rfl rfl h (fun c74 h => ?_) (fun c74 h => ?_)
      · refine r_sub (L' := [(0, .ref (wA (wR g) 8 0)), (1, .int x1), (4, .int x4), (5, .int x5), (6, .int x6)]) [1, 2, 3, 4, 5] rfl ?_
        exact w_X8_phaseAt_97 h0 fu x1 x2 x3 S hE (f_X8_phaseAt_46 fu x1 x2 x3 S n) ih x4 x5 x6 (S.1 27 0 (((4 * x1) + x6) : Int32).toNatClampNeg) h
      · refine r_iload (pc' := 79) h0 5 dX8_phaseAt_77 rfl rfl ?_
        refine r_aload_n (pc' := 80) h0 1 dX8_phaseAt_79 rfl rfl rfl ?_
        refine gf_X8_59 (pc' := 83) h0 (Nat.le_of_ble_eq_true rfl) dX8_phaseAt_80 rfl ?_
        refine r_iload_n (pc' := 84) h0 2 dX8_phaseAt_83 rfl rfl rfl ?_
        refine r_ialdA (pc' := 85) h0 (ia_36 g) (Nat.le_of_ble_eq_true rfl) dX8_phaseAt_84 rfl h (fun h => ?_)
        refine r_ic_ne (pt := 97) (pf := 88) h0 dX8_phaseAt_85 rfl rfl h (fun c85 h => ?_) (fun c85 h => ?_)
        · refine r_sub (L' := [(0, .ref (wA (wR g) 8 0)), (1, .int x1), (4, .int x4), (5, .int x5), (6, .int x6)]) [1, 2, 3, 4, 5] rfl ?_
          exact w_X8_phaseAt_97 h0 fu x1 x2 x3 S hE (f_X8_phaseAt_46 fu x1 x2 x3 S n) ih x4 x5 x6 (S.1 27 0 (((4 * x1) + x6) : Int32).toNatClampNeg) h
        · refine r_aload_n (pc' := 89) h0 1 dX8_phaseAt_88 rfl rfl rfl ?_
          refine gf_X8_65 (pc' := 92) h0 (Nat.le_of_ble_eq_true rfl) dX8_phaseAt_89 rfl ?_
          refine r_iload_n (pc' := 93) h0 2 dX8_phaseAt_92 rfl rfl rfl ?_
          refine r_ialdA (pc' := 94) h0 (ia_38 g) (Nat.le_of_ble_eq_true rfl) dX8_phaseAt_93 rfl h (fun h => ?_)
          refine r_goto (pc' := 98) h0 dX8_phaseAt_94 rfl ?_
          refine r_sub (L' := [(0, .ref (wA (wR g) 8 0)), (1, .int x1), (4, .int x4), (5, .int x5), (6, .int x6)]) [1, 2, 3, 4, 5] rfl ?_
          exact w_X8_phaseAt_98 h0 fu x1 x2 x3 S hE (f_X8_phaseAt_46 fu x1 x2 x3 S n) ih x4 x5 x6 (S.1 38 0 (x1 : Int32).toNatClampNeg) (S.1 27 0 (((4 * x1) + x6) : Int32).toNatClampNeg) h
theorem w_X8_phaseAt_41 {g : GR} {X : MX} {r : Int32}  (h0 : CX RX8 cX8_phaseAt 8 rm_X8_phaseAt X (wR g)) (fu : Nat) (x1 : Int32) (x2 : Int32) (x3 : Int32) (S : Mem) (hE : EN (some .int) (some (.int r)) S X (wR g)) : ∀ (x4 : Int32) (t0 : Int32), f_X8_phaseAt_41 fu x1 x2 x3 S x4 t0 = some r → GV X (wR g) 8 0 0 S [(0, .ref (wA (wR g) 8 0)), (1, .int x1), (4, .int x4)] 41 [.int t0] := by
  intro x4 t0 h
  rw [f_X8_phaseAt_41] at h
  refine r_istore (pc' := 43) (L' := [(5, .int t0), (0, .ref (wA (wR g) 8 0)), (1, .int x1), (4, .int x4)]) h0 dX8_phaseAt_41 (Nat.le_of_ble_eq_true rfl) rfl rfl ?_
  refine r_iconst (pc' := 44) h0 dX8_phaseAt_43 ki_0 rfl ?_
  refine r_istore (pc' := 46) (L' := [(6, .int 0), (5, .int t0), (0, .ref (wA (wR g) 8 0)), (1, .int x1), (4, .int x4)]) h0 dX8_phaseAt_44 (Nat.le_of_ble_eq_true rfl) rfl rfl ?_
  refine r_sub (L' := [(0, .ref (wA (wR g) 8 0)), (1, .int x1), (4, .int x4), (5, .int t0), (6, .int 0)]) [2, 3, 4, 1, 0] rfl ?_
  exact w_X8_phaseAt_46 h0 fu x1 x2 x3 S hE fu x4 t0 0 h
theorem w_X8_phaseAt_40 {g : GR} {X : MX} {r : Int32}  (h0 : CX RX8 cX8_phaseAt 8 rm_X8_phaseAt X (wR g)) (fu : Nat) (x1 : Int32) (x2 : Int32) (x3 : Int32) (S : Mem) (hE : EN (some .int) (some (.int r)) S X (wR g)) : ∀ (x4 : Int32), f_X8_phaseAt_40 fu x1 x2 x3 S x4 = some r → GV X (wR g) 8 0 0 S [(0, .ref (wA (wR g) 8 0)), (1, .int x1), (4, .int x4)] 40 [] := by
  intro x4 h
  rw [f_X8_phaseAt_40] at h
  refine r_iconst (pc' := 41) h0 dX8_phaseAt_40 ki_0 rfl ?_
  exact w_X8_phaseAt_41 h0 fu x1 x2 x3 S hE x4 0 h
/-- the machine does what f_X8_phaseAt says -/
theorem c_X8_phaseAt (g : GR) (fu : Nat) (x1 : Int32) (x2 : Int32) (x3 : Int32) (S : Mem) {r : Int32}  (h : f_X8_phaseAt fu x1 x2 x3 S = some r) : ctN yX8_phaseAt cX8_phaseAt 8 (some .int) rm_X8_phaseAt (wR g) [.ref (wA (wR g) 8 0), .int x1, .int x2, .int x3] S (some (.int r)) S := by
  refine ct_of (own := RX8) (L := [(0, .ref (wA (wR g) 8 0)), (1, .int x1), (2, .int x2), (3, .int x3)]) (by decide +kernel) rfl (Nat.le_of_ble_eq_true rfl) rfl (fun X h0 hE => ?_)
  rw [f_X8_phaseAt] at h
  refine r_aload_n (pc' := 1) h0 0 dX8_phaseAt_0 rfl rfl rfl ?_
  refine r_iload_n (pc' := 2) h0 1 dX8_phaseAt_1 rfl rfl rfl ?_
  refine r_iload_n (pc' := 3) h0 2 dX8_phaseAt_2 rfl rfl rfl ?_
  obtain ⟨r3, h3, h⟩ := b1_some h
  refine go_V (k_X8_148 g) (st2 := [.int r3]) (pc' := 6) [.int x1, .int x2] [] h0 (Nat.le_of_ble_eq_true rfl) (c_X8_secondOf g fu x1 x2 S h3) rfl rfl dX8_phaseAt_3 rfl (Nat.le_of_ble_eq_true rfl) ⟨rfl, rfl, Nat.le_of_ble_eq_true rfl, Nat.le_of_ble_eq_true rfl⟩ ⟨Nat.le_of_ble_eq_true rfl, Nat.le_of_ble_eq_true rfl⟩ rfl ?_
  refine r_istore (pc' := 8) (L' := [(4, .int r3), (0, .ref (wA (wR g) 8 0)), (1, .int x1), (2, .int x2), (3, .int x3)]) h0 dX8_phaseAt_6 (Nat.le_of_ble_eq_true rfl) rfl rfl ?_
  refine r_iload_n (pc' := 9) h0 4 dX8_phaseAt_8 rfl rfl rfl ?_
  refine r_if_eq (pt := 40) (pf := 12) h0 dX8_phaseAt_9 rfl rfl h (fun c9 h => ?_) (fun c9 h => ?_)
  · refine r_sub (L' := [(0, .ref (wA (wR g) 8 0)), (1, .int x1), (4, .int r3)]) [1, 2, 0] rfl ?_
    exact w_X8_phaseAt_40 h0 fu x1 x2 x3 S hE r3 h
  · refine r_aload_n (pc' := 13) h0 1 dX8_phaseAt_12 rfl rfl rfl ?_
    refine gf_X8_53 (pc' := 16) h0 (Nat.le_of_ble_eq_true rfl) dX8_phaseAt_13 rfl ?_
    refine r_iload_n (pc' := 17) h0 2 dX8_phaseAt_16 rfl rfl rfl ?_
    refine r_zaldA (pc' := 18) h0 (iz_34 g) (Nat.le_of_ble_eq_true rfl) dX8_phaseAt_17 rfl h (fun h => ?_)
    refine r_if_eq (pt := 40) (pf := 21) h0 dX8_phaseAt_18 rfl rfl h (fun c18 h => ?_) (fun c18 h => ?_)
    · refine r_sub (L' := [(0, .ref (wA (wR g) 8 0)), (1, .int x1), (4, .int r3)]) [1, 2, 0] rfl ?_
      exact w_X8_phaseAt_40 h0 fu x1 x2 x3 S hE r3 h
    · refine r_aload_n (pc' := 22) h0 1 dX8_phaseAt_21 rfl rfl rfl ?_
      refine gf_X8_56 (pc' := 25) h0 (Nat.le_of_ble_eq_true rfl) dX8_phaseAt_22 rfl ?_
      refine r_iload_n (pc' := 26) h0 2 dX8_phaseAt_25 rfl rfl rfl ?_
      refine r_ialdA (pc' := 27) h0 (ia_35 g) (Nat.le_of_ble_eq_true rfl) dX8_phaseAt_26 rfl h (fun h => ?_)
      refine r_aload_n (pc' := 28) h0 1 dX8_phaseAt_27 rfl rfl rfl ?_
      refine r_iload_n (pc' := 29) h0 2 dX8_phaseAt_28 rfl rfl rfl ?_
      refine r_iload_n (pc' := 30) h0 3 dX8_phaseAt_29 rfl rfl rfl ?_
      obtain ⟨r30, h30, h⟩ := b1_some h
      refine go_V (k_X8_151 g) (st2 := [.int r30, .int (S.1 35 0 (x1 : Int32).toNatClampNeg)]) (pc' := 33) [.int x1, .int x2] [.int (S.1 35 0 (x1 : Int32).toNatClampNeg)] h0 (Nat.le_of_ble_eq_true rfl) (c_X8_cycleOf g fu x1 x2 S h30) rfl rfl dX8_phaseAt_30 rfl (Nat.le_of_ble_eq_true rfl) ⟨rfl, rfl, Nat.le_of_ble_eq_true rfl, Nat.le_of_ble_eq_true rfl⟩ ⟨Nat.le_of_ble_eq_true rfl, Nat.le_of_ble_eq_true rfl⟩ rfl ?_
      refine r_ic_ne (pt := 40) (pf := 36) h0 dX8_phaseAt_33 rfl rfl h (fun c33 h => ?_) (fun c33 h => ?_)
      · refine r_sub (L' := [(0, .ref (wA (wR g) 8 0)), (1, .int x1), (4, .int r3)]) [1, 2, 0] rfl ?_
        exact w_X8_phaseAt_40 h0 fu x1 x2 x3 S hE r3 h
      · refine r_iconst (pc' := 37) h0 dX8_phaseAt_36 ki_1 rfl ?_
        refine r_goto (pc' := 41) h0 dX8_phaseAt_37 rfl ?_
        refine r_sub (L' := [(0, .ref (wA (wR g) 8 0)), (1, .int x1), (4, .int r3)]) [1, 2, 0] rfl ?_
        exact w_X8_phaseAt_41 h0 fu x1 x2 x3 S hE r3 1 h
theorem w_X8_isGreenAt_39 {g : GR} {X : MX} {r : Int32}  (h0 : CX RX8 cX8_isGreenAt 6 rm_X8_isGreenAt X (wR g)) (fu : Nat) (x1 : Int32) (x2 : Int32) (x3 : Int32) (x4 : Int32) (S : Mem) (hE : EN (some .boolean) (some (.int r)) S X (wR g)) : ∀ (t0 : Int32), f_X8_isGreenAt_39 fu x1 x2 x3 x4 S t0 = some r → GV X (wR g) 6 0 0 S [] 39 [.int t0] := by
  intro t0 h
  rw [f_X8_isGreenAt_39] at h
  exact r_zretR h0 hE dX8_isGreenAt_39 h
theorem w_X8_isGreenAt_38 {g : GR} {X : MX} {r : Int32}  (h0 : CX RX8 cX8_isGreenAt 6 rm_X8_isGreenAt X (wR g)) (fu : Nat) (x1 : Int32) (x2 : Int32) (x3 : Int32) (x4 : Int32) (S : Mem) (hE : EN (some .boolean) (some (.int r)) S X (wR g)) : f_X8_isGreenAt_38 fu x1 x2 x3 x4 S = some r → GV X (wR g) 6 0 0 S [] 38 [] := by
  intro  h
  rw [f_X8_isGreenAt_38] at h
  refine r_iconst (pc' := 39) h0 dX8_isGreenAt_38 ki_0 rfl ?_
  exact w_X8_isGreenAt_39 h0 fu x1 x2 x3 x4 S hE 0 h
/-- the machine does what f_X8_isGreenAt says -/
theorem c_X8_isGreenAt (g : GR) (fu : Nat) (x1 : Int32) (x2 : Int32) (x3 : Int32) (x4 : Int32) (S : Mem) {r : Int32}  (h : f_X8_isGreenAt fu x1 x2 x3 x4 S = some r) : ctN yX8_isGreenAt cX8_isGreenAt 6 (some .boolean) rm_X8_isGreenAt (wR g) [.ref (wA (wR g) 8 0), .int x1, .int x2, .int x3, .int x4] S (some (.int r)) S := by
  refine ct_of (own := RX8) (L := [(0, .ref (wA (wR g) 8 0)), (1, .int x1), (2, .int x2), (3, .int x3), (4, .int x4)]) (by decide +kernel) rfl (Nat.le_of_ble_eq_true rfl) rfl (fun X h0 hE => ?_)
  rw [f_X8_isGreenAt] at h
  refine r_aload_n (pc' := 1) h0 0 dX8_isGreenAt_0 rfl rfl rfl ?_
  refine r_iload_n (pc' := 2) h0 1 dX8_isGreenAt_1 rfl rfl rfl ?_
  refine r_iload_n (pc' := 3) h0 3 dX8_isGreenAt_2 rfl rfl rfl ?_
  refine r_iload (pc' := 5) h0 4 dX8_isGreenAt_3 rfl rfl ?_
  obtain ⟨r5, h5, h⟩ := b1_some h
  refine go_V (k_X8_154 g) (st2 := [.int r5]) (pc' := 8) [.int x1, .int x3, .int x4] [] h0 (Nat.le_of_ble_eq_true rfl) (c_X8_phaseAt g fu x1 x3 x4 S h5) rfl rfl dX8_isGreenAt_5 rfl (Nat.le_of_ble_eq_true rfl) ⟨rfl, rfl, Nat.le_of_ble_eq_true rfl, Nat.le_of_ble_eq_true rfl⟩ ⟨Nat.le_of_ble_eq_true rfl, Nat.le_of_ble_eq_true rfl⟩ rfl ?_
  refine r_istore (pc' := 10) (L' := [(5, .int r5), (0, .ref (wA (wR g) 8 0)), (1, .int x1), (2, .int x2), (3, .int x3), (4, .int x4)]) h0 dX8_isGreenAt_8 (Nat.le_of_ble_eq_true rfl) rfl rfl ?_
  refine r_iload (pc' := 12) h0 0 dX8_isGreenAt_10 rfl rfl ?_
  refine r_iconst (pc' := 13) h0 dX8_isGreenAt_12 ki_m1 rfl ?_
  refine r_ic_eq (pt := 38) (pf := 16) h0 dX8_isGreenAt_13 rfl rfl h (fun c13 h => ?_) (fun c13 h => ?_)
  · refine r_sub (L' := []) [] rfl ?_
    exact w_X8_isGreenAt_38 h0 fu x1 x2 x3 x4 S hE h
  · refine r_aload_n (pc' := 17) h0 1 dX8_isGreenAt_16 rfl rfl rfl ?_
    refine gf_X8_13 (pc' := 20) h0 (Nat.le_of_ble_eq_true rfl) dX8_isGreenAt_17 rfl ?_
    refine r_iconst (pc' := 21) h0 dX8_isGreenAt_20 ki_4 rfl ?_
    refine r_iload_n (pc' := 22) h0 2 dX8_isGreenAt_21 rfl rfl rfl ?_
    refine r_imul (pc' := 23) h0 dX8_isGreenAt_22 rfl ?_
    refine r_iload (pc' := 25) h0 0 dX8_isGreenAt_23 rfl rfl ?_
    refine r_iadd (pc' := 26) h0 dX8_isGreenAt_25 rfl ?_
    refine r_ialdA (pc' := 27) h0 (ia_21 g) (Nat.le_of_ble_eq_true rfl) dX8_isGreenAt_26 rfl h (fun h => ?_)
    refine r_iload_n (pc' := 28) h0 3 dX8_isGreenAt_27 rfl rfl rfl ?_
    obtain ⟨r28, h28, h⟩ := b1_some h
    refine go_S (k_X8_106 g) (st2 := [.int r28]) (pc' := 31) [.int (S.1 21 0 (((4 * x1) + r5) : Int32).toNatClampNeg), .int x2] [] h0 (c_X8_has g fu (S.1 21 0 (((4 * x1) + r5) : Int32).toNatClampNeg) x2 S h28) rfl rfl dX8_isGreenAt_28 rfl (Nat.le_of_ble_eq_true rfl) ⟨rfl, rfl, Nat.le_of_ble_eq_true rfl, Nat.le_of_ble_eq_true rfl⟩ ⟨Nat.le_of_ble_eq_true rfl, Nat.le_of_ble_eq_true rfl⟩ rfl ?_
    refine r_if_eq (pt := 38) (pf := 34) h0 dX8_isGreenAt_31 rfl rfl h (fun c31 h => ?_) (fun c31 h => ?_)
    · refine r_sub (L' := []) [] rfl ?_
      exact w_X8_isGreenAt_38 h0 fu x1 x2 x3 x4 S hE h
    · refine r_iconst (pc' := 35) h0 dX8_isGreenAt_34 ki_1 rfl ?_
      refine r_goto (pc' := 39) h0 dX8_isGreenAt_35 rfl ?_
      refine r_sub (L' := []) [] rfl ?_
      exact w_X8_isGreenAt_39 h0 fu x1 x2 x3 x4 S hE 1 h
theorem w_X8_isFree_104 {g : GR} {X : MX} {r : Int32}  (h0 : CX RX8 cX8_isFree 6 rm_X8_isFree X (wR g)) (fu : Nat) (x1 : Int32) (x2 : Int32) (S : Mem) (hE : EN (some .boolean) (some (.int r)) S X (wR g)) (K5 : Int32 → Int32 → Option Int32) (kK5 : ∀ (x3 : Int32) (x4 : Int32), K5 x3 x4 = some r → GV X (wR g) 6 0 0 S [(0, .ref (wA (wR g) 8 0)), (2, .int x2), (3, .int x3), (4, .int x4)] 5 []) : ∀ (x4 : Int32) (t0 : Int32) (t1 : Int32), f_X8_isFree_104 fu K5 x1 x2 S x4 t0 t1 = some r → GV X (wR g) 6 0 0 S [(0, .ref (wA (wR g) 8 0)), (2, .int x2), (4, .int x4)] 104 [.int t0, .int t1] := by
  intro x4 t0 t1 h
  rw [f_X8_isFree_104] at h
  refine r_iadd (pc' := 105) h0 dX8_isFree_104 rfl ?_
  refine r_istore_n (pc' := 106) (L' := [(3, .int (t1 + t0)), (0, .ref (wA (wR g) 8 0)), (2, .int x2), (4, .int x4)]) h0 dX8_isFree_105 rfl (Nat.le_of_ble_eq_true rfl) rfl rfl ?_
  refine r_iinc (pc' := 109) (L' := [(4, .int (x4 + 1)), (3, .int (t1 + t0)), (0, .ref (wA (wR g) 8 0)), (2, .int x2)]) h0 3 dX8_isFree_106 rfl ki_1 (Nat.le_of_ble_eq_true rfl) rfl rfl ?_
  refine r_goto (pc' := 5) h0 dX8_isFree_109 rfl ?_
  refine r_sub (L' := [(0, .ref (wA (wR g) 8 0)), (2, .int x2), (3, .int (t1 + t0)), (4, .int (x4 + 1))]) [2, 3, 1, 0] rfl ?_
  exact kK5 (t1 + t0) (x4 + 1) h
theorem w_X8_isFree_103 {g : GR} {X : MX} {r : Int32}  (h0 : CX RX8 cX8_isFree 6 rm_X8_isFree X (wR g)) (fu : Nat) (x1 : Int32) (x2 : Int32) (S : Mem) (hE : EN (some .boolean) (some (.int r)) S X (wR g)) (K5 : Int32 → Int32 → Option Int32) (kK5 : ∀ (x3 : Int32) (x4 : Int32), K5 x3 x4 = some r → GV X (wR g) 6 0 0 S [(0, .ref (wA (wR g) 8 0)), (2, .int x2), (3, .int x3), (4, .int x4)] 5 []) : ∀ (x4 : Int32) (t0 : Int32), f_X8_isFree_103 fu K5 x1 x2 S x4 t0 = some r → GV X (wR g) 6 0 0 S [(0, .ref (wA (wR g) 8 0)), (2, .int x2), (4, .int x4)] 103 [.int t0] := by
  intro x4 t0 h
  rw [f_X8_isFree_103] at h
  refine r_iconst (pc' := 104) h0 dX8_isFree_103 ki_0 rfl ?_
  exact w_X8_isFree_104 h0 fu x1 x2 S hE K5 kK5 x4 0 t0 h
theorem w_X8_isFree_82 {g : GR} {X : MX} {r : Int32}  (h0 : CX RX8 cX8_isFree 6 rm_X8_isFree X (wR g)) (fu : Nat) (x1 : Int32) (x2 : Int32) (S : Mem) (hE : EN (some .boolean) (some (.int r)) S X (wR g)) (K5 : Int32 → Int32 → Option Int32) (kK5 : ∀ (x3 : Int32) (x4 : Int32), K5 x3 x4 = some r → GV X (wR g) 6 0 0 S [(0, .ref (wA (wR g) 8 0)), (2, .int x2), (3, .int x3), (4, .int x4)] 5 []) : ∀ (x4 : Int32) (x5 : Int32) (t0 : Int32), f_X8_isFree_82 fu K5 x1 x2 S x4 x5 t0 = some r → GV X (wR g) 6 0 0 S [(0, .ref (wA (wR g) 8 0)), (2, .int x2), (4, .int x4), (5, .int x5)] 82 [.int t0] := by
  intro x4 x5 t0 h
  rw [f_X8_isFree_82] at h
  refine r_iload_n (pc' := 83) h0 1 dX8_isFree_82 rfl rfl rfl ?_
  refine r_if_ne (pt := 103) (pf := 86) h0 dX8_isFree_83 rfl rfl h (fun c83 h => ?_) (fun c83 h => ?_)
  · refine r_sub (L' := [(0, .ref (wA (wR g) 8 0)), (2, .int x2), (4, .int x4)]) [0, 1, 2] rfl ?_
    exact w_X8_isFree_103 h0 fu x1 x2 S hE K5 kK5 x4 t0 h
  · refine r_iload (pc' := 88) h0 3 dX8_isFree_86 rfl rfl ?_
    refine r_if_le (pt := 103) (pf := 91) h0 dX8_isFree_88 rfl rfl h (fun c88 h => ?_) (fun c88 h => ?_)
    · refine r_sub (L' := [(0, .ref (wA (wR g) 8 0)), (2, .int x2), (4, .int x4)]) [0, 1, 2] rfl ?_
      exact w_X8_isFree_103 h0 fu x1 x2 S hE K5 kK5 x4 t0 h
    · refine r_aload_n (pc' := 92) h0 0 dX8_isFree_91 rfl rfl rfl ?_
      refine gf_X8_25 (pc' := 95) h0 (Nat.le_of_ble_eq_true rfl) dX8_isFree_92 rfl ?_
      refine r_iload (pc' := 97) h0 3 dX8_isFree_95 rfl rfl ?_
      refine r_iconst (pc' := 98) h0 dX8_isFree_97 ki_1 rfl ?_
      refine r_isub (pc' := 99) h0 dX8_isFree_98 rfl ?_
      refine r_ialdA (pc' := 100) h0 (ia_25 g) (Nat.le_of_ble_eq_true rfl) dX8_isFree_99 rfl h (fun h => ?_)
      refine r_goto (pc' := 104) h0 dX8_isFree_100 rfl ?_
      refine r_sub (L' := [(0, .ref (wA (wR g) 8 0)), (2, .int x2), (4, .int x4)]) [0, 1, 2] rfl ?_
      exact w_X8_isFree_104 h0 fu x1 x2 S hE K5 kK5 x4 (S.1 25 0 ((x5 - 1) : Int32).toNatClampNeg) t0 h
theorem w_X8_isFree_46 {g : GR} {X : MX} {r : Int32}  (h0 : CX RX8 cX8_isFree 6 rm_X8_isFree X (wR g)) (fu : Nat) (x1 : Int32) (x2 : Int32) (S : Mem) (hE : EN (some .boolean) (some (.int r)) S X (wR g)) (K5 : Int32 → Int32 → Option Int32) (kK5 : ∀ (x3 : Int32) (x4 : Int32), K5 x3 x4 = some r → GV X (wR g) 6 0 0 S [(0, .ref (wA (wR g) 8 0)), (2, .int x2), (3, .int x3), (4, .int x4)] 5 []) : ∀ (x3 : Int32) (x4 : Int32) (x5 : Int32) (t0 : Int32) (t1 : Int32), f_X8_isFree_46 fu K5 x1 x2 S x3 x4 x5 t0 t1 = some r → GV X (wR g) 6 0 0 S [(0, .ref (wA (wR g) 8 0)), (2, .int x2), (3, .int x3), (4, .int x4), (5, .int x5)] 46 [.int t0, .int t1, .ref (wA (wR g) 8 0)] := by
  intro x3 x4 x5 t0 t1 h
  rw [f_X8_isFree_46] at h
  refine r_iload_n (pc' := 47) h0 2 dX8_isFree_46 rfl rfl rfl ?_
  refine r_iconst (pc' := 48) h0 dX8_isFree_47 ki_0 rfl ?_
  obtain ⟨r48, h48, h⟩ := b1_some h
  refine go_V (k_X8_158 g) (st2 := [.int r48]) (pc' := 51) [.int t1, .int t0, .int x3, .int 0] [] h0 (Nat.le_of_ble_eq_true rfl) (c_X8_isGreenAt g fu t1 t0 x3 0 S h48) rfl rfl dX8_isFree_48 rfl (Nat.le_of_ble_eq_true rfl) ⟨rfl, rfl, Nat.le_of_ble_eq_true rfl, Nat.le_of_ble_eq_true rfl⟩ ⟨Nat.le_of_ble_eq_true rfl, Nat.le_of_ble_eq_true rfl⟩ rfl ?_
  refine r_if_ne (pt := 56) (pf := 54) h0 dX8_isFree_51 rfl rfl h (fun c51 h => ?_) (fun c51 h => ?_)
  · refine r_iload_n (pc' := 57) h0 2 dX8_isFree_56 rfl rfl rfl ?_
    refine r_iload_n (pc' := 58) h0 1 dX8_isFree_57 rfl rfl rfl ?_
    refine r_if_eq (pt := 82) (pf := 61) h0 dX8_isFree_58 rfl rfl h (fun c58 h => ?_) (fun c58 h => ?_)
    · refine r_sub (L' := [(0, .ref (wA (wR g) 8 0)), (2, .int x2), (4, .int x4), (5, .int x5)]) [0, 1, 3, 4] rfl ?_
      exact w_X8_isFree_82 h0 fu x1 x2 S hE K5 kK5 x4 x5 x3 h
    · refine r_iload (pc' := 63) h0 3 dX8_isFree_61 rfl rfl ?_
      refine r_aload_n (pc' := 64) h0 0 dX8_isFree_63 rfl rfl rfl ?_
      refine gf_X8_76 (pc' := 67) h0 (Nat.le_of_ble_eq_true rfl) dX8_isFree_64 rfl ?_
      refine r_iconst (pc' := 68) h0 dX8_isFree_67 ki_1 rfl ?_
      refine r_isub (pc' := 69) h0 dX8_isFree_68 rfl ?_
      refine r_ic_ge (pt := 82) (pf := 72) h0 dX8_isFree_69 rfl rfl h (fun c69 h => ?_) (fun c69 h => ?_)
      · refine r_sub (L' := [(0, .ref (wA (wR g) 8 0)), (2, .int x2), (4, .int x4), (5, .int x5)]) [0, 1, 3, 4] rfl ?_
        exact w_X8_isFree_82 h0 fu x1 x2 S hE K5 kK5 x4 x5 x3 h
      · refine r_aload_n (pc' := 73) h0 0 dX8_isFree_72 rfl rfl rfl ?_
        refine gf_X8_25 (pc' := 76) h0 (Nat.le_of_ble_eq_true rfl) dX8_isFree_73 rfl ?_
        refine r_iload (pc' := 78) h0 3 dX8_isFree_76 rfl rfl ?_
        refine r_ialdA (pc' := 79) h0 (ia_25 g) (Nat.le_of_ble_eq_true rfl) dX8_isFree_78 rfl h (fun h => ?_)
        refine r_goto (pc' := 104) h0 dX8_isFree_79 rfl ?_
        refine r_sub (L' := [(0, .ref (wA (wR g) 8 0)), (2, .int x2), (4, .int x4)]) [0, 1, 3] rfl ?_
        exact w_X8_isFree_104 h0 fu x1 x2 S hE K5 kK5 x4 (S.1 25 0 (x4 : Int32).toNatClampNeg) x3 h
  · refine r_iconst (pc' := 55) h0 dX8_isFree_54 ki_0 rfl ?_
    exact r_zretR h0 hE dX8_isFree_55 h
theorem w_X8_isFree_32 {g : GR} {X : MX} {r : Int32}  (h0 : CX RX8 cX8_isFree 6 rm_X8_isFree X (wR g)) (fu : Nat) (x1 : Int32) (x2 : Int32) (S : Mem) (hE : EN (some .boolean) (some (.int r)) S X (wR g)) (K5 : Int32 → Int32 → Option Int32) (kK5 : ∀ (x3 : Int32) (x4 : Int32), K5 x3 x4 = some r → GV X (wR g) 6 0 0 S [(0, .ref (wA (wR g) 8 0)), (2, .int x2), (3, .int x3), (4, .int x4)] 5 []) : ∀ (x3 : Int32) (x4 : Int32) (t0 : Int32), f_X8_isFree_32 fu K5 x1 x2 S x3 x4 t0 = some r → GV X (wR g) 6 0 0 S [(0, .ref (wA (wR g) 8 0)), (2, .int x2), (3, .int x3), (4, .int x4)] 32 [.int t0] := by
  intro x3 x4 t0 h
  rw [f_X8_isFree_32] at h
  refine r_istore (pc' := 34) (L' := [(5, .int t0), (0, .ref (wA (wR g) 8 0)), (2, .int x2), (3, .int x3), (4, .int x4)]) h0 dX8_isFree_32 (Nat.le_of_ble_eq_true rfl) rfl rfl ?_
  refine r_aload_n (pc' := 35) h0 1 dX8_isFree_34 rfl rfl rfl ?_
  refine r_iload (pc' := 37) h0 0 dX8_isFree_35 rfl rfl ?_
  refine r_iload_n (pc' := 38) h0 2 dX8_isFree_37 rfl rfl rfl ?_
  refine r_if_eq (pt := 45) (pf := 41) h0 dX8_isFree_38 rfl rfl h (fun c38 h => ?_) (fun c38 h => ?_)
  · refine r_iconst (pc' := 46) h0 dX8_isFree_45 ki_1 rfl ?_
    refine r_sub (L' := [(0, .ref (wA (wR g) 8 0)), (2, .int x2), (3, .int x3), (4, .int x4), (5, .int t0)]) [1, 2, 3, 4, 0] rfl ?_
    exact w_X8_isFree_46 h0 fu x1 x2 S hE K5 kK5 x3 x4 t0 1 t0 h
  · refine r_iconst (pc' := 42) h0 dX8_isFree_41 ki_0 rfl ?_
    refine r_goto (pc' := 46) h0 dX8_isFree_42 rfl ?_
    refine r_sub (L' := [(0, .ref (wA (wR g) 8 0)), (2, .int x2), (3, .int x3), (4, .int x4), (5, .int t0)]) [1, 2, 3, 4, 0] rfl ?_
    exact w_X8_isFree_46 h0 fu x1 x2 S hE K5 kK5 x3 x4 t0 0 t0 h
theorem w_X8_isFree_5 {g : GR} {X : MX} {r : Int32}  (h0 : CX RX8 cX8_isFree 6 rm_X8_isFree X (wR g)) (fu : Nat) (x1 : Int32) (x2 : Int32) (S : Mem) (hE : EN (some .boolean) (some (.int r)) S X (wR g)) : ∀ (n : Nat) (x3 : Int32) (x4 : Int32), f_X8_isFree_5 fu x1 x2 S n x3 x4 = some r → GV X (wR g) 6 0 0 S [(0, .ref (wA (wR g) 8 0)), (2, .int x2), (3, .int x3), (4, .int x4)] 5 [] := by
  intro n
  induction n with
  | zero =>
    intro x3 x4 h
    exact nomatch (show none = _ from h)
  | succ n ih =>
    intro x3 x4 h
    rw [f_X8_isFree_5] at h
    refine r_iload (pc' := 7) h0 3 dX8_isFree_5 rfl rfl ?_
    refine r_aload_n (pc' := 8) h0 0 dX8_isFree_7 rfl rfl rfl ?_
    refine gf_X8_76 (pc' := 11) h0 (Nat.le_of_ble_eq_true rfl) dX8_isFree_8 rfl ?_
    refine r_ic_ge (pt := 112) (pf := 14) h0 dX8_isFree_11 rfl rfl h (fun c11 h => ?_) (fun c11 h => ?_)
    · refine r_iconst (pc' := 113) h0 dX8_isFree_112 ki_1 rfl ?_
      exact r_zretR h0 hE dX8_isFree_113 h
    · refine r_iload_n (pc' := 15) h0 1 dX8_isFree_14 rfl rfl rfl ?_
      refine r_if_eq (pt := 23) (pf := 18) h0 dX8_isFree_15 rfl rfl h (fun c15 h => ?_) (fun c15 h => ?_)
      · refine r_aload_n (pc' := 24) h0 0 dX8_isFree_23 rfl rfl rfl ?_
        refine gf_X8_76 (pc' := 27) h0 (Nat.le_of_ble_eq_true rfl) dX8_isFree_24 rfl ?_
        refine r_iconst (pc' := 28) h0 dX8_isFree_27 ki_1 rfl ?_
        refine r_isub (pc' := 29) h0 dX8_isFree_28 rfl ?_
        refine r_iload (pc' := 31) h0 3 dX8_isFree_29 rfl rfl ?_
        refine r_isub (pc' := 32) h0 dX8_isFree_31 rfl ?_
        exact w_X8_isFree_32 h0 fu x1 x2 S hE (f_X8_isFree_5 fu x1 x2 S n) ih x3 x4 (((S.1 8 0 1) - 1) - x4) h
      · refine r_iload (pc' := 20) h0 3 dX8_isFree_18 rfl rfl ?_
        refine r_goto (pc' := 32) h0 dX8_isFree_20 rfl ?_
        exact w_X8_isFree_32 h0 fu x1 x2 S hE (f_X8_isFree_5 fu x1 x2 S n) ih x3 x4 x4 h
/-- the machine does what f_X8_isFree says -/
theorem c_X8_isFree (g : GR) (fu : Nat) (x1 : Int32) (x2 : Int32) (S : Mem) {r : Int32}  (h : f_X8_isFree fu x1 x2 S = some r) : ctN yX8_isFree cX8_isFree 6 (some .boolean) rm_X8_isFree (wR g) [.ref (wA (wR g) 8 0), .int x1, .int x2] S (some (.int r)) S := by
  refine ct_of (own := RX8) (L := [(0, .ref (wA (wR g) 8 0)), (1, .int x1), (2, .int x2)]) (by decide +kernel) rfl (Nat.le_of_ble_eq_true rfl) rfl (fun X h0 hE => ?_)
  rw [f_X8_isFree] at h
  refine r_iload_n (pc' := 1) h0 1 dX8_isFree_0 rfl rfl rfl ?_
  refine r_istore_n (pc' := 2) (L' := [(3, .int x1), (0, .ref (wA (wR g) 8 0)), (1, .int x1), (2, .int x2)]) h0 dX8_isFree_1 rfl (Nat.le_of_ble_eq_true rfl) rfl rfl ?_
  refine r_iconst (pc' := 3) h0 dX8_isFree_2 ki_0 rfl ?_
  refine r_istore (pc' := 5) (L' := [(4, .int 0), (3, .int x1), (0, .ref (wA (wR g) 8 0)), (1, .int x1), (2, .int x2)]) h0 dX8_isFree_3 (Nat.le_of_ble_eq_true rfl) rfl rfl ?_
  refine r_sub (L' := [(0, .ref (wA (wR g) 8 0)), (2, .int x2), (3, .int x1), (4, .int 0)]) [2, 4, 1, 0] rfl ?_
  exact w_X8_isFree_5 h0 fu x1 x2 S hE fu x1 0 h
theorem w_X8_bandOf_27 {g : GR} {X : MX} {r : Int32}  (h0 : CX RX8 cX8_bandOf 4 rm_X8_bandOf X (wR g)) (fu : Nat) (x1 : Int32) (S : Mem) (hE : EN (some .int) (some (.int r)) S X (wR g)) (K4 : Int32 → Int32 → Option Int32) (kK4 : ∀ (x2 : Int32) (x3 : Int32), K4 x2 x3 = some r → GV X (wR g) 4 0 0 S [(0, .ref (wA (wR g) 8 0)), (1, .int x1), (2, .int x2), (3, .int x3)] 4 []) : ∀ (x3 : Int32) (t0 : Int32) (t1 : Int32), f_X8_bandOf_27 fu K4 x1 S x3 t0 t1 = some r → GV X (wR g) 4 0 0 S [(0, .ref (wA (wR g) 8 0)), (1, .int x1), (3, .int x3)] 27 [.int t0, .int t1] := by
  intro x3 t0 t1 h
  rw [f_X8_bandOf_27] at h
  refine r_iadd (pc' := 28) h0 dX8_bandOf_27 rfl ?_
  refine r_istore_n (pc' := 29) (L' := [(2, .int (t1 + t0)), (0, .ref (wA (wR g) 8 0)), (1, .int x1), (3, .int x3)]) h0 dX8_bandOf_28 rfl (Nat.le_of_ble_eq_true rfl) rfl rfl ?_
  refine r_iinc (pc' := 32) (L' := [(3, .int (x3 + 1)), (2, .int (t1 + t0)), (0, .ref (wA (wR g) 8 0)), (1, .int x1)]) h0 3 dX8_bandOf_29 rfl ki_1 (Nat.le_of_ble_eq_true rfl) rfl rfl ?_
  refine r_goto (pc' := 4) h0 dX8_bandOf_32 rfl ?_
  refine r_sub (L' := [(0, .ref (wA (wR g) 8 0)), (1, .int x1), (2, .int (t1 + t0)), (3, .int (x3 + 1))]) [2, 3, 1, 0] rfl ?_
  exact kK4 (t1 + t0) (x3 + 1) h
theorem w_X8_bandOf_4 {g : GR} {X : MX} {r : Int32}  (h0 : CX RX8 cX8_bandOf 4 rm_X8_bandOf X (wR g)) (fu : Nat) (x1 : Int32) (S : Mem) (hE : EN (some .int) (some (.int r)) S X (wR g)) : ∀ (n : Nat) (x2 : Int32) (x3 : Int32), f_X8_bandOf_4 fu x1 S n x2 x3 = some r → GV X (wR g) 4 0 0 S [(0, .ref (wA (wR g) 8 0)), (1, .int x1), (2, .int x2), (3, .int x3)] 4 [] := by
  intro n
  induction n with
  | zero =>
    intro x2 x3 h
    exact nomatch (show none = _ from h)
  | succ n ih =>
    intro x2 x3 h
    rw [f_X8_bandOf_4] at h
    refine r_iload_n (pc' := 5) h0 3 dX8_bandOf_4 rfl rfl rfl ?_
    refine r_aload_n (pc' := 6) h0 0 dX8_bandOf_5 rfl rfl rfl ?_
    refine gf_X8_83 (pc' := 9) h0 (Nat.le_of_ble_eq_true rfl) dX8_bandOf_6 rfl ?_
    refine r_ic_ge (pt := 35) (pf := 12) h0 dX8_bandOf_9 rfl rfl h (fun c9 h => ?_) (fun c9 h => ?_)
    · refine r_iload_n (pc' := 36) h0 2 dX8_bandOf_35 rfl rfl rfl ?_
      exact r_iretR h0 hE dX8_bandOf_36 h
    · refine r_iload_n (pc' := 13) h0 2 dX8_bandOf_12 rfl rfl rfl ?_
      refine r_aload_n (pc' := 14) h0 0 dX8_bandOf_13 rfl rfl rfl ?_
      refine r_iload_n (pc' := 15) h0 3 dX8_bandOf_14 rfl rfl rfl ?_
      refine r_iload_n (pc' := 16) h0 1 dX8_bandOf_15 rfl rfl rfl ?_
      obtain ⟨r16, h16, h⟩ := b1_some h
      refine go_V (k_X8_162 g) (st2 := [.int r16, .int x2]) (pc' := 19) [.int x3, .int x1] [.int x2] h0 (Nat.le_of_ble_eq_true rfl) (c_X8_isFree g fu x3 x1 S h16) rfl rfl dX8_bandOf_16 rfl (Nat.le_of_ble_eq_true rfl) ⟨rfl, rfl, Nat.le_of_ble_eq_true rfl, Nat.le_of_ble_eq_true rfl⟩ ⟨Nat.le_of_ble_eq_true rfl, Nat.le_of_ble_eq_true rfl⟩ rfl ?_
      refine r_if_eq (pt := 26) (pf := 22) h0 dX8_bandOf_19 rfl rfl h (fun c19 h => ?_) (fun c19 h => ?_)
      · refine r_iconst (pc' := 27) h0 dX8_bandOf_26 ki_0 rfl ?_
        refine r_sub (L' := [(0, .ref (wA (wR g) 8 0)), (1, .int x1), (3, .int x3)]) [0, 1, 3] rfl ?_
        exact w_X8_bandOf_27 h0 fu x1 S hE (f_X8_bandOf_4 fu x1 S n) ih x3 0 x2 h
      · refine r_iconst (pc' := 23) h0 dX8_bandOf_22 ki_1 rfl ?_
        refine r_goto (pc' := 27) h0 dX8_bandOf_23 rfl ?_
        refine r_sub (L' := [(0, .ref (wA (wR g) 8 0)), (1, .int x1), (3, .int x3)]) [0, 1, 3] rfl ?_
        exact w_X8_bandOf_27 h0 fu x1 S hE (f_X8_bandOf_4 fu x1 S n) ih x3 1 x2 h
/-- the machine does what f_X8_bandOf says -/
theorem c_X8_bandOf (g : GR) (fu : Nat) (x1 : Int32) (S : Mem) {r : Int32}  (h : f_X8_bandOf fu x1 S = some r) : ctN yX8_bandOf cX8_bandOf 4 (some .int) rm_X8_bandOf (wR g) [.ref (wA (wR g) 8 0), .int x1] S (some (.int r)) S := by
  refine ct_of (own := RX8) (L := [(0, .ref (wA (wR g) 8 0)), (1, .int x1)]) (by decide +kernel) rfl (Nat.le_of_ble_eq_true rfl) rfl (fun X h0 hE => ?_)
  rw [f_X8_bandOf] at h
  refine r_iconst (pc' := 1) h0 dX8_bandOf_0 ki_0 rfl ?_
  refine r_istore_n (pc' := 2) (L' := [(2, .int 0), (0, .ref (wA (wR g) 8 0)), (1, .int x1)]) h0 dX8_bandOf_1 rfl (Nat.le_of_ble_eq_true rfl) rfl rfl ?_
  refine r_iconst (pc' := 3) h0 dX8_bandOf_2 ki_0 rfl ?_
  refine r_istore_n (pc' := 4) (L' := [(3, .int 0), (2, .int 0), (0, .ref (wA (wR g) 8 0)), (1, .int x1)]) h0 dX8_bandOf_3 rfl (Nat.le_of_ble_eq_true rfl) rfl rfl ?_
  refine r_sub (L' := [(0, .ref (wA (wR g) 8 0)), (1, .int x1), (2, .int 0), (3, .int 0)]) [2, 3, 1, 0] rfl ?_
  exact w_X8_bandOf_4 h0 fu x1 S hE fu 0 0 h
/-- the machine does what f_X8_bands says -/
theorem c_X8_bands (g : GR) (fu : Nat) (S : Mem) {r : Int32}  (h : f_X8_bands fu S = some r) : ctN yX8_bands cX8_bands 1 (some .int) rm_X8_bands (wR g) [.ref (wA (wR g) 8 0)] S (some (.int r)) S := by
  refine ct_of (own := RX8) (L := [(0, .ref (wA (wR g) 8 0))]) (by decide +kernel) rfl (Nat.le_of_ble_eq_true rfl) rfl (fun X h0 hE => ?_)
  rw [f_X8_bands] at h
  refine r_aload_n (pc' := 1) h0 0 dX8_bands_0 rfl rfl rfl ?_
  refine r_iconst (pc' := 2) h0 dX8_bands_1 ki_1 rfl ?_
  obtain ⟨r2, h2, h⟩ := b1_some h
  refine go_V (k_X8_166 g) (st2 := [.int r2]) (pc' := 5) [.int 1] [] h0 (Nat.le_of_ble_eq_true rfl) (c_X8_bandOf g fu 1 S h2) rfl rfl dX8_bands_2 rfl (Nat.le_of_ble_eq_true rfl) ⟨rfl, rfl, Nat.le_of_ble_eq_true rfl, Nat.le_of_ble_eq_true rfl⟩ ⟨Nat.le_of_ble_eq_true rfl, Nat.le_of_ble_eq_true rfl⟩ rfl ?_
  refine r_aload_n (pc' := 6) h0 0 dX8_bands_5 rfl rfl rfl ?_
  refine r_iconst (pc' := 7) h0 dX8_bands_6 ki_0 rfl ?_
  obtain ⟨r7, h7, h⟩ := b1_some h
  refine go_V (k_X8_166 g) (st2 := [.int r7, .int r2]) (pc' := 10) [.int 0] [.int r2] h0 (Nat.le_of_ble_eq_true rfl) (c_X8_bandOf g fu 0 S h7) rfl rfl dX8_bands_7 rfl (Nat.le_of_ble_eq_true rfl) ⟨rfl, rfl, Nat.le_of_ble_eq_true rfl, Nat.le_of_ble_eq_true rfl⟩ ⟨Nat.le_of_ble_eq_true rfl, Nat.le_of_ble_eq_true rfl⟩ rfl ?_
  refine r_iadd (pc' := 11) h0 dX8_bands_10 rfl ?_
  exact r_iretR h0 hE dX8_bands_11 h
theorem w_X8_betters_91 {g : GR} {X : MX} {r : Int32} {S' : Mem} (h0 : CX RX8 cX8_betters 7 rm_X8_betters X (wR g)) (fu : Nat) (x1 : Int32) (hE : EN (some .boolean) (some (.int r)) S' X (wR g)) : ∀ (t0 : Int32) (S : Mem), f_X8_betters_91 fu x1 t0 S = some (r, S') → GV X (wR g) 7 0 0 S [] 91 [.int t0] := by
  intro t0 S h
  rw [f_X8_betters_91] at h
  exact r_zret h0 hE dX8_betters_91 h
theorem w_X8_betters_65 {g : GR} {X : MX} {r : Int32} {S' : Mem} (h0 : CX RX8 cX8_betters 7 rm_X8_betters X (wR g)) (fu : Nat) (x1 : Int32) (hE : EN (some .boolean) (some (.int r)) S' X (wR g)) (K15 : Int32 → Int32 → Int32 → Int32 → Mem → Option (Int32 × Mem)) (kK15 : ∀ (x2 : Int32) (x3 : Int32) (x4 : Int32) (x5 : Int32) (S : Mem), K15 x2 x3 x4 x5 S = some (r, S') → GV X (wR g) 7 0 0 S [(0, .ref (wA (wR g) 8 0)), (1, .int x1), (2, .int x2), (3, .int x3), (4, .int x4), (5, .int x5)] 15 []) : ∀ (x2 : Int32) (x4 : Int32) (x5 : Int32) (t0 : Int32) (S : Mem), f_X8_betters_65 fu K15 x1 x2 x4 x5 t0 S = some (r, S') → GV X (wR g) 7 0 0 S [(0, .ref (wA (wR g) 8 0)), (1, .int x1), (2, .int x2), (4, .int x4), (5, .int x5)] 65 [.int t0] := by
  intro x2 x4 x5 t0 S h
  rw [f_X8_betters_65] at h
  refine r_istore_n (pc' := 66) (L' := [(3, .int t0), (0, .ref (wA (wR g) 8 0)), (1, .int x1), (2, .int x2), (4, .int x4), (5, .int x5)]) h0 dX8_betters_65 rfl (Nat.le_of_ble_eq_true rfl) rfl rfl ?_
  refine r_iinc (pc' := 69) (L' := [(5, .int (x5 + 1)), (3, .int t0), (0, .ref (wA (wR g) 8 0)), (1, .int x1), (2, .int x2), (4, .int x4)]) h0 5 dX8_betters_66 rfl ki_1 (Nat.le_of_ble_eq_true rfl) rfl rfl ?_
  refine r_goto (pc' := 15) h0 dX8_betters_69 rfl ?_
  refine r_sub (L' := [(0, .ref (wA (wR g) 8 0)), (1, .int x1), (2, .int x2), (3, .int t0), (4, .int x4), (5, .int (x5 + 1))]) [2, 3, 4, 1, 5, 0] rfl ?_
  exact kK15 x2 t0 x4 (x5 + 1) S h
theorem w_X8_betters_51 {g : GR} {X : MX} {r : Int32} {S' : Mem} (h0 : CX RX8 cX8_betters 7 rm_X8_betters X (wR g)) (fu : Nat) (x1 : Int32) (hE : EN (some .boolean) (some (.int r)) S' X (wR g)) (K15 : Int32 → Int32 → Int32 → Int32 → Mem → Option (Int32 × Mem)) (kK15 : ∀ (x2 : Int32) (x3 : Int32) (x4 : Int32) (x5 : Int32) (S : Mem), K15 x2 x3 x4 x5 S = some (r, S') → GV X (wR g) 7 0 0 S [(0, .ref (wA (wR g) 8 0)), (1, .int x1), (2, .int x2), (3, .int x3), (4, .int x4), (5, .int x5)] 15 []) : ∀ (x2 : Int32) (x3 : Int32) (x5 : Int32) (x6 : Int32) (t0 : Int32) (S : Mem), f_X8_betters_51 fu K15 x1 x2 x3 x5 x6 t0 S = some (r, S') → GV X (wR g) 7 0 0 S [(0, .ref (wA (wR g) 8 0)), (1, .int x1), (2, .int x2), (3, .int x3), (5, .int x5), (6, .int x6)] 51 [.int t0] := by
  intro x2 x3 x5 x6 t0 S h
  rw [f_X8_betters_51] at h
  refine r_istore (pc' := 53) (L' := [(4, .int t0), (0, .ref (wA (wR g) 8 0)), (1, .int x1), (2, .int x2), (3, .int x3), (5, .int x5), (6, .int x6)]) h0 dX8_betters_51 (Nat.le_of_ble_eq_true rfl) rfl rfl ?_
  refine r_iload (pc' := 55) h0 6 dX8_betters_53 rfl rfl ?_
  refine r_iload_n (pc' := 56) h0 4 dX8_betters_55 rfl rfl rfl ?_
  refine r_ic_le (pt := 64) (pf := 59) h0 dX8_betters_56 rfl rfl h (fun c56 h => ?_) (fun c56 h => ?_)
  · refine r_iload_n (pc' := 65) h0 4 dX8_betters_64 rfl rfl rfl ?_
    refine r_sub (L' := [(0, .ref (wA (wR g) 8 0)), (1, .int x1), (2, .int x2), (4, .int t0), (5, .int x5)]) [1, 2, 3, 0, 5] rfl ?_
    exact w_X8_betters_65 h0 fu x1 hE K15 kK15 x2 t0 x5 x3 S h
  · refine r_iload (pc' := 61) h0 6 dX8_betters_59 rfl rfl ?_
    refine r_goto (pc' := 65) h0 dX8_betters_61 rfl ?_
    refine r_sub (L' := [(0, .ref (wA (wR g) 8 0)), (1, .int x1), (2, .int x2), (4, .int t0), (5, .int x5)]) [1, 2, 3, 0, 5] rfl ?_
    exact w_X8_betters_65 h0 fu x1 hE K15 kK15 x2 t0 x5 x6 S h
theorem w_X8_betters_15 {g : GR} {X : MX} {r : Int32} {S' : Mem} (h0 : CX RX8 cX8_betters 7 rm_X8_betters X (wR g)) (fu : Nat) (x1 : Int32) (hE : EN (some .boolean) (some (.int r)) S' X (wR g)) : ∀ (n : Nat) (x2 : Int32) (x3 : Int32) (x4 : Int32) (x5 : Int32) (S : Mem), f_X8_betters_15 fu x1 n x2 x3 x4 x5 S = some (r, S') → GV X (wR g) 7 0 0 S [(0, .ref (wA (wR g) 8 0)), (1, .int x1), (2, .int x2), (3, .int x3), (4, .int x4), (5, .int x5)] 15 [] := by
  intro n
  induction n with
  | zero =>
    intro x2 x3 x4 x5 S h
    exact nomatch (show none = _ from h)
  | succ n ih =>
    intro x2 x3 x4 x5 S h
    rw [f_X8_betters_15] at h
    refine r_iload (pc' := 17) h0 5 dX8_betters_15 rfl rfl ?_
    refine r_aload_n (pc' := 18) h0 0 dX8_betters_17 rfl rfl rfl ?_
    refine gf_X8_83 (pc' := 21) h0 (Nat.le_of_ble_eq_true rfl) dX8_betters_18 rfl ?_
    refine r_ic_ge (pt := 72) (pf := 24) h0 dX8_betters_21 rfl rfl h (fun c21 h => ?_) (fun c21 h => ?_)
    · refine r_aload_n (pc' := 73) h0 0 dX8_betters_72 rfl rfl rfl ?_
      refine gf_X8_22 (pc' := 76) h0 (Nat.le_of_ble_eq_true rfl) dX8_betters_73 rfl ?_
      refine r_iload_n (pc' := 77) h0 1 dX8_betters_76 rfl rfl rfl ?_
      refine r_iload (pc' := 79) h0 4 dX8_betters_77 rfl rfl ?_
      refine r_iastA (pc' := 80) h0 (ia_24 g) (Nat.le_of_ble_eq_true rfl) dX8_betters_79 rfl h (fun h => ?_)
      refine r_iload (pc' := 82) h0 4 dX8_betters_80 rfl rfl ?_
      refine r_iload_n (pc' := 83) h0 2 dX8_betters_82 rfl rfl rfl ?_
      refine r_ic_eq (pt := 90) (pf := 86) h0 dX8_betters_83 rfl rfl h (fun c83 h => ?_) (fun c83 h => ?_)
      · refine r_iconst (pc' := 91) h0 dX8_betters_90 ki_0 rfl ?_
        refine r_sub (L' := []) [] rfl ?_
        exact w_X8_betters_91 h0 fu x1 hE 0 (wI S 24 0 (x1 : Int32).toNatClampNeg x4) h
      · refine r_iconst (pc' := 87) h0 dX8_betters_86 ki_1 rfl ?_
        refine r_goto (pc' := 91) h0 dX8_betters_87 rfl ?_
        refine r_sub (L' := []) [] rfl ?_
        exact w_X8_betters_91 h0 fu x1 hE 1 (wI S 24 0 (x1 : Int32).toNatClampNeg x4) h
    · refine r_aload_n (pc' := 25) h0 0 dX8_betters_24 rfl rfl rfl ?_
      refine gf_X8_22 (pc' := 28) h0 (Nat.le_of_ble_eq_true rfl) dX8_betters_25 rfl ?_
      refine r_iload_n (pc' := 29) h0 1 dX8_betters_28 rfl rfl rfl ?_
      refine r_iload (pc' := 31) h0 5 dX8_betters_29 rfl rfl ?_
      refine r_iastA (pc' := 32) h0 (ia_24 g) (Nat.le_of_ble_eq_true rfl) dX8_betters_31 rfl h (fun h => ?_)
      refine r_aload_n (pc' := 33) h0 0 dX8_betters_32 rfl rfl rfl ?_
      obtain ⟨r33, h33, h⟩ := b1_some h
      refine go_V (k_X8_170 g) (st2 := [.int r33]) (pc' := 36) [] [] h0 (Nat.le_of_ble_eq_true rfl) (c_X8_bands g fu (wI S 24 0 (x1 : Int32).toNatClampNeg x5) h33) rfl rfl dX8_betters_33 rfl (Nat.le_of_ble_eq_true rfl) ⟨rfl, rfl, Nat.le_of_ble_eq_true rfl, Nat.le_of_ble_eq_true rfl⟩ ⟨Nat.le_of_ble_eq_true rfl, Nat.le_of_ble_eq_true rfl⟩ rfl ?_
      refine r_istore (pc' := 38) (L' := [(6, .int r33), (0, .ref (wA (wR g) 8 0)), (1, .int x1), (2, .int x2), (3, .int x3), (4, .int x4), (5, .int x5)]) h0 dX8_betters_36 (Nat.le_of_ble_eq_true rfl) rfl rfl ?_
      refine r_iload (pc' := 40) h0 0 dX8_betters_38 rfl rfl ?_
      refine r_iload_n (pc' := 41) h0 4 dX8_betters_40 rfl rfl rfl ?_
      refine r_ic_le (pt := 49) (pf := 44) h0 dX8_betters_41 rfl rfl h (fun c41 h => ?_) (fun c41 h => ?_)
      · refine r_iload (pc' := 51) h0 5 dX8_betters_49 rfl rfl ?_
        refine r_sub (L' := [(0, .ref (wA (wR g) 8 0)), (1, .int x1), (2, .int x2), (3, .int x3), (5, .int x5), (6, .int r33)]) [1, 2, 3, 4, 6, 0] rfl ?_
        exact w_X8_betters_51 h0 fu x1 hE (f_X8_betters_15 fu x1 n) ih x2 x3 x5 r33 x4 (wI S 24 0 (x1 : Int32).toNatClampNeg x5) h
      · refine r_iload (pc' := 46) h0 6 dX8_betters_44 rfl rfl ?_
        refine r_goto (pc' := 51) h0 dX8_betters_46 rfl ?_
        refine r_sub (L' := [(0, .ref (wA (wR g) 8 0)), (1, .int x1), (2, .int x2), (3, .int x3), (5, .int x5), (6, .int r33)]) [1, 2, 3, 4, 6, 0] rfl ?_
        exact w_X8_betters_51 h0 fu x1 hE (f_X8_betters_15 fu x1 n) ih x2 x3 x5 r33 x5 (wI S 24 0 (x1 : Int32).toNatClampNeg x5) h
/-- the machine does what f_X8_betters says -/
theorem c_X8_betters (g : GR) (fu : Nat) (x1 : Int32) (S : Mem) {r : Int32} {S' : Mem} (h : f_X8_betters fu x1 S = some (r, S')) : ctN yX8_betters cX8_betters 7 (some .boolean) rm_X8_betters (wR g) [.ref (wA (wR g) 8 0), .int x1] S (some (.int r)) S' := by
  refine ct_of (own := RX8) (L := [(0, .ref (wA (wR g) 8 0)), (1, .int x1)]) (by decide +kernel) rfl (Nat.le_of_ble_eq_true rfl) rfl (fun X h0 hE => ?_)
  rw [f_X8_betters] at h
  refine r_aload_n (pc' := 1) h0 0 dX8_betters_0 rfl rfl rfl ?_
  refine gf_X8_22 (pc' := 4) h0 (Nat.le_of_ble_eq_true rfl) dX8_betters_1 rfl ?_
  refine r_iload_n (pc' := 5) h0 1 dX8_betters_4 rfl rfl rfl ?_
  refine r_ialdA (pc' := 6) h0 (ia_24 g) (Nat.le_of_ble_eq_true rfl) dX8_betters_5 rfl h (fun h => ?_)
  refine r_istore_n (pc' := 7) (L' := [(2, .int (S.1 24 0 (x1 : Int32).toNatClampNeg)), (0, .ref (wA (wR g) 8 0)), (1, .int x1)]) h0 dX8_betters_6 rfl (Nat.le_of_ble_eq_true rfl) rfl rfl ?_
  refine r_iconst (pc' := 8) h0 dX8_betters_7 ki_m1 rfl ?_
  refine r_istore_n (pc' := 9) (L' := [(3, .int (-1)), (2, .int (S.1 24 0 (x1 : Int32).toNatClampNeg)), (0, .ref (wA (wR g) 8 0)), (1, .int x1)]) h0 dX8_betters_8 rfl (Nat.le_of_ble_eq_true rfl) rfl rfl ?_
  refine r_iconst (pc' := 10) h0 dX8_betters_9 ki_0 rfl ?_
  refine r_istore (pc' := 12) (L' := [(4, .int 0), (3, .int (-1)), (2, .int (S.1 24 0 (x1 : Int32).toNatClampNeg)), (0, .ref (wA (wR g) 8 0)), (1, .int x1)]) h0 dX8_betters_10 (Nat.le_of_ble_eq_true rfl) rfl rfl ?_
  refine r_iconst (pc' := 13) h0 dX8_betters_12 ki_0 rfl ?_
  refine r_istore (pc' := 15) (L' := [(5, .int 0), (4, .int 0), (3, .int (-1)), (2, .int (S.1 24 0 (x1 : Int32).toNatClampNeg)), (0, .ref (wA (wR g) 8 0)), (1, .int x1)]) h0 dX8_betters_13 (Nat.le_of_ble_eq_true rfl) rfl rfl ?_
  refine r_sub (L' := [(0, .ref (wA (wR g) 8 0)), (1, .int x1), (2, .int (S.1 24 0 (x1 : Int32).toNatClampNeg)), (3, .int (-1)), (4, .int 0), (5, .int 0)]) [4, 5, 3, 2, 1, 0] rfl ?_
  exact w_X8_betters_15 h0 fu x1 hE fu (S.1 24 0 (x1 : Int32).toNatClampNeg) (-1) 0 0 S h
theorem w_X8_improve_84 {g : GR} {X : MX} {r : Int32} {S' : Mem} (h0 : CX RX8 cX8_improve 4 rm_X8_improve X (wR g)) (fu : Nat) (hE : EN (some .int) (some (.int r)) S' X (wR g)) : ∀ (S : Mem), f_X8_improve_84 fu S = some (r, S') → GV X (wR g) 4 0 0 S [(0, .ref (wA (wR g) 8 0))] 84 [] := by
  intro S h
  rw [f_X8_improve_84] at h
  refine r_aload_n (pc' := 85) h0 0 dX8_improve_84 rfl rfl rfl ?_
  obtain ⟨r85, h85, h⟩ := b1_some h
  refine go_V (k_X8_170 g) (st2 := [.int r85]) (pc' := 88) [] [] h0 (Nat.le_of_ble_eq_true rfl) (c_X8_bands g fu S h85) rfl rfl dX8_improve_85 rfl (Nat.le_of_ble_eq_true rfl) ⟨rfl, rfl, Nat.le_of_ble_eq_true rfl, Nat.le_of_ble_eq_true rfl⟩ ⟨Nat.le_of_ble_eq_true rfl, Nat.le_of_ble_eq_true rfl⟩ rfl ?_
  exact r_iret h0 hE dX8_improve_88 h
theorem w_X8_improve_71 {g : GR} {X : MX} {r : Int32} {S' : Mem} (h0 : CX RX8 cX8_improve 4 rm_X8_improve X (wR g)) (fu : Nat) (hE : EN (some .int) (some (.int r)) S' X (wR g)) (K46 : Int32 → Int32 → Int32 → Mem → Option (Int32 × Mem)) (kK46 : ∀ (x1 : Int32) (x2 : Int32) (x3 : Int32) (S : Mem), K46 x1 x2 x3 S = some (r, S') → GV X (wR g) 4 0 0 S [(0, .ref (wA (wR g) 8 0)), (1, .int x1), (2, .int x2), (3, .int x3)] 46 []) : ∀ (x2 : Int32) (x3 : Int32) (t0 : Int32) (S : Mem), f_X8_improve_71 fu K46 x2 x3 t0 S = some (r, S') → GV X (wR g) 4 0 0 S [(0, .ref (wA (wR g) 8 0)), (2, .int x2), (3, .int x3)] 71 [.int t0] := by
  intro x2 x3 t0 S h
  rw [f_X8_improve_71] at h
  refine r_istore_n (pc' := 72) (L' := [(1, .int t0), (0, .ref (wA (wR g) 8 0)), (2, .int x2), (3, .int x3)]) h0 dX8_improve_71 rfl (Nat.le_of_ble_eq_true rfl) rfl rfl ?_
  refine r_iinc (pc' := 75) (L' := [(3, .int (x3 + 1)), (1, .int t0), (0, .ref (wA (wR g) 8 0)), (2, .int x2)]) h0 3 dX8_improve_72 rfl ki_1 (Nat.le_of_ble_eq_true rfl) rfl rfl ?_
  refine r_goto (pc' := 46) h0 dX8_improve_75 rfl ?_
  refine r_sub (L' := [(0, .ref (wA (wR g) 8 0)), (1, .int t0), (2, .int x2), (3, .int (x3 + 1))]) [2, 1, 3, 0] rfl ?_
  exact kK46 t0 x2 (x3 + 1) S h
theorem w_X8_improve_66 {g : GR} {X : MX} {r : Int32} {S' : Mem} (h0 : CX RX8 cX8_improve 4 rm_X8_improve X (wR g)) (fu : Nat) (hE : EN (some .int) (some (.int r)) S' X (wR g)) (K46 : Int32 → Int32 → Int32 → Mem → Option (Int32 × Mem)) (kK46 : ∀ (x1 : Int32) (x2 : Int32) (x3 : Int32) (S : Mem), K46 x1 x2 x3 S = some (r, S') → GV X (wR g) 4 0 0 S [(0, .ref (wA (wR g) 8 0)), (1, .int x1), (2, .int x2), (3, .int x3)] 46 []) : ∀ (x2 : Int32) (x3 : Int32) (S : Mem), f_X8_improve_66 fu K46 x2 x3 S = some (r, S') → GV X (wR g) 4 0 0 S [(0, .ref (wA (wR g) 8 0)), (2, .int x2), (3, .int x3)] 66 [] := by
  intro x2 x3 S h
  rw [f_X8_improve_66] at h
  refine r_iconst (pc' := 67) h0 dX8_improve_66 ki_1 rfl ?_
  refine r_goto (pc' := 71) h0 dX8_improve_67 rfl ?_
  exact w_X8_improve_71 h0 fu hE K46 kK46 x2 x3 1 S h
theorem w_X8_improve_46 {g : GR} {X : MX} {r : Int32} {S' : Mem} (h0 : CX RX8 cX8_improve 4 rm_X8_improve X (wR g)) (fu : Nat) (hE : EN (some .int) (some (.int r)) S' X (wR g)) (K32 : Int32 → Int32 → Mem → Option (Int32 × Mem)) (kK32 : ∀ (x1 : Int32) (x2 : Int32) (S : Mem), K32 x1 x2 S = some (r, S') → GV X (wR g) 4 0 0 S [(0, .ref (wA (wR g) 8 0)), (1, .int x1), (2, .int x2)] 32 []) : ∀ (n : Nat) (x1 : Int32) (x2 : Int32) (x3 : Int32) (S : Mem), f_X8_improve_46 fu K32 n x1 x2 x3 S = some (r, S') → GV X (wR g) 4 0 0 S [(0, .ref (wA (wR g) 8 0)), (1, .int x1), (2, .int x2), (3, .int x3)] 46 [] := by
  intro n
  induction n with
  | zero =>
    intro x1 x2 x3 S h
    exact nomatch (show none = _ from h)
  | succ n ih =>
    intro x1 x2 x3 S h
    rw [f_X8_improve_46] at h
    refine r_iload_n (pc' := 47) h0 3 dX8_improve_46 rfl rfl rfl ?_
    refine r_aload_n (pc' := 48) h0 0 dX8_improve_47 rfl rfl rfl ?_
    refine gf_X8_76 (pc' := 51) h0 (Nat.le_of_ble_eq_true rfl) dX8_improve_48 rfl ?_
    refine r_ic_ge (pt := 78) (pf := 54) h0 dX8_improve_51 rfl rfl h (fun c51 h => ?_) (fun c51 h => ?_)
    · refine r_iinc (pc' := 81) (L' := [(2, .int (x2 + 1)), (0, .ref (wA (wR g) 8 0)), (1, .int x1), (3, .int x3)]) h0 2 dX8_improve_78 rfl ki_1 (Nat.le_of_ble_eq_true rfl) rfl rfl ?_
      refine r_goto (pc' := 32) h0 dX8_improve_81 rfl ?_
      refine r_sub (L' := [(0, .ref (wA (wR g) 8 0)), (1, .int x1), (2, .int (x2 + 1))]) [1, 2, 0] rfl ?_
      exact kK32 x1 (x2 + 1) S h
    · refine r_aload_n (pc' := 55) h0 0 dX8_improve_54 rfl rfl rfl ?_
      refine r_iload_n (pc' := 56) h0 3 dX8_improve_55 rfl rfl rfl ?_
      obtain ⟨r56, S56, h56, h⟩ := b2_some h
      refine go_V (k_X8_178 g) (st2 := [.int r56]) (pc' := 59) [.int x3] [] h0 (Nat.le_of_ble_eq_true rfl) (c_X8_betters g fu x3 S h56) rfl rfl dX8_improve_56 rfl (Nat.le_of_ble_eq_true rfl) ⟨rfl, rfl, Nat.le_of_ble_eq_true rfl, Nat.le_of_ble_eq_true rfl⟩ ⟨Nat.le_of_ble_eq_true rfl, Nat.le_of_ble_eq_true rfl⟩ rfl ?_
      refine r_if_ne (pt := 66) (pf := 62) h0 dX8_improve_59 rfl rfl h (fun c59 h => ?_) (fun c59 h => ?_)
      · refine r_sub (L' := [(0, .ref (wA (wR g) 8 0)), (2, .int x2), (3, .int x3)]) [0, 2, 3] rfl ?_
        exact w_X8_improve_66 h0 fu hE (f_X8_improve_46 fu K32 n) ih x2 x3 S56 h
      · refine r_iload_n (pc' := 63) h0 1 dX8_improve_62 rfl rfl rfl ?_
        refine r_if_eq (pt := 70) (pf := 66) h0 dX8_improve_63 rfl rfl h (fun c63 h => ?_) (fun c63 h => ?_)
        · refine r_iconst (pc' := 71) h0 dX8_improve_70 ki_0 rfl ?_
          refine r_sub (L' := [(0, .ref (wA (wR g) 8 0)), (2, .int x2), (3, .int x3)]) [0, 2, 3] rfl ?_
          exact w_X8_improve_71 h0 fu hE (f_X8_improve_46 fu K32 n) ih x2 x3 0 S56 h
        · refine r_sub (L' := [(0, .ref (wA (wR g) 8 0)), (2, .int x2), (3, .int x3)]) [0, 2, 3] rfl ?_
          exact w_X8_improve_66 h0 fu hE (f_X8_improve_46 fu K32 n) ih x2 x3 S56 h
theorem w_X8_improve_32 {g : GR} {X : MX} {r : Int32} {S' : Mem} (h0 : CX RX8 cX8_improve 4 rm_X8_improve X (wR g)) (fu : Nat) (hE : EN (some .int) (some (.int r)) S' X (wR g)) : ∀ (n : Nat) (x1 : Int32) (x2 : Int32) (S : Mem), f_X8_improve_32 fu n x1 x2 S = some (r, S') → GV X (wR g) 4 0 0 S [(0, .ref (wA (wR g) 8 0)), (1, .int x1), (2, .int x2)] 32 [] := by
  intro n
  induction n with
  | zero =>
    intro x1 x2 S h
    exact nomatch (show none = _ from h)
  | succ n ih =>
    intro x1 x2 S h
    rw [f_X8_improve_32] at h
    refine r_iload_n (pc' := 33) h0 2 dX8_improve_32 rfl rfl rfl ?_
    refine r_bipush (pc' := 35) h0 dX8_improve_33 kb_10 rfl ?_
    refine r_ic_ge (pt := 84) (pf := 38) h0 dX8_improve_35 rfl rfl h (fun c35 h => ?_) (fun c35 h => ?_)
    · refine r_sub (L' := [(0, .ref (wA (wR g) 8 0))]) [0] rfl ?_
      exact w_X8_improve_84 h0 fu hE S h
    · refine r_iload_n (pc' := 39) h0 1 dX8_improve_38 rfl rfl rfl ?_
      refine r_if_eq (pt := 84) (pf := 42) h0 dX8_improve_39 rfl rfl h (fun c39 h => ?_) (fun c39 h => ?_)
      · refine r_sub (L' := [(0, .ref (wA (wR g) 8 0))]) [0] rfl ?_
        exact w_X8_improve_84 h0 fu hE S h
      · refine r_iconst (pc' := 43) h0 dX8_improve_42 ki_0 rfl ?_
        refine r_istore_n (pc' := 44) (L' := [(1, .int 0), (0, .ref (wA (wR g) 8 0)), (2, .int x2)]) h0 dX8_improve_43 rfl (Nat.le_of_ble_eq_true rfl) rfl rfl ?_
        refine r_iconst (pc' := 45) h0 dX8_improve_44 ki_1 rfl ?_
        refine r_istore_n (pc' := 46) (L' := [(3, .int 1), (1, .int 0), (0, .ref (wA (wR g) 8 0)), (2, .int x2)]) h0 dX8_improve_45 rfl (Nat.le_of_ble_eq_true rfl) rfl rfl ?_
        refine r_sub (L' := [(0, .ref (wA (wR g) 8 0)), (1, .int 0), (2, .int x2), (3, .int 1)]) [2, 1, 3, 0] rfl ?_
        exact w_X8_improve_46 h0 fu hE (f_X8_improve_32 fu n) ih fu 0 x2 1 S h
theorem w_X8_improve_20 {g : GR} {X : MX} {r : Int32} {S' : Mem} (h0 : CX RX8 cX8_improve 4 rm_X8_improve X (wR g)) (fu : Nat) (hE : EN (some .int) (some (.int r)) S' X (wR g)) : ∀ (t0 : Int32) (S : Mem), f_X8_improve_20 fu t0 S = some (r, S') → GV X (wR g) 4 0 0 S [(0, .ref (wA (wR g) 8 0))] 20 [.int t0, .ref (wA (wR g) 8 0)] := by
  intro t0 S h
  rw [f_X8_improve_20] at h
  obtain ⟨r20, S20, h20, h⟩ := b2_some h
  refine go_V (k_X8_102 g) (st2 := [.int r20]) (pc' := 23) [.int t0] [] h0 (Nat.le_of_ble_eq_true rfl) (c_X8_holds g fu t0 S h20) rfl rfl dX8_improve_20 rfl (Nat.le_of_ble_eq_true rfl) ⟨rfl, rfl, Nat.le_of_ble_eq_true rfl, Nat.le_of_ble_eq_true rfl⟩ ⟨Nat.le_of_ble_eq_true rfl, Nat.le_of_ble_eq_true rfl⟩ rfl ?_
  refine r_if_ne (pt := 28) (pf := 26) h0 dX8_improve_23 rfl rfl h (fun c23 h => ?_) (fun c23 h => ?_)
  · refine r_iconst (pc' := 29) h0 dX8_improve_28 ki_1 rfl ?_
    refine r_istore_n (pc' := 30) (L' := [(1, .int 1), (0, .ref (wA (wR g) 8 0))]) h0 dX8_improve_29 rfl (Nat.le_of_ble_eq_true rfl) rfl rfl ?_
    refine r_iconst (pc' := 31) h0 dX8_improve_30 ki_0 rfl ?_
    refine r_istore_n (pc' := 32) (L' := [(2, .int 0), (1, .int 1), (0, .ref (wA (wR g) 8 0))]) h0 dX8_improve_31 rfl (Nat.le_of_ble_eq_true rfl) rfl rfl ?_
    refine r_sub (L' := [(0, .ref (wA (wR g) 8 0)), (1, .int 1), (2, .int 0)]) [2, 1, 0] rfl ?_
    exact w_X8_improve_32 h0 fu hE fu 1 0 S20 h
  · refine r_iconst (pc' := 27) h0 dX8_improve_26 ki_0 rfl ?_
    exact r_iret h0 hE dX8_improve_27 h
theorem w_X8_improve_15 {g : GR} {X : MX} {r : Int32} {S' : Mem} (h0 : CX RX8 cX8_improve 4 rm_X8_improve X (wR g)) (fu : Nat) (hE : EN (some .int) (some (.int r)) S' X (wR g)) : ∀ (S : Mem), f_X8_improve_15 fu S = some (r, S') → GV X (wR g) 4 0 0 S [(0, .ref (wA (wR g) 8 0))] 15 [.ref (wA (wR g) 8 0)] := by
  intro S h
  rw [f_X8_improve_15] at h
  refine r_iconst (pc' := 16) h0 dX8_improve_15 ki_1 rfl ?_
  refine r_goto (pc' := 20) h0 dX8_improve_16 rfl ?_
  exact w_X8_improve_20 h0 fu hE 1 S h
/-- the machine does what f_X8_improve says -/
theorem c_X8_improve (g : GR) (fu : Nat) (S : Mem) {r : Int32} {S' : Mem} (h : f_X8_improve fu S = some (r, S')) : ctN yX8_improve cX8_improve 4 (some .int) rm_X8_improve (wR g) [.ref (wA (wR g) 8 0)] S (some (.int r)) S' := by
  refine ct_of (own := RX8) (L := [(0, .ref (wA (wR g) 8 0))]) (by decide +kernel) rfl (Nat.le_of_ble_eq_true rfl) rfl (fun X h0 hE => ?_)
  rw [f_X8_improve] at h
  refine r_aload_n (pc' := 1) h0 0 dX8_improve_0 rfl rfl rfl ?_
  refine r_aload_n (pc' := 2) h0 0 dX8_improve_1 rfl rfl rfl ?_
  obtain ⟨r2, S2, h2, h⟩ := b2_some h
  refine go_V (k_X8_174 g) (st2 := [.int r2, .ref (wA (wR g) 8 0)]) (pc' := 5) [] [.ref (wA (wR g) 8 0)] h0 (Nat.le_of_ble_eq_true rfl) (c_X8_plansAll g fu S h2) rfl rfl dX8_improve_2 rfl (Nat.le_of_ble_eq_true rfl) ⟨rfl, rfl, Nat.le_of_ble_eq_true rfl, Nat.le_of_ble_eq_true rfl⟩ ⟨Nat.le_of_ble_eq_true rfl, Nat.le_of_ble_eq_true rfl⟩ rfl ?_
  refine r_if_eq (pt := 15) (pf := 8) h0 dX8_improve_5 rfl rfl h (fun c5 h => ?_) (fun c5 h => ?_)
  · exact w_X8_improve_15 h0 fu hE S2 h
  · refine r_aload_n (pc' := 9) h0 0 dX8_improve_8 rfl rfl rfl ?_
    refine gf_X8_86 (pc' := 12) h0 (Nat.le_of_ble_eq_true rfl) dX8_improve_9 rfl ?_
    refine r_if_eq (pt := 19) (pf := 15) h0 dX8_improve_12 rfl rfl h (fun c12 h => ?_) (fun c12 h => ?_)
    · refine r_iconst (pc' := 20) h0 dX8_improve_19 ki_0 rfl ?_
      exact w_X8_improve_20 h0 fu hE 0 S2 h
    · exact w_X8_improve_15 h0 fu hE S2 h
/-- the machine does what f_X8_junctions says -/
theorem c_X8_junctions (g : GR) (fu : Nat) (S : Mem) {r : Int32} {S' : Mem} (h : f_X8_junctions fu S = some (r, S')) : ctN yX8_junctions cX8_junctions 1 (some .int) rm_X8_junctions (wR g) [.ref (wA (wR g) 8 0)] S (some (.int r)) S' := by
  refine ct_of (own := RX8) (L := [(0, .ref (wA (wR g) 8 0))]) (by decide +kernel) rfl (Nat.le_of_ble_eq_true rfl) rfl (fun X h0 hE => ?_)
  rw [f_X8_junctions] at h
  refine r_aload_n (pc' := 1) h0 0 dX8_junctions_0 rfl rfl rfl ?_
  refine r_iconst (pc' := 2) h0 dX8_junctions_1 ki_0 rfl ?_
  refine pf_X8_72 (pc' := 5) h0 (Nat.le_of_ble_eq_true rfl) dX8_junctions_2 rfl ?_
  refine r_aload_n (pc' := 6) h0 0 dX8_junctions_5 rfl rfl rfl ?_
  refine gf_X8_76 (pc' := 9) h0 (Nat.le_of_ble_eq_true rfl) dX8_junctions_6 rfl ?_
  exact r_iret h0 hE dX8_junctions_9 h
/-- the machine does what f_X8_isPlanned says -/
theorem c_X8_isPlanned (g : GR) (fu : Nat) (x1 : Int32) (S : Mem) {r : Int32} {S' : Mem} (h : f_X8_isPlanned fu x1 S = some (r, S')) : ctN yX8_isPlanned cX8_isPlanned 2 (some .boolean) rm_X8_isPlanned (wR g) [.ref (wA (wR g) 8 0), .int x1] S (some (.int r)) S' := by
  refine ct_of (own := RX8) (L := [(0, .ref (wA (wR g) 8 0)), (1, .int x1)]) (by decide +kernel) rfl (Nat.le_of_ble_eq_true rfl) rfl (fun X h0 hE => ?_)
  rw [f_X8_isPlanned] at h
  refine r_aload_n (pc' := 1) h0 0 dX8_isPlanned_0 rfl rfl rfl ?_
  refine r_iload_n (pc' := 2) h0 1 dX8_isPlanned_1 rfl rfl rfl ?_
  obtain ⟨r2, S2, h2, h⟩ := b2_some h
  refine go_V (k_X8_144 g) (st2 := []) (pc' := 5) [.int x1] [] h0 (Nat.le_of_ble_eq_true rfl) (c_X8_plans g fu x1 S h2) rfl rfl dX8_isPlanned_2 rfl (Nat.le_of_ble_eq_true rfl) ⟨rfl, rfl, Nat.le_of_ble_eq_true rfl, Nat.le_of_ble_eq_true rfl⟩ ⟨Nat.le_of_ble_eq_true rfl, Nat.le_of_ble_eq_true rfl⟩ rfl ?_
  refine r_aload_n (pc' := 6) h0 0 dX8_isPlanned_5 rfl rfl rfl ?_
  refine gf_X8_37 (pc' := 9) h0 (Nat.le_of_ble_eq_true rfl) dX8_isPlanned_6 rfl ?_
  refine r_iload_n (pc' := 10) h0 1 dX8_isPlanned_9 rfl rfl rfl ?_
  refine r_zaldA (pc' := 11) h0 (iz_29 g) (Nat.le_of_ble_eq_true rfl) dX8_isPlanned_10 rfl h (fun h => ?_)
  exact r_zret h0 hE dX8_isPlanned_11 h
theorem w_X8_hasPlan_33 {g : GR} {X : MX} {r : Int32} {S' : Mem} (h0 : CX RX8 cX8_hasPlan 2 rm_X8_hasPlan X (wR g)) (fu : Nat) (x1 : Int32) (hE : EN (some .boolean) (some (.int r)) S' X (wR g)) : ∀ (t0 : Int32) (S : Mem), f_X8_hasPlan_33 fu x1 t0 S = some (r, S') → GV X (wR g) 2 0 0 S [] 33 [.int t0] := by
  intro t0 S h
  rw [f_X8_hasPlan_33] at h
  exact r_zret h0 hE dX8_hasPlan_33 h
theorem w_X8_hasPlan_32 {g : GR} {X : MX} {r : Int32} {S' : Mem} (h0 : CX RX8 cX8_hasPlan 2 rm_X8_hasPlan X (wR g)) (fu : Nat) (x1 : Int32) (hE : EN (some .boolean) (some (.int r)) S' X (wR g)) : ∀ (S : Mem), f_X8_hasPlan_32 fu x1 S = some (r, S') → GV X (wR g) 2 0 0 S [] 32 [] := by
  intro S h
  rw [f_X8_hasPlan_32] at h
  refine r_iconst (pc' := 33) h0 dX8_hasPlan_32 ki_0 rfl ?_
  exact w_X8_hasPlan_33 h0 fu x1 hE 0 S h
theorem w_X8_hasPlan_14 {g : GR} {X : MX} {r : Int32} {S' : Mem} (h0 : CX RX8 cX8_hasPlan 2 rm_X8_hasPlan X (wR g)) (fu : Nat) (x1 : Int32) (hE : EN (some .boolean) (some (.int r)) S' X (wR g)) : ∀ (t0 : Int32) (S : Mem), f_X8_hasPlan_14 fu x1 t0 S = some (r, S') → GV X (wR g) 2 0 0 S [(0, .ref (wA (wR g) 8 0)), (1, .int x1)] 14 [.int t0, .ref (wA (wR g) 8 0)] := by
  intro t0 S h
  rw [f_X8_hasPlan_14] at h
  obtain ⟨r14, S14, h14, h⟩ := b2_some h
  refine go_V (k_X8_102 g) (st2 := [.int r14]) (pc' := 17) [.int t0] [] h0 (Nat.le_of_ble_eq_true rfl) (c_X8_holds g fu t0 S h14) rfl rfl dX8_hasPlan_14 rfl (Nat.le_of_ble_eq_true rfl) ⟨rfl, rfl, Nat.le_of_ble_eq_true rfl, Nat.le_of_ble_eq_true rfl⟩ ⟨Nat.le_of_ble_eq_true rfl, Nat.le_of_ble_eq_true rfl⟩ rfl ?_
  refine r_if_eq (pt := 32) (pf := 20) h0 dX8_hasPlan_17 rfl rfl h (fun c17 h => ?_) (fun c17 h => ?_)
  · refine r_sub (L' := []) [] rfl ?_
    exact w_X8_hasPlan_32 h0 fu x1 hE S14 h
  · refine r_aload_n (pc' := 21) h0 0 dX8_hasPlan_20 rfl rfl rfl ?_
    refine r_iload_n (pc' := 22) h0 1 dX8_hasPlan_21 rfl rfl rfl ?_
    obtain ⟨r22, S22, h22, h⟩ := b2_some h
    refine go_V (k_X8_181 g) (st2 := [.int r22]) (pc' := 25) [.int x1] [] h0 (Nat.le_of_ble_eq_true rfl) (c_X8_isPlanned g fu x1 S14 h22) rfl rfl dX8_hasPlan_22 rfl (Nat.le_of_ble_eq_true rfl) ⟨rfl, rfl, Nat.le_of_ble_eq_true rfl, Nat.le_of_ble_eq_true rfl⟩ ⟨Nat.le_of_ble_eq_true rfl, Nat.le_of_ble_eq_true rfl⟩ rfl ?_
    refine r_if_eq (pt := 32) (pf := 28) h0 dX8_hasPlan_25 rfl rfl h (fun c25 h => ?_) (fun c25 h => ?_)
    · refine r_sub (L' := []) [] rfl ?_
      exact w_X8_hasPlan_32 h0 fu x1 hE S22 h
    · refine r_iconst (pc' := 29) h0 dX8_hasPlan_28 ki_1 rfl ?_
      refine r_goto (pc' := 33) h0 dX8_hasPlan_29 rfl ?_
      refine r_sub (L' := []) [] rfl ?_
      exact w_X8_hasPlan_33 h0 fu x1 hE 1 S22 h
/-- the machine does what f_X8_hasPlan says -/
theorem c_X8_hasPlan (g : GR) (fu : Nat) (x1 : Int32) (S : Mem) {r : Int32} {S' : Mem} (h : f_X8_hasPlan fu x1 S = some (r, S')) : ctN yX8_hasPlan cX8_hasPlan 2 (some .boolean) rm_X8_hasPlan (wR g) [.ref (wA (wR g) 8 0), .int x1] S (some (.int r)) S' := by
  refine ct_of (own := RX8) (L := [(0, .ref (wA (wR g) 8 0)), (1, .int x1)]) (by decide +kernel) rfl (Nat.le_of_ble_eq_true rfl) rfl (fun X h0 hE => ?_)
  rw [f_X8_hasPlan] at h
  refine r_aload_n (pc' := 1) h0 0 dX8_hasPlan_0 rfl rfl rfl ?_
  refine r_aload_n (pc' := 2) h0 0 dX8_hasPlan_1 rfl rfl rfl ?_
  refine r_iload_n (pc' := 3) h0 1 dX8_hasPlan_2 rfl rfl rfl ?_
  obtain ⟨r3, h3, h⟩ := b1_some h
  refine go_V (k_X8_118 g) (st2 := [.int r3, .ref (wA (wR g) 8 0)]) (pc' := 6) [.int x1] [.ref (wA (wR g) 8 0)] h0 (Nat.le_of_ble_eq_true rfl) (c_X8_isJunction g fu x1 S h3) rfl rfl dX8_hasPlan_3 rfl (Nat.le_of_ble_eq_true rfl) ⟨rfl, rfl, Nat.le_of_ble_eq_true rfl, Nat.le_of_ble_eq_true rfl⟩ ⟨Nat.le_of_ble_eq_true rfl, Nat.le_of_ble_eq_true rfl⟩ rfl ?_
  refine r_if_eq (pt := 13) (pf := 9) h0 dX8_hasPlan_6 rfl rfl h (fun c6 h => ?_) (fun c6 h => ?_)
  · refine r_iconst (pc' := 14) h0 dX8_hasPlan_13 ki_1 rfl ?_
    exact w_X8_hasPlan_14 h0 fu x1 hE 1 S h
  · refine r_iconst (pc' := 10) h0 dX8_hasPlan_9 ki_0 rfl ?_
    refine r_goto (pc' := 14) h0 dX8_hasPlan_10 rfl ?_
    exact w_X8_hasPlan_14 h0 fu x1 hE 0 S h
theorem w_X8_isPhase_29 {g : GR} {X : MX} {r : Int32}  (h0 : CX RX8 cX8_isPhase 3 rm_X8_isPhase X (wR g)) (fu : Nat) (x1 : Int32) (x2 : Int32) (S : Mem) (hE : EN (some .boolean) (some (.int r)) S X (wR g)) : ∀ (t0 : Int32), f_X8_isPhase_29 fu x1 x2 S t0 = some r → GV X (wR g) 3 0 0 S [] 29 [.int t0] := by
  intro t0 h
  rw [f_X8_isPhase_29] at h
  exact r_zretR h0 hE dX8_isPhase_29 h
theorem w_X8_isPhase_28 {g : GR} {X : MX} {r : Int32}  (h0 : CX RX8 cX8_isPhase 3 rm_X8_isPhase X (wR g)) (fu : Nat) (x1 : Int32) (x2 : Int32) (S : Mem) (hE : EN (some .boolean) (some (.int r)) S X (wR g)) : f_X8_isPhase_28 fu x1 x2 S = some r → GV X (wR g) 3 0 0 S [] 28 [] := by
  intro  h
  rw [f_X8_isPhase_28] at h
  refine r_iconst (pc' := 29) h0 dX8_isPhase_28 ki_0 rfl ?_
  exact w_X8_isPhase_29 h0 fu x1 x2 S hE 0 h
/-- the machine does what f_X8_isPhase says -/
theorem c_X8_isPhase (g : GR) (fu : Nat) (x1 : Int32) (x2 : Int32) (S : Mem) {r : Int32}  (h : f_X8_isPhase fu x1 x2 S = some r) : ctN yX8_isPhase cX8_isPhase 3 (some .boolean) rm_X8_isPhase (wR g) [.ref (wA (wR g) 8 0), .int x1, .int x2] S (some (.int r)) S := by
  refine ct_of (own := RX8) (L := [(0, .ref (wA (wR g) 8 0)), (1, .int x1), (2, .int x2)]) (by decide +kernel) rfl (Nat.le_of_ble_eq_true rfl) rfl (fun X h0 hE => ?_)
  rw [f_X8_isPhase] at h
  refine r_aload_n (pc' := 1) h0 0 dX8_isPhase_0 rfl rfl rfl ?_
  refine r_iload_n (pc' := 2) h0 1 dX8_isPhase_1 rfl rfl rfl ?_
  obtain ⟨r2, h2, h⟩ := b1_some h
  refine go_V (k_X8_118 g) (st2 := [.int r2]) (pc' := 5) [.int x1] [] h0 (Nat.le_of_ble_eq_true rfl) (c_X8_isJunction g fu x1 S h2) rfl rfl dX8_isPhase_2 rfl (Nat.le_of_ble_eq_true rfl) ⟨rfl, rfl, Nat.le_of_ble_eq_true rfl, Nat.le_of_ble_eq_true rfl⟩ ⟨Nat.le_of_ble_eq_true rfl, Nat.le_of_ble_eq_true rfl⟩ rfl ?_
  refine r_if_eq (pt := 28) (pf := 8) h0 dX8_isPhase_5 rfl rfl h (fun c5 h => ?_) (fun c5 h => ?_)
  · refine r_sub (L' := []) [] rfl ?_
    exact w_X8_isPhase_28 h0 fu x1 x2 S hE h
  · refine r_iload_n (pc' := 9) h0 2 dX8_isPhase_8 rfl rfl rfl ?_
    refine r_iconst (pc' := 10) h0 dX8_isPhase_9 ki_0 rfl ?_
    refine r_aload_n (pc' := 11) h0 0 dX8_isPhase_10 rfl rfl rfl ?_
    refine gf_X8_16 (pc' := 14) h0 (Nat.le_of_ble_eq_true rfl) dX8_isPhase_11 rfl ?_
    refine r_iload_n (pc' := 15) h0 1 dX8_isPhase_14 rfl rfl rfl ?_
    refine r_ialdA (pc' := 16) h0 (ia_22 g) (Nat.le_of_ble_eq_true rfl) dX8_isPhase_15 rfl h (fun h => ?_)
    refine r_iconst (pc' := 17) h0 dX8_isPhase_16 ki_1 rfl ?_
    refine r_isub (pc' := 18) h0 dX8_isPhase_17 rfl ?_
    obtain ⟨r18, h18, h⟩ := b1_some h
    refine go_S (k_X8_79 g) (st2 := [.int r18]) (pc' := 21) [.int x2, .int 0, .int ((S.1 22 0 (x1 : Int32).toNatClampNeg) - 1)] [] h0 (c_X8_in g fu x2 0 ((S.1 22 0 (x1 : Int32).toNatClampNeg) - 1) S h18) rfl rfl dX8_isPhase_18 rfl (Nat.le_of_ble_eq_true rfl) ⟨rfl, rfl, Nat.le_of_ble_eq_true rfl, Nat.le_of_ble_eq_true rfl⟩ ⟨Nat.le_of_ble_eq_true rfl, Nat.le_of_ble_eq_true rfl⟩ rfl ?_
    refine r_if_eq (pt := 28) (pf := 24) h0 dX8_isPhase_21 rfl rfl h (fun c21 h => ?_) (fun c21 h => ?_)
    · refine r_sub (L' := []) [] rfl ?_
      exact w_X8_isPhase_28 h0 fu x1 x2 S hE h
    · refine r_iconst (pc' := 25) h0 dX8_isPhase_24 ki_1 rfl ?_
      refine r_goto (pc' := 29) h0 dX8_isPhase_25 rfl ?_
      refine r_sub (L' := []) [] rfl ?_
      exact w_X8_isPhase_29 h0 fu x1 x2 S hE 1 h
theorem w_X8_green_47 {g : GR} {X : MX} {r : Int32} {S' : Mem} (h0 : CX RX8 cX8_green 3 rm_X8_green X (wR g)) (fu : Nat) (x1 : Int32) (x2 : Int32) (hE : EN (some .int) (some (.int r)) S' X (wR g)) : ∀ (t0 : Int32) (S : Mem), f_X8_green_47 fu x1 x2 t0 S = some (r, S') → GV X (wR g) 3 0 0 S [] 47 [.int t0] := by
  intro t0 S h
  rw [f_X8_green_47] at h
  exact r_iret h0 hE dX8_green_47 h
theorem w_X8_green_27 {g : GR} {X : MX} {r : Int32} {S' : Mem} (h0 : CX RX8 cX8_green 3 rm_X8_green X (wR g)) (fu : Nat) (x1 : Int32) (x2 : Int32) (hE : EN (some .int) (some (.int r)) S' X (wR g)) : ∀ (t0 : Int32) (S : Mem), f_X8_green_27 fu x1 x2 t0 S = some (r, S') → GV X (wR g) 3 0 0 S [(0, .ref (wA (wR g) 8 0)), (1, .int x1), (2, .int x2)] 27 [.int t0, .ref (wA (wR g) 8 0)] := by
  intro t0 S h
  rw [f_X8_green_27] at h
  obtain ⟨r27, S27, h27, h⟩ := b2_some h
  refine go_V (k_X8_102 g) (st2 := [.int r27]) (pc' := 30) [.int t0] [] h0 (Nat.le_of_ble_eq_true rfl) (c_X8_holds g fu t0 S h27) rfl rfl dX8_green_27 rfl (Nat.le_of_ble_eq_true rfl) ⟨rfl, rfl, Nat.le_of_ble_eq_true rfl, Nat.le_of_ble_eq_true rfl⟩ ⟨Nat.le_of_ble_eq_true rfl, Nat.le_of_ble_eq_true rfl⟩ rfl ?_
  refine r_if_eq (pt := 46) (pf := 33) h0 dX8_green_30 rfl rfl h (fun c30 h => ?_) (fun c30 h => ?_)
  · refine r_iconst (pc' := 47) h0 dX8_green_46 ki_0 rfl ?_
    refine r_sub (L' := []) [] rfl ?_
    exact w_X8_green_47 h0 fu x1 x2 hE 0 S27 h
  · refine r_aload_n (pc' := 34) h0 0 dX8_green_33 rfl rfl rfl ?_
    refine gf_X8_31 (pc' := 37) h0 (Nat.le_of_ble_eq_true rfl) dX8_green_34 rfl ?_
    refine r_iconst (pc' := 38) h0 dX8_green_37 ki_4 rfl ?_
    refine r_iload_n (pc' := 39) h0 1 dX8_green_38 rfl rfl rfl ?_
    refine r_imul (pc' := 40) h0 dX8_green_39 rfl ?_
    refine r_iload_n (pc' := 41) h0 2 dX8_green_40 rfl rfl rfl ?_
    refine r_iadd (pc' := 42) h0 dX8_green_41 rfl ?_
    refine r_ialdA (pc' := 43) h0 (ia_27 g) (Nat.le_of_ble_eq_true rfl) dX8_green_42 rfl h (fun h => ?_)
    refine r_goto (pc' := 47) h0 dX8_green_43 rfl ?_
    refine r_sub (L' := []) [] rfl ?_
    exact w_X8_green_47 h0 fu x1 x2 hE (S27.1 27 0 (((4 * x1) + x2) : Int32).toNatClampNeg) S27 h
/-- the machine does what f_X8_green says -/
theorem c_X8_green (g : GR) (fu : Nat) (x1 : Int32) (x2 : Int32) (S : Mem) {r : Int32} {S' : Mem} (h : f_X8_green fu x1 x2 S = some (r, S')) : ctN yX8_green cX8_green 3 (some .int) rm_X8_green (wR g) [.ref (wA (wR g) 8 0), .int x1, .int x2] S (some (.int r)) S' := by
  refine ct_of (own := RX8) (L := [(0, .ref (wA (wR g) 8 0)), (1, .int x1), (2, .int x2)]) (by decide +kernel) rfl (Nat.le_of_ble_eq_true rfl) rfl (fun X h0 hE => ?_)
  rw [f_X8_green] at h
  refine r_aload_n (pc' := 1) h0 0 dX8_green_0 rfl rfl rfl ?_
  refine r_aload_n (pc' := 2) h0 0 dX8_green_1 rfl rfl rfl ?_
  refine r_iload_n (pc' := 3) h0 1 dX8_green_2 rfl rfl rfl ?_
  refine r_iload_n (pc' := 4) h0 2 dX8_green_3 rfl rfl rfl ?_
  obtain ⟨r4, h4, h⟩ := b1_some h
  refine go_V (k_X8_184 g) (st2 := [.int r4, .ref (wA (wR g) 8 0)]) (pc' := 7) [.int x1, .int x2] [.ref (wA (wR g) 8 0)] h0 (Nat.le_of_ble_eq_true rfl) (c_X8_isPhase g fu x1 x2 S h4) rfl rfl dX8_green_4 rfl (Nat.le_of_ble_eq_true rfl) ⟨rfl, rfl, Nat.le_of_ble_eq_true rfl, Nat.le_of_ble_eq_true rfl⟩ ⟨Nat.le_of_ble_eq_true rfl, Nat.le_of_ble_eq_true rfl⟩ rfl ?_
  refine r_if_ne (pt := 14) (pf := 10) h0 dX8_green_7 rfl rfl h (fun c7 h => ?_) (fun c7 h => ?_)
  · refine r_aload_n (pc' := 15) h0 0 dX8_green_14 rfl rfl rfl ?_
    refine r_iload_n (pc' := 16) h0 1 dX8_green_15 rfl rfl rfl ?_
    obtain ⟨r16, S16, h16, h⟩ := b2_some h
    refine go_V (k_X8_181 g) (st2 := [.int r16, .ref (wA (wR g) 8 0)]) (pc' := 19) [.int x1] [.ref (wA (wR g) 8 0)] h0 (Nat.le_of_ble_eq_true rfl) (c_X8_isPlanned g fu x1 S h16) rfl rfl dX8_green_16 rfl (Nat.le_of_ble_eq_true rfl) ⟨rfl, rfl, Nat.le_of_ble_eq_true rfl, Nat.le_of_ble_eq_true rfl⟩ ⟨Nat.le_of_ble_eq_true rfl, Nat.le_of_ble_eq_true rfl⟩ rfl ?_
    refine r_if_eq (pt := 26) (pf := 22) h0 dX8_green_19 rfl rfl h (fun c19 h => ?_) (fun c19 h => ?_)
    · refine r_iconst (pc' := 27) h0 dX8_green_26 ki_2 rfl ?_
      exact w_X8_green_27 h0 fu x1 x2 hE 2 S16 h
    · refine r_iconst (pc' := 23) h0 dX8_green_22 ki_0 rfl ?_
      refine r_goto (pc' := 27) h0 dX8_green_23 rfl ?_
      exact w_X8_green_27 h0 fu x1 x2 hE 0 S16 h
  · refine r_iconst (pc' := 11) h0 dX8_green_10 ki_1 rfl ?_
    refine r_goto (pc' := 27) h0 dX8_green_11 rfl ?_
    exact w_X8_green_27 h0 fu x1 x2 hE 1 S h
theorem w_X8_clearing_31 {g : GR} {X : MX} {r : Int32} {S' : Mem} (h0 : CX RX8 cX8_clearing 3 rm_X8_clearing X (wR g)) (fu : Nat) (x1 : Int32) (x2 : Int32) (hE : EN (some .int) (some (.int r)) S' X (wR g)) : ∀ (t0 : Int32) (S : Mem), f_X8_clearing_31 fu x1 x2 t0 S = some (r, S') → GV X (wR g) 3 0 0 S [] 31 [.int t0] := by
  intro t0 S h
  rw [f_X8_clearing_31] at h
  exact r_iret h0 hE dX8_clearing_31 h
theorem w_X8_clearing_15 {g : GR} {X : MX} {r : Int32} {S' : Mem} (h0 : CX RX8 cX8_clearing 3 rm_X8_clearing X (wR g)) (fu : Nat) (x1 : Int32) (x2 : Int32) (hE : EN (some .int) (some (.int r)) S' X (wR g)) : ∀ (t0 : Int32) (S : Mem), f_X8_clearing_15 fu x1 x2 t0 S = some (r, S') → GV X (wR g) 3 0 0 S [(0, .ref (wA (wR g) 8 0)), (1, .int x1), (2, .int x2)] 15 [.int t0, .ref (wA (wR g) 8 0)] := by
  intro t0 S h
  rw [f_X8_clearing_15] at h
  obtain ⟨r15, S15, h15, h⟩ := b2_some h
  refine go_V (k_X8_102 g) (st2 := [.int r15]) (pc' := 18) [.int t0] [] h0 (Nat.le_of_ble_eq_true rfl) (c_X8_holds g fu t0 S h15) rfl rfl dX8_clearing_15 rfl (Nat.le_of_ble_eq_true rfl) ⟨rfl, rfl, Nat.le_of_ble_eq_true rfl, Nat.le_of_ble_eq_true rfl⟩ ⟨Nat.le_of_ble_eq_true rfl, Nat.le_of_ble_eq_true rfl⟩ rfl ?_
  refine r_if_eq (pt := 30) (pf := 21) h0 dX8_clearing_18 rfl rfl h (fun c18 h => ?_) (fun c18 h => ?_)
  · refine r_iconst (pc' := 31) h0 dX8_clearing_30 ki_0 rfl ?_
    refine r_sub (L' := []) [] rfl ?_
    exact w_X8_clearing_31 h0 fu x1 x2 hE 0 S15 h
  · refine r_aload_n (pc' := 22) h0 0 dX8_clearing_21 rfl rfl rfl ?_
    refine r_iload_n (pc' := 23) h0 1 dX8_clearing_22 rfl rfl rfl ?_
    refine r_iload_n (pc' := 24) h0 2 dX8_clearing_23 rfl rfl rfl ?_
    obtain ⟨r24, h24, h⟩ := b1_some h
    refine go_V (k_X8_134 g) (st2 := [.int r24]) (pc' := 27) [.int x1, .int x2] [] h0 (Nat.le_of_ble_eq_true rfl) (c_X8_clearingOf g fu x1 x2 S15 h24) rfl rfl dX8_clearing_24 rfl (Nat.le_of_ble_eq_true rfl) ⟨rfl, rfl, Nat.le_of_ble_eq_true rfl, Nat.le_of_ble_eq_true rfl⟩ ⟨Nat.le_of_ble_eq_true rfl, Nat.le_of_ble_eq_true rfl⟩ rfl ?_
    refine r_goto (pc' := 31) h0 dX8_clearing_27 rfl ?_
    refine r_sub (L' := []) [] rfl ?_
    exact w_X8_clearing_31 h0 fu x1 x2 hE r24 S15 h
/-- the machine does what f_X8_clearing says -/
theorem c_X8_clearing (g : GR) (fu : Nat) (x1 : Int32) (x2 : Int32) (S : Mem) {r : Int32} {S' : Mem} (h : f_X8_clearing fu x1 x2 S = some (r, S')) : ctN yX8_clearing cX8_clearing 3 (some .int) rm_X8_clearing (wR g) [.ref (wA (wR g) 8 0), .int x1, .int x2] S (some (.int r)) S' := by
  refine ct_of (own := RX8) (L := [(0, .ref (wA (wR g) 8 0)), (1, .int x1), (2, .int x2)]) (by decide +kernel) rfl (Nat.le_of_ble_eq_true rfl) rfl (fun X h0 hE => ?_)
  rw [f_X8_clearing] at h
  refine r_aload_n (pc' := 1) h0 0 dX8_clearing_0 rfl rfl rfl ?_
  refine r_aload_n (pc' := 2) h0 0 dX8_clearing_1 rfl rfl rfl ?_
  refine r_iload_n (pc' := 3) h0 1 dX8_clearing_2 rfl rfl rfl ?_
  refine r_iload_n (pc' := 4) h0 2 dX8_clearing_3 rfl rfl rfl ?_
  obtain ⟨r4, h4, h⟩ := b1_some h
  refine go_V (k_X8_184 g) (st2 := [.int r4, .ref (wA (wR g) 8 0)]) (pc' := 7) [.int x1, .int x2] [.ref (wA (wR g) 8 0)] h0 (Nat.le_of_ble_eq_true rfl) (c_X8_isPhase g fu x1 x2 S h4) rfl rfl dX8_clearing_4 rfl (Nat.le_of_ble_eq_true rfl) ⟨rfl, rfl, Nat.le_of_ble_eq_true rfl, Nat.le_of_ble_eq_true rfl⟩ ⟨Nat.le_of_ble_eq_true rfl, Nat.le_of_ble_eq_true rfl⟩ rfl ?_
  refine r_if_eq (pt := 14) (pf := 10) h0 dX8_clearing_7 rfl rfl h (fun c7 h => ?_) (fun c7 h => ?_)
  · refine r_iconst (pc' := 15) h0 dX8_clearing_14 ki_1 rfl ?_
    exact w_X8_clearing_15 h0 fu x1 x2 hE 1 S h
  · refine r_iconst (pc' := 11) h0 dX8_clearing_10 ki_0 rfl ?_
    refine r_goto (pc' := 15) h0 dX8_clearing_11 rfl ?_
    exact w_X8_clearing_15 h0 fu x1 x2 hE 0 S h
