/-- the machine does what f_X8_thrown says -/
theorem c_X8_thrown (g : GR) (fu : Nat) (S : Mem) {r : Int32}  (h : f_X8_thrown fu S = some r) : ctN yX8_thrown cX8_thrown 1 (some .int) rm_X8_thrown (wR g) [.ref (wA (wR g) 8 0)] S (some (.int r)) S := by
  refine ct_of (own := RX8) (L := [(0, .ref (wA (wR g) 8 0))]) (by decide +kernel) rfl (Nat.le_of_ble_eq_true rfl) rfl (fun X h0 hE => ?_)
  rw [f_X8_thrown] at h
  refine r_aload_n (pc' := 1) h0 0 dX8_thrown_0 rfl rfl rfl ?_
  refine gf_X8_72 (pc' := 4) h0 (Nat.le_of_ble_eq_true rfl) dX8_thrown_1 rfl ?_
  exact r_iretR h0 hE dX8_thrown_4 h
theorem w_X8_holds_14 {g : GR} {X : MX} {r : Int32} {S' : Mem} (h0 : CX RX8 cX8_holds 2 rm_X8_holds X (wR g)) (fu : Nat) (x1 : Int32) (hE : EN (some .boolean) (some (.int r)) S' X (wR g)) : ∀ (t0 : Int32) (S : Mem), f_X8_holds_14 fu x1 t0 S = some (r, S') → GV X (wR g) 2 0 0 S [] 14 [.int t0] := by
  intro t0 S h
  rw [f_X8_holds_14] at h
  exact r_zret h0 hE dX8_holds_14 h
/-- the machine does what f_X8_holds says -/
theorem c_X8_holds (g : GR) (fu : Nat) (x1 : Int32) (S : Mem) {r : Int32} {S' : Mem} (h : f_X8_holds fu x1 S = some (r, S')) : ctN yX8_holds cX8_holds 2 (some .boolean) rm_X8_holds (wR g) [.ref (wA (wR g) 8 0), .int x1] S (some (.int r)) S' := by
  refine ct_of (own := RX8) (L := [(0, .ref (wA (wR g) 8 0)), (1, .int x1)]) (by decide +kernel) rfl (Nat.le_of_ble_eq_true rfl) rfl (fun X h0 hE => ?_)
  rw [f_X8_holds] at h
  refine r_aload_n (pc' := 1) h0 0 dX8_holds_0 rfl rfl rfl ?_
  refine r_iload_n (pc' := 2) h0 1 dX8_holds_1 rfl rfl rfl ?_
  refine pf_X8_72 (pc' := 5) h0 (Nat.le_of_ble_eq_true rfl) dX8_holds_2 rfl ?_
  refine r_iload_n (pc' := 6) h0 1 dX8_holds_5 rfl rfl rfl ?_
  refine r_if_ne (pt := 13) (pf := 9) h0 dX8_holds_6 rfl rfl h (fun c6 h => ?_) (fun c6 h => ?_)
  · refine r_iconst (pc' := 14) h0 dX8_holds_13 ki_0 rfl ?_
    refine r_sub (L' := []) [] rfl ?_
    exact w_X8_holds_14 h0 fu x1 hE 0 (wI S 8 0 0 x1) h
  · refine r_iconst (pc' := 10) h0 dX8_holds_9 ki_1 rfl ?_
    refine r_goto (pc' := 14) h0 dX8_holds_10 rfl ?_
    refine r_sub (L' := []) [] rfl ?_
    exact w_X8_holds_14 h0 fu x1 hE 1 (wI S 8 0 0 x1) h
theorem w_X8_in_15 {g : GR} {X : MX} {r : Int32}  (h0 : CX RX8 cX8_in 3 rm_X8_in X (wR g)) (fu : Nat) (x0 : Int32) (x1 : Int32) (x2 : Int32) (S : Mem) (hE : EN (some .boolean) (some (.int r)) S X (wR g)) : ∀ (t0 : Int32), f_X8_in_15 fu x0 x1 x2 S t0 = some r → GV X (wR g) 3 0 0 S [] 15 [.int t0] := by
  intro t0 h
  rw [f_X8_in_15] at h
  exact r_zretR h0 hE dX8_in_15 h
theorem w_X8_in_14 {g : GR} {X : MX} {r : Int32}  (h0 : CX RX8 cX8_in 3 rm_X8_in X (wR g)) (fu : Nat) (x0 : Int32) (x1 : Int32) (x2 : Int32) (S : Mem) (hE : EN (some .boolean) (some (.int r)) S X (wR g)) : f_X8_in_14 fu x0 x1 x2 S = some r → GV X (wR g) 3 0 0 S [] 14 [] := by
  intro  h
  rw [f_X8_in_14] at h
  refine r_iconst (pc' := 15) h0 dX8_in_14 ki_0 rfl ?_
  exact w_X8_in_15 h0 fu x0 x1 x2 S hE 0 h
/-- the machine does what f_X8_in says -/
theorem c_X8_in (g : GR) (fu : Nat) (x0 : Int32) (x1 : Int32) (x2 : Int32) (S : Mem) {r : Int32}  (h : f_X8_in fu x0 x1 x2 S = some r) : ctN yX8_in cX8_in 3 (some .boolean) rm_X8_in (wR g) [.int x0, .int x1, .int x2] S (some (.int r)) S := by
  refine ct_of (own := RX8) (L := [(0, .int x0), (1, .int x1), (2, .int x2)]) (by decide +kernel) rfl (Nat.le_of_ble_eq_true rfl) rfl (fun X h0 hE => ?_)
  rw [f_X8_in] at h
  refine r_iload_n (pc' := 1) h0 0 dX8_in_0 rfl rfl rfl ?_
  refine r_iload_n (pc' := 2) h0 1 dX8_in_1 rfl rfl rfl ?_
  refine r_ic_lt (pt := 14) (pf := 5) h0 dX8_in_2 rfl rfl h (fun c2 h => ?_) (fun c2 h => ?_)
  · refine r_sub (L' := []) [] rfl ?_
    exact w_X8_in_14 h0 fu x0 x1 x2 S hE h
  · refine r_iload_n (pc' := 6) h0 0 dX8_in_5 rfl rfl rfl ?_
    refine r_iload_n (pc' := 7) h0 2 dX8_in_6 rfl rfl rfl ?_
    refine r_ic_gt (pt := 14) (pf := 10) h0 dX8_in_7 rfl rfl h (fun c7 h => ?_) (fun c7 h => ?_)
    · refine r_sub (L' := []) [] rfl ?_
      exact w_X8_in_14 h0 fu x0 x1 x2 S hE h
    · refine r_iconst (pc' := 11) h0 dX8_in_10 ki_1 rfl ?_
      refine r_goto (pc' := 15) h0 dX8_in_11 rfl ?_
      refine r_sub (L' := []) [] rfl ?_
      exact w_X8_in_15 h0 fu x0 x1 x2 S hE 1 h
theorem w_X8_has_14 {g : GR} {X : MX} {r : Int32}  (h0 : CX RX8 cX8_has 2 rm_X8_has X (wR g)) (fu : Nat) (x0 : Int32) (x1 : Int32) (S : Mem) (hE : EN (some .boolean) (some (.int r)) S X (wR g)) : ∀ (t0 : Int32), f_X8_has_14 fu x0 x1 S t0 = some r → GV X (wR g) 2 0 0 S [] 14 [.int t0] := by
  intro t0 h
  rw [f_X8_has_14] at h
  exact r_zretR h0 hE dX8_has_14 h
/-- the machine does what f_X8_has says -/
theorem c_X8_has (g : GR) (fu : Nat) (x0 : Int32) (x1 : Int32) (S : Mem) {r : Int32}  (h : f_X8_has fu x0 x1 S = some r) : ctN yX8_has cX8_has 2 (some .boolean) rm_X8_has (wR g) [.int x0, .int x1] S (some (.int r)) S := by
  refine ct_of (own := RX8) (L := [(0, .int x0), (1, .int x1)]) (by decide +kernel) rfl (Nat.le_of_ble_eq_true rfl) rfl (fun X h0 hE => ?_)
  rw [f_X8_has] at h
  refine r_iload_n (pc' := 1) h0 0 dX8_has_0 rfl rfl rfl ?_
  refine r_iload_n (pc' := 2) h0 1 dX8_has_1 rfl rfl rfl ?_
  refine r_ishr (pc' := 3) h0 dX8_has_2 rfl ?_
  refine r_iconst (pc' := 4) h0 dX8_has_3 ki_1 rfl ?_
  refine r_iand (pc' := 5) h0 dX8_has_4 rfl ?_
  refine r_iconst (pc' := 6) h0 dX8_has_5 ki_1 rfl ?_
  refine r_ic_ne (pt := 13) (pf := 9) h0 dX8_has_6 rfl rfl h (fun c6 h => ?_) (fun c6 h => ?_)
  · refine r_iconst (pc' := 14) h0 dX8_has_13 ki_0 rfl ?_
    refine r_sub (L' := []) [] rfl ?_
    exact w_X8_has_14 h0 fu x0 x1 S hE 0 h
  · refine r_iconst (pc' := 10) h0 dX8_has_9 ki_1 rfl ?_
    refine r_goto (pc' := 14) h0 dX8_has_10 rfl ?_
    refine r_sub (L' := []) [] rfl ?_
    exact w_X8_has_14 h0 fu x0 x1 S hE 1 h
/-- the machine does what f_X8_isJunction says -/
theorem c_X8_isJunction (g : GR) (fu : Nat) (x1 : Int32) (S : Mem) {r : Int32}  (h : f_X8_isJunction fu x1 S = some r) : ctN yX8_isJunction cX8_isJunction 2 (some .boolean) rm_X8_isJunction (wR g) [.ref (wA (wR g) 8 0), .int x1] S (some (.int r)) S := by
  refine ct_of (own := RX8) (L := [(0, .ref (wA (wR g) 8 0)), (1, .int x1)]) (by decide +kernel) rfl (Nat.le_of_ble_eq_true rfl) rfl (fun X h0 hE => ?_)
  rw [f_X8_isJunction] at h
  refine r_iload_n (pc' := 1) h0 1 dX8_isJunction_0 rfl rfl rfl ?_
  refine r_iconst (pc' := 2) h0 dX8_isJunction_1 ki_0 rfl ?_
  refine r_aload_n (pc' := 3) h0 0 dX8_isJunction_2 rfl rfl rfl ?_
  refine gf_X8_76 (pc' := 6) h0 (Nat.le_of_ble_eq_true rfl) dX8_isJunction_3 rfl ?_
  refine r_iconst (pc' := 7) h0 dX8_isJunction_6 ki_1 rfl ?_
  refine r_isub (pc' := 8) h0 dX8_isJunction_7 rfl ?_
  obtain ⟨r8, h8, h⟩ := b1_some h
  refine go_S (k_X8_79 g) (st2 := [.int r8]) (pc' := 11) [.int x1, .int 0, .int ((S.1 8 0 1) - 1)] [] h0 (c_X8_in g fu x1 0 ((S.1 8 0 1) - 1) S h8) rfl rfl dX8_isJunction_8 rfl (Nat.le_of_ble_eq_true rfl) ⟨rfl, rfl, Nat.le_of_ble_eq_true rfl, Nat.le_of_ble_eq_true rfl⟩ ⟨Nat.le_of_ble_eq_true rfl, Nat.le_of_ble_eq_true rfl⟩ rfl ?_
  exact r_zretR h0 hE dX8_isJunction_11 h
/-- the machine does what f_X8_isMovement says -/
theorem c_X8_isMovement (g : GR) (fu : Nat) (x0 : Int32) (S : Mem) {r : Int32}  (h : f_X8_isMovement fu x0 S = some r) : ctN yX8_isMovement cX8_isMovement 1 (some .boolean) rm_X8_isMovement (wR g) [.int x0] S (some (.int r)) S := by
  refine ct_of (own := RX8) (L := [(0, .int x0)]) (by decide +kernel) rfl (Nat.le_of_ble_eq_true rfl) rfl (fun X h0 hE => ?_)
  rw [f_X8_isMovement] at h
  refine r_iload_n (pc' := 1) h0 0 dX8_isMovement_0 rfl rfl rfl ?_
  refine r_iconst (pc' := 2) h0 dX8_isMovement_1 ki_0 rfl ?_
  refine r_iconst (pc' := 3) h0 dX8_isMovement_2 ki_3 rfl ?_
  obtain ⟨r3, h3, h⟩ := b1_some h
  refine go_S (k_X8_79 g) (st2 := [.int r3]) (pc' := 6) [.int x0, .int 0, .int 3] [] h0 (c_X8_in g fu x0 0 3 S h3) rfl rfl dX8_isMovement_3 rfl (Nat.le_of_ble_eq_true rfl) ⟨rfl, rfl, Nat.le_of_ble_eq_true rfl, Nat.le_of_ble_eq_true rfl⟩ ⟨Nat.le_of_ble_eq_true rfl, Nat.le_of_ble_eq_true rfl⟩ rfl ?_
  exact r_zretR h0 hE dX8_isMovement_6 h
/-- the machine does what f_X8_isLink says -/
theorem c_X8_isLink (g : GR) (fu : Nat) (x1 : Int32) (S : Mem) {r : Int32}  (h : f_X8_isLink fu x1 S = some r) : ctN yX8_isLink cX8_isLink 2 (some .boolean) rm_X8_isLink (wR g) [.ref (wA (wR g) 8 0), .int x1] S (some (.int r)) S := by
  refine ct_of (own := RX8) (L := [(0, .ref (wA (wR g) 8 0)), (1, .int x1)]) (by decide +kernel) rfl (Nat.le_of_ble_eq_true rfl) rfl (fun X h0 hE => ?_)
  rw [f_X8_isLink] at h
  refine r_iload_n (pc' := 1) h0 1 dX8_isLink_0 rfl rfl rfl ?_
  refine r_iconst (pc' := 2) h0 dX8_isLink_1 ki_0 rfl ?_
  refine r_aload_n (pc' := 3) h0 0 dX8_isLink_2 rfl rfl rfl ?_
  refine gf_X8_76 (pc' := 6) h0 (Nat.le_of_ble_eq_true rfl) dX8_isLink_3 rfl ?_
  refine r_iconst (pc' := 7) h0 dX8_isLink_6 ki_2 rfl ?_
  refine r_isub (pc' := 8) h0 dX8_isLink_7 rfl ?_
  obtain ⟨r8, h8, h⟩ := b1_some h
  refine go_S (k_X8_79 g) (st2 := [.int r8]) (pc' := 11) [.int x1, .int 0, .int ((S.1 8 0 1) - 2)] [] h0 (c_X8_in g fu x1 0 ((S.1 8 0 1) - 2) S h8) rfl rfl dX8_isLink_8 rfl (Nat.le_of_ble_eq_true rfl) ⟨rfl, rfl, Nat.le_of_ble_eq_true rfl, Nat.le_of_ble_eq_true rfl⟩ ⟨Nat.le_of_ble_eq_true rfl, Nat.le_of_ble_eq_true rfl⟩ rfl ?_
  exact r_zretR h0 hE dX8_isLink_11 h
/-- the machine does what f_X8_conflict says -/
theorem c_X8_conflict (g : GR) (fu : Nat) (x0 : Int32) (x1 : Int32) (x2 : Int32) (S : Mem) {r : Int32}  (h : f_X8_conflict fu x0 x1 x2 S = some r) : ctN yX8_conflict cX8_conflict 3 (some .int) rm_X8_conflict (wR g) [.int x0, .int x1, .int x2] S (some (.int r)) S := by
  refine ct_of (own := RX8) (L := [(0, .int x0), (1, .int x1), (2, .int x2)]) (by decide +kernel) rfl (Nat.le_of_ble_eq_true rfl) rfl (fun X h0 hE => ?_)
  rw [f_X8_conflict] at h
  refine r_bipush (pc' := 2) h0 dX8_conflict_0 kb_16 rfl ?_
  refine r_iload_n (pc' := 3) h0 0 dX8_conflict_2 rfl rfl rfl ?_
  refine r_imul (pc' := 4) h0 dX8_conflict_3 rfl ?_
  refine r_iconst (pc' := 5) h0 dX8_conflict_4 ki_4 rfl ?_
  refine r_iload_n (pc' := 6) h0 1 dX8_conflict_5 rfl rfl rfl ?_
  refine r_imul (pc' := 7) h0 dX8_conflict_6 rfl ?_
  refine r_iadd (pc' := 8) h0 dX8_conflict_7 rfl ?_
  refine r_iload_n (pc' := 9) h0 2 dX8_conflict_8 rfl rfl rfl ?_
  refine r_iadd (pc' := 10) h0 dX8_conflict_9 rfl ?_
  exact r_iretR h0 hE dX8_conflict_10 h
theorem w_X8_begins_187 {g : GR} {X : MX} {S' : Mem} (h0 : CX RX8 cX8_begins 4 rm_X8_begins X (wR g)) (fu : Nat) (x1 : Int32) (x2 : Int32) (hE : EN none none S' X (wR g)) (K142 : Int32 → Mem → Option (Unit × Mem)) (kK142 : ∀ (x3 : Int32) (S : Mem), K142 x3 S = some ((), S') → GV X (wR g) 4 0 0 S [(0, .ref (wA (wR g) 8 0)), (3, .int x3)] 142 []) : ∀ (x3 : Int32) (t0 : Int32) (t1 : Int32) (S : Mem), f_X8_begins_187 fu K142 x1 x2 x3 t0 t1 S = some ((), S') → GV X (wR g) 4 0 0 S [(0, .ref (wA (wR g) 8 0)), (3, .int x3)] 187 [.int t0, .int t1, .ref (wA (wR g) 20 0)] := by
  intro x3 t0 t1 S h
  rw [f_X8_begins_187] at h
  refine r_iastA (pc' := 188) h0 (ia_20 g) (Nat.le_of_ble_eq_true rfl) dX8_begins_187 rfl h (fun h => ?_)
  refine r_aload_n (pc' := 189) h0 0 dX8_begins_188 rfl rfl rfl ?_
  refine gf_X8_19 (pc' := 192) h0 (Nat.le_of_ble_eq_true rfl) dX8_begins_189 rfl ?_
  refine r_iload_n (pc' := 193) h0 1 dX8_begins_192 rfl rfl rfl ?_
  refine r_iconst (pc' := 194) h0 dX8_begins_193 ki_4 rfl ?_
  refine r_idiv (pc' := 195) h0 dX8_begins_194 rfl h (fun h => ?_)
  refine r_iconst (pc' := 196) h0 dX8_begins_195 ki_0 rfl ?_
  refine r_iastA (pc' := 197) h0 (ia_23 g) (Nat.le_of_ble_eq_true rfl) dX8_begins_196 rfl h (fun h => ?_)
  refine r_iinc (pc' := 200) (L' := [(3, .int (x3 + 1)), (0, .ref (wA (wR g) 8 0))]) h0 1 dX8_begins_197 rfl ki_1 (Nat.le_of_ble_eq_true rfl) rfl rfl ?_
  refine r_goto (pc' := 142) h0 dX8_begins_200 rfl ?_
  refine r_sub (L' := [(0, .ref (wA (wR g) 8 0)), (3, .int (x3 + 1))]) [1, 0] rfl ?_
  exact kK142 (x3 + 1) (wI (wI S 20 0 (t1 : Int32).toNatClampNeg t0) 23 0 ((x3 / 4) : Int32).toNatClampNeg 0) h
theorem w_X8_begins_179 {g : GR} {X : MX} {S' : Mem} (h0 : CX RX8 cX8_begins 4 rm_X8_begins X (wR g)) (fu : Nat) (x1 : Int32) (x2 : Int32) (hE : EN none none S' X (wR g)) (K142 : Int32 → Mem → Option (Unit × Mem)) (kK142 : ∀ (x3 : Int32) (S : Mem), K142 x3 S = some ((), S') → GV X (wR g) 4 0 0 S [(0, .ref (wA (wR g) 8 0)), (3, .int x3)] 142 []) : ∀ (x3 : Int32) (t0 : Int32) (t1 : Int32) (t2 : Int32) (S : Mem), f_X8_begins_179 fu K142 x1 x2 x3 t0 t1 t2 S = some ((), S') → GV X (wR g) 4 0 0 S [(0, .ref (wA (wR g) 8 0)), (3, .int x3)] 179 [.int t0, .int t1, .int t2, .ref (wA (wR g) 20 0)] := by
  intro x3 t0 t1 t2 S h
  rw [f_X8_begins_179] at h
  refine r_ic_eq (pt := 186) (pf := 182) h0 dX8_begins_179 rfl rfl h (fun c179 h => ?_) (fun c179 h => ?_)
  · refine r_iconst (pc' := 187) h0 dX8_begins_186 ki_m1 rfl ?_
    exact w_X8_begins_187 h0 fu x1 x2 hE K142 kK142 x3 (-1) t2 S h
  · refine r_iconst (pc' := 183) h0 dX8_begins_182 ki_3 rfl ?_
    refine r_goto (pc' := 187) h0 dX8_begins_183 rfl ?_
    exact w_X8_begins_187 h0 fu x1 x2 hE K142 kK142 x3 3 t2 S h
theorem w_X8_begins_167 {g : GR} {X : MX} {S' : Mem} (h0 : CX RX8 cX8_begins 4 rm_X8_begins X (wR g)) (fu : Nat) (x1 : Int32) (x2 : Int32) (hE : EN none none S' X (wR g)) (K142 : Int32 → Mem → Option (Unit × Mem)) (kK142 : ∀ (x3 : Int32) (S : Mem), K142 x3 S = some ((), S') → GV X (wR g) 4 0 0 S [(0, .ref (wA (wR g) 8 0)), (3, .int x3)] 142 []) : ∀ (x3 : Int32) (t0 : Int32) (t1 : Int32) (S : Mem), f_X8_begins_167 fu K142 x1 x2 x3 t0 t1 S = some ((), S') → GV X (wR g) 4 0 0 S [(0, .ref (wA (wR g) 8 0)), (3, .int x3)] 167 [.int t0, .int t1, .ref (wA (wR g) 20 0)] := by
  intro x3 t0 t1 S h
  rw [f_X8_begins_167] at h
  refine r_iload_n (pc' := 168) h0 1 dX8_begins_167 rfl rfl rfl ?_
  refine r_iconst (pc' := 169) h0 dX8_begins_168 ki_4 rfl ?_
  refine r_irem (pc' := 170) h0 dX8_begins_169 rfl h (fun h => ?_)
  refine r_iconst (pc' := 171) h0 dX8_begins_170 ki_2 rfl ?_
  refine r_ic_ge (pt := 178) (pf := 174) h0 dX8_begins_171 rfl rfl h (fun c171 h => ?_) (fun c171 h => ?_)
  · refine r_iconst (pc' := 179) h0 dX8_begins_178 ki_0 rfl ?_
    exact w_X8_begins_179 h0 fu x1 x2 hE K142 kK142 x3 0 t0 t1 S h
  · refine r_iconst (pc' := 175) h0 dX8_begins_174 ki_1 rfl ?_
    refine r_goto (pc' := 179) h0 dX8_begins_175 rfl ?_
    exact w_X8_begins_179 h0 fu x1 x2 hE K142 kK142 x3 1 t0 t1 S h
theorem w_X8_begins_142 {g : GR} {X : MX} {S' : Mem} (h0 : CX RX8 cX8_begins 4 rm_X8_begins X (wR g)) (fu : Nat) (x1 : Int32) (x2 : Int32) (hE : EN none none S' X (wR g)) : ∀ (n : Nat) (x3 : Int32) (S : Mem), f_X8_begins_142 fu x1 x2 n x3 S = some ((), S') → GV X (wR g) 4 0 0 S [(0, .ref (wA (wR g) 8 0)), (3, .int x3)] 142 [] := by
  intro n
  induction n with
  | zero =>
    intro x3 S h
    exact nomatch (show none = _ from h)
  | succ n ih =>
    intro x3 S h
    rw [f_X8_begins_142] at h
    refine r_iload_n (pc' := 143) h0 1 dX8_begins_142 rfl rfl rfl ?_
    refine r_bipush (pc' := 145) h0 dX8_begins_143 kb_80 rfl ?_
    refine r_ic_ge (pt := 203) (pf := 148) h0 dX8_begins_145 rfl rfl h (fun c145 h => ?_) (fun c145 h => ?_)
    · exact r_vret h0 hE dX8_begins_203 h
    · refine r_aload_n (pc' := 149) h0 0 dX8_begins_148 rfl rfl rfl ?_
      refine gf_X8_7 (pc' := 152) h0 (Nat.le_of_ble_eq_true rfl) dX8_begins_149 rfl ?_
      refine r_iload_n (pc' := 153) h0 1 dX8_begins_152 rfl rfl rfl ?_
      refine r_iload_n (pc' := 154) h0 1 dX8_begins_153 rfl rfl rfl ?_
      refine r_iconst (pc' := 155) h0 dX8_begins_154 ki_4 rfl ?_
      refine r_idiv (pc' := 156) h0 dX8_begins_155 rfl h (fun h => ?_)
      refine r_iconst (pc' := 157) h0 dX8_begins_156 ki_4 rfl ?_
      refine r_irem (pc' := 158) h0 dX8_begins_157 rfl h (fun h => ?_)
      refine r_iconst (pc' := 159) h0 dX8_begins_158 ki_2 rfl ?_
      refine r_ic_ge (pt := 166) (pf := 162) h0 dX8_begins_159 rfl rfl h (fun c159 h => ?_) (fun c159 h => ?_)
      · refine r_iconst (pc' := 167) h0 dX8_begins_166 ki_0 rfl ?_
        exact w_X8_begins_167 h0 fu x1 x2 hE (f_X8_begins_142 fu x1 x2 n) ih x3 0 x3 S h
      · refine r_iconst (pc' := 163) h0 dX8_begins_162 ki_1 rfl ?_
        refine r_goto (pc' := 167) h0 dX8_begins_163 rfl ?_
        exact w_X8_begins_167 h0 fu x1 x2 hE (f_X8_begins_142 fu x1 x2 n) ih x3 1 x3 S h
theorem w_X8_begins_106 {g : GR} {X : MX} {S' : Mem} (h0 : CX RX8 cX8_begins 4 rm_X8_begins X (wR g)) (fu : Nat) (x1 : Int32) (x2 : Int32) (hE : EN none none S' X (wR g)) : ∀ (n : Nat) (x3 : Int32) (S : Mem), f_X8_begins_106 fu x1 x2 n x3 S = some ((), S') → GV X (wR g) 4 0 0 S [(0, .ref (wA (wR g) 8 0)), (3, .int x3)] 106 [] := by
  intro n
  induction n with
  | zero =>
    intro x3 S h
    exact nomatch (show none = _ from h)
  | succ n ih =>
    intro x3 S h
    rw [f_X8_begins_106] at h
    refine r_iload_n (pc' := 107) h0 1 dX8_begins_106 rfl rfl rfl ?_
    refine r_iconst (pc' := 108) h0 dX8_begins_107 ki_4 rfl ?_
    refine r_ic_ge (pt := 140) (pf := 111) h0 dX8_begins_108 rfl rfl h (fun c108 h => ?_) (fun c108 h => ?_)
    · refine r_iconst (pc' := 141) h0 dX8_begins_140 ki_0 rfl ?_
      refine r_istore_n (pc' := 142) (L' := [(3, .int 0), (0, .ref (wA (wR g) 8 0))]) h0 dX8_begins_141 rfl (Nat.le_of_ble_eq_true rfl) rfl rfl ?_
      refine r_sub (L' := [(0, .ref (wA (wR g) 8 0)), (3, .int 0)]) [1, 0] rfl ?_
      exact w_X8_begins_142 h0 fu x1 x2 hE fu 0 S h
    · refine r_aload_n (pc' := 112) h0 0 dX8_begins_111 rfl rfl rfl ?_
      refine gf_X8_25 (pc' := 115) h0 (Nat.le_of_ble_eq_true rfl) dX8_begins_112 rfl ?_
      refine r_iload_n (pc' := 116) h0 1 dX8_begins_115 rfl rfl rfl ?_
      refine r_bipush (pc' := 118) h0 dX8_begins_116 kb_10 rfl ?_
      refine r_iastA (pc' := 119) h0 (ia_25 g) (Nat.le_of_ble_eq_true rfl) dX8_begins_118 rfl h (fun h => ?_)
      refine r_aload_n (pc' := 120) h0 0 dX8_begins_119 rfl rfl rfl ?_
      refine gf_X8_28 (pc' := 123) h0 (Nat.le_of_ble_eq_true rfl) dX8_begins_120 rfl ?_
      refine r_iload_n (pc' := 124) h0 1 dX8_begins_123 rfl rfl rfl ?_
      refine r_bipush (pc' := 126) h0 dX8_begins_124 kb_20 rfl ?_
      refine r_iastA (pc' := 127) h0 (ia_26 g) (Nat.le_of_ble_eq_true rfl) dX8_begins_126 rfl h (fun h => ?_)
      refine r_aload_n (pc' := 128) h0 0 dX8_begins_127 rfl rfl rfl ?_
      refine gf_X8_47 (pc' := 131) h0 (Nat.le_of_ble_eq_true rfl) dX8_begins_128 rfl ?_
      refine r_iload_n (pc' := 132) h0 1 dX8_begins_131 rfl rfl rfl ?_
      refine r_iconst (pc' := 133) h0 dX8_begins_132 ki_0 rfl ?_
      refine r_iastA (pc' := 134) h0 (ia_32 g) (Nat.le_of_ble_eq_true rfl) dX8_begins_133 rfl h (fun h => ?_)
      refine r_iinc (pc' := 137) (L' := [(3, .int (x3 + 1)), (0, .ref (wA (wR g) 8 0))]) h0 1 dX8_begins_134 rfl ki_1 (Nat.le_of_ble_eq_true rfl) rfl rfl ?_
      refine r_goto (pc' := 106) h0 dX8_begins_137 rfl ?_
      refine r_sub (L' := [(0, .ref (wA (wR g) 8 0)), (3, .int (x3 + 1))]) [1, 0] rfl ?_
      exact ih (x3 + 1) (wI (wI (wI S 25 0 (x3 : Int32).toNatClampNeg 10) 26 0 (x3 : Int32).toNatClampNeg 20) 32 0 (x3 : Int32).toNatClampNeg 0) h
theorem w_X8_begins_37 {g : GR} {X : MX} {S' : Mem} (h0 : CX RX8 cX8_begins 4 rm_X8_begins X (wR g)) (fu : Nat) (x1 : Int32) (x2 : Int32) (hE : EN none none S' X (wR g)) : ∀ (n : Nat) (x3 : Int32) (S : Mem), f_X8_begins_37 fu x1 x2 n x3 S = some ((), S') → GV X (wR g) 4 0 0 S [(0, .ref (wA (wR g) 8 0)), (3, .int x3)] 37 [] := by
  intro n
  induction n with
  | zero =>
    intro x3 S h
    exact nomatch (show none = _ from h)
  | succ n ih =>
    intro x3 S h
    rw [f_X8_begins_37] at h
    refine r_iload_n (pc' := 38) h0 1 dX8_begins_37 rfl rfl rfl ?_
    refine r_iconst (pc' := 39) h0 dX8_begins_38 ki_5 rfl ?_
    refine r_ic_ge (pt := 104) (pf := 42) h0 dX8_begins_39 rfl rfl h (fun c39 h => ?_) (fun c39 h => ?_)
    · refine r_iconst (pc' := 105) h0 dX8_begins_104 ki_0 rfl ?_
      refine r_istore_n (pc' := 106) (L' := [(3, .int 0), (0, .ref (wA (wR g) 8 0))]) h0 dX8_begins_105 rfl (Nat.le_of_ble_eq_true rfl) rfl rfl ?_
      refine r_sub (L' := [(0, .ref (wA (wR g) 8 0)), (3, .int 0)]) [1, 0] rfl ?_
      exact w_X8_begins_106 h0 fu x1 x2 hE fu 0 S h
    · refine r_aload_n (pc' := 43) h0 0 dX8_begins_42 rfl rfl rfl ?_
      refine gf_X8_16 (pc' := 46) h0 (Nat.le_of_ble_eq_true rfl) dX8_begins_43 rfl ?_
      refine r_iload_n (pc' := 47) h0 1 dX8_begins_46 rfl rfl rfl ?_
      refine r_iconst (pc' := 48) h0 dX8_begins_47 ki_2 rfl ?_
      refine r_iastA (pc' := 49) h0 (ia_22 g) (Nat.le_of_ble_eq_true rfl) dX8_begins_48 rfl h (fun h => ?_)
      refine r_aload_n (pc' := 50) h0 0 dX8_begins_49 rfl rfl rfl ?_
      refine gf_X8_13 (pc' := 53) h0 (Nat.le_of_ble_eq_true rfl) dX8_begins_50 rfl ?_
      refine r_iconst (pc' := 54) h0 dX8_begins_53 ki_4 rfl ?_
      refine r_iload_n (pc' := 55) h0 1 dX8_begins_54 rfl rfl rfl ?_
      refine r_imul (pc' := 56) h0 dX8_begins_55 rfl ?_
      refine r_iconst (pc' := 57) h0 dX8_begins_56 ki_3 rfl ?_
      refine r_iastA (pc' := 58) h0 (ia_21 g) (Nat.le_of_ble_eq_true rfl) dX8_begins_57 rfl h (fun h => ?_)
      refine r_aload_n (pc' := 59) h0 0 dX8_begins_58 rfl rfl rfl ?_
      refine gf_X8_13 (pc' := 62) h0 (Nat.le_of_ble_eq_true rfl) dX8_begins_59 rfl ?_
      refine r_iconst (pc' := 63) h0 dX8_begins_62 ki_4 rfl ?_
      refine r_iload_n (pc' := 64) h0 1 dX8_begins_63 rfl rfl rfl ?_
      refine r_imul (pc' := 65) h0 dX8_begins_64 rfl ?_
      refine r_iconst (pc' := 66) h0 dX8_begins_65 ki_1 rfl ?_
      refine r_iadd (pc' := 67) h0 dX8_begins_66 rfl ?_
      refine r_bipush (pc' := 69) h0 dX8_begins_67 kb_12 rfl ?_
      refine r_iastA (pc' := 70) h0 (ia_21 g) (Nat.le_of_ble_eq_true rfl) dX8_begins_69 rfl h (fun h => ?_)
      refine r_aload_n (pc' := 71) h0 0 dX8_begins_70 rfl rfl rfl ?_
      refine gf_X8_22 (pc' := 74) h0 (Nat.le_of_ble_eq_true rfl) dX8_begins_71 rfl ?_
      refine r_iload_n (pc' := 75) h0 1 dX8_begins_74 rfl rfl rfl ?_
      refine r_iconst (pc' := 76) h0 dX8_begins_75 ki_0 rfl ?_
      refine r_iastA (pc' := 77) h0 (ia_24 g) (Nat.le_of_ble_eq_true rfl) dX8_begins_76 rfl h (fun h => ?_)
      refine r_aload_n (pc' := 78) h0 0 dX8_begins_77 rfl rfl rfl ?_
      refine gf_X8_41 (pc' := 81) h0 (Nat.le_of_ble_eq_true rfl) dX8_begins_78 rfl ?_
      refine r_iload_n (pc' := 82) h0 1 dX8_begins_81 rfl rfl rfl ?_
      refine r_iconst (pc' := 83) h0 dX8_begins_82 ki_0 rfl ?_
      refine r_iastA (pc' := 84) h0 (ia_30 g) (Nat.le_of_ble_eq_true rfl) dX8_begins_83 rfl h (fun h => ?_)
      refine r_aload_n (pc' := 85) h0 0 dX8_begins_84 rfl rfl rfl ?_
      refine gf_X8_44 (pc' := 88) h0 (Nat.le_of_ble_eq_true rfl) dX8_begins_85 rfl ?_
      refine r_iload_n (pc' := 89) h0 1 dX8_begins_88 rfl rfl rfl ?_
      refine r_iconst (pc' := 90) h0 dX8_begins_89 ki_0 rfl ?_
      refine r_iastA (pc' := 91) h0 (ia_31 g) (Nat.le_of_ble_eq_true rfl) dX8_begins_90 rfl h (fun h => ?_)
      refine r_aload_n (pc' := 92) h0 0 dX8_begins_91 rfl rfl rfl ?_
      refine gf_X8_53 (pc' := 95) h0 (Nat.le_of_ble_eq_true rfl) dX8_begins_92 rfl ?_
      refine r_iload_n (pc' := 96) h0 1 dX8_begins_95 rfl rfl rfl ?_
      refine r_iconst (pc' := 97) h0 dX8_begins_96 ki_0 rfl ?_
      refine r_zastA (pc' := 98) h0 (iz_34 g) (Nat.le_of_ble_eq_true rfl) dX8_begins_97 rfl h (fun h => ?_)
      refine r_iinc (pc' := 101) (L' := [(3, .int (x3 + 1)), (0, .ref (wA (wR g) 8 0))]) h0 1 dX8_begins_98 rfl ki_1 (Nat.le_of_ble_eq_true rfl) rfl rfl ?_
      refine r_goto (pc' := 37) h0 dX8_begins_101 rfl ?_
      refine r_sub (L' := [(0, .ref (wA (wR g) 8 0)), (3, .int (x3 + 1))]) [1, 0] rfl ?_
      exact ih (x3 + 1) (wI (wI (wI (wI (wI (wI (wI S 22 0 (x3 : Int32).toNatClampNeg 2) 21 0 ((4 * x3) : Int32).toNatClampNeg 3) 21 0 (((4 * x3) + 1) : Int32).toNatClampNeg 12) 24 0 (x3 : Int32).toNatClampNeg 0) 30 0 (x3 : Int32).toNatClampNeg 0) 31 0 (x3 : Int32).toNatClampNeg 0) 34 0 (x3 : Int32).toNatClampNeg (nb 0)) h
/-- the machine does what f_X8_begins says -/
theorem c_X8_begins (g : GR) (fu : Nat) (x1 : Int32) (x2 : Int32) (S : Mem) {S' : Mem} (h : f_X8_begins fu x1 x2 S = some ((), S')) : ctN yX8_begins cX8_begins 4 none rm_X8_begins (wR g) [.ref (wA (wR g) 8 0), .int x1, .int x2] S none S' := by
  refine ct_of (own := RX8) (L := [(0, .ref (wA (wR g) 8 0)), (1, .int x1), (2, .int x2)]) (by decide +kernel) rfl (Nat.le_of_ble_eq_true rfl) rfl (fun X h0 hE => ?_)
  rw [f_X8_begins] at h
  refine r_aload_n (pc' := 1) h0 0 dX8_begins_0 rfl rfl rfl ?_
  refine r_iload_n (pc' := 2) h0 1 dX8_begins_1 rfl rfl rfl ?_
  refine pf_X8_76 (pc' := 5) h0 (Nat.le_of_ble_eq_true rfl) dX8_begins_2 rfl ?_
  refine r_aload_n (pc' := 6) h0 0 dX8_begins_5 rfl rfl rfl ?_
  refine r_iload_n (pc' := 7) h0 2 dX8_begins_6 rfl rfl rfl ?_
  refine pf_X8_83 (pc' := 10) h0 (Nat.le_of_ble_eq_true rfl) dX8_begins_7 rfl ?_
  refine r_aload_n (pc' := 11) h0 0 dX8_begins_10 rfl rfl rfl ?_
  refine r_iconst (pc' := 12) h0 dX8_begins_11 ki_0 rfl ?_
  refine pf_X8_86 (pc' := 15) h0 (Nat.le_of_ble_eq_true rfl) dX8_begins_12 rfl rfl ?_
  refine r_aload_n (pc' := 16) h0 0 dX8_begins_15 rfl rfl rfl ?_
  refine r_iconst (pc' := 17) h0 dX8_begins_16 ki_0 rfl ?_
  refine pf_X8_90 (pc' := 20) h0 (Nat.le_of_ble_eq_true rfl) dX8_begins_17 rfl ?_
  refine r_aload_n (pc' := 21) h0 0 dX8_begins_20 rfl rfl rfl ?_
  refine r_iconst (pc' := 22) h0 dX8_begins_21 ki_0 rfl ?_
  refine pf_X8_93 (pc' := 25) h0 (Nat.le_of_ble_eq_true rfl) dX8_begins_22 rfl ?_
  refine r_aload_n (pc' := 26) h0 0 dX8_begins_25 rfl rfl rfl ?_
  refine r_iconst (pc' := 27) h0 dX8_begins_26 ki_0 rfl ?_
  refine pf_X8_96 (pc' := 30) h0 (Nat.le_of_ble_eq_true rfl) dX8_begins_27 rfl ?_
  refine r_aload_n (pc' := 31) h0 0 dX8_begins_30 rfl rfl rfl ?_
  refine r_iconst (pc' := 32) h0 dX8_begins_31 ki_0 rfl ?_
  refine pf_X8_99 (pc' := 35) h0 (Nat.le_of_ble_eq_true rfl) dX8_begins_32 rfl ?_
  refine r_iconst (pc' := 36) h0 dX8_begins_35 ki_0 rfl ?_
  refine r_istore_n (pc' := 37) (L' := [(3, .int 0), (0, .ref (wA (wR g) 8 0)), (1, .int x1), (2, .int x2)]) h0 dX8_begins_36 rfl (Nat.le_of_ble_eq_true rfl) rfl rfl ?_
  refine r_sub (L' := [(0, .ref (wA (wR g) 8 0)), (3, .int 0)]) [1, 0] rfl ?_
  exact w_X8_begins_37 h0 fu x1 x2 hE fu 0 (wI (wI (wI (wI (wI (wI (wI S 8 0 1 x1) 8 0 2 x2) 8 0 3 0) 8 0 14 0) 8 0 15 0) 8 0 16 0) 8 0 17 0) h
theorem w_X8_begin_38 {g : GR} {X : MX} {S' : Mem} (h0 : CX RX8 cX8_begin 3 rm_X8_begin X (wR g)) (fu : Nat) (x1 : Int32) (x2 : Int32) (hE : EN none none S' X (wR g)) : ∀ (S : Mem), f_X8_begin_38 fu x1 x2 S = some ((), S') → GV X (wR g) 3 0 0 S [] 38 [] := by
  intro S h
  rw [f_X8_begin_38] at h
  exact r_vret h0 hE dX8_begin_38 h
theorem w_X8_begin_26 {g : GR} {X : MX} {S' : Mem} (h0 : CX RX8 cX8_begin 3 rm_X8_begin X (wR g)) (fu : Nat) (x1 : Int32) (x2 : Int32) (hE : EN none none S' X (wR g)) : ∀ (t0 : Int32) (S : Mem), f_X8_begin_26 fu x1 x2 t0 S = some ((), S') → GV X (wR g) 3 0 0 S [(0, .ref (wA (wR g) 8 0)), (1, .int x1), (2, .int x2)] 26 [.int t0, .ref (wA (wR g) 8 0)] := by
  intro t0 S h
  rw [f_X8_begin_26] at h
  obtain ⟨r26, S26, h26, h⟩ := b2_some h
  refine go_V (k_X8_102 g) (st2 := [.int r26]) (pc' := 29) [.int t0] [] h0 (Nat.le_of_ble_eq_true rfl) (c_X8_holds g fu t0 S h26) rfl rfl dX8_begin_26 rfl (Nat.le_of_ble_eq_true rfl) ⟨rfl, rfl, Nat.le_of_ble_eq_true rfl, Nat.le_of_ble_eq_true rfl⟩ ⟨Nat.le_of_ble_eq_true rfl, Nat.le_of_ble_eq_true rfl⟩ rfl ?_
  refine r_if_eq (pt := 38) (pf := 32) h0 dX8_begin_29 rfl rfl h (fun c29 h => ?_) (fun c29 h => ?_)
  · refine r_sub (L' := []) [] rfl ?_
    exact w_X8_begin_38 h0 fu x1 x2 hE S26 h
  · refine r_aload_n (pc' := 33) h0 0 dX8_begin_32 rfl rfl rfl ?_
    refine r_iload_n (pc' := 34) h0 1 dX8_begin_33 rfl rfl rfl ?_
    refine r_iload_n (pc' := 35) h0 2 dX8_begin_34 rfl rfl rfl ?_
    obtain ⟨r35, S35, h35, h⟩ := b2_some h
    refine go_V (k_X8_68 g) (st2 := []) (pc' := 38) [.int x1, .int x2] [] h0 (Nat.le_of_ble_eq_true rfl) (c_X8_begins g fu x1 x2 S26 h35) rfl rfl dX8_begin_35 rfl (Nat.le_of_ble_eq_true rfl) ⟨rfl, rfl, Nat.le_of_ble_eq_true rfl, Nat.le_of_ble_eq_true rfl⟩ ⟨Nat.le_of_ble_eq_true rfl, Nat.le_of_ble_eq_true rfl⟩ rfl ?_
    refine r_sub (L' := []) [] rfl ?_
    exact w_X8_begin_38 h0 fu x1 x2 hE S35 h
theorem w_X8_begin_25 {g : GR} {X : MX} {S' : Mem} (h0 : CX RX8 cX8_begin 3 rm_X8_begin X (wR g)) (fu : Nat) (x1 : Int32) (x2 : Int32) (hE : EN none none S' X (wR g)) : ∀ (S : Mem), f_X8_begin_25 fu x1 x2 S = some ((), S') → GV X (wR g) 3 0 0 S [(0, .ref (wA (wR g) 8 0)), (1, .int x1), (2, .int x2)] 25 [.ref (wA (wR g) 8 0)] := by
  intro S h
  rw [f_X8_begin_25] at h
  refine r_iconst (pc' := 26) h0 dX8_begin_25 ki_1 rfl ?_
  exact w_X8_begin_26 h0 fu x1 x2 hE 1 S h
/-- the machine does what f_X8_begin says -/
theorem c_X8_begin (g : GR) (fu : Nat) (x1 : Int32) (x2 : Int32) (S : Mem) {S' : Mem} (h : f_X8_begin fu x1 x2 S = some ((), S')) : ctN yX8_begin cX8_begin 3 none rm_X8_begin (wR g) [.ref (wA (wR g) 8 0), .int x1, .int x2] S none S' := by
  refine ct_of (own := RX8) (L := [(0, .ref (wA (wR g) 8 0)), (1, .int x1), (2, .int x2)]) (by decide +kernel) rfl (Nat.le_of_ble_eq_true rfl) rfl (fun X h0 hE => ?_)
  rw [f_X8_begin] at h
  refine r_aload_n (pc' := 1) h0 0 dX8_begin_0 rfl rfl rfl ?_
  refine r_iload_n (pc' := 2) h0 1 dX8_begin_1 rfl rfl rfl ?_
  refine r_iconst (pc' := 3) h0 dX8_begin_2 ki_2 rfl ?_
  refine r_iconst (pc' := 4) h0 dX8_begin_3 ki_5 rfl ?_
  obtain ⟨r4, h4, h⟩ := b1_some h
  refine go_S (k_X8_79 g) (st2 := [.int r4, .ref (wA (wR g) 8 0)]) (pc' := 7) [.int x1, .int 2, .int 5] [.ref (wA (wR g) 8 0)] h0 (c_X8_in g fu x1 2 5 S h4) rfl rfl dX8_begin_4 rfl (Nat.le_of_ble_eq_true rfl) ⟨rfl, rfl, Nat.le_of_ble_eq_true rfl, Nat.le_of_ble_eq_true rfl⟩ ⟨Nat.le_of_ble_eq_true rfl, Nat.le_of_ble_eq_true rfl⟩ rfl ?_
  refine r_if_eq (pt := 25) (pf := 10) h0 dX8_begin_7 rfl rfl h (fun c7 h => ?_) (fun c7 h => ?_)
  · exact w_X8_begin_25 h0 fu x1 x2 hE S h
  · refine r_iload_n (pc' := 11) h0 2 dX8_begin_10 rfl rfl rfl ?_
    refine r_bipush (pc' := 13) h0 dX8_begin_11 kb_30 rfl ?_
    refine r_bipush (pc' := 15) h0 dX8_begin_13 kb_90 rfl ?_
    obtain ⟨r15, h15, h⟩ := b1_some h
    refine go_S (k_X8_79 g) (st2 := [.int r15, .ref (wA (wR g) 8 0)]) (pc' := 18) [.int x2, .int 30, .int 90] [.ref (wA (wR g) 8 0)] h0 (c_X8_in g fu x2 30 90 S h15) rfl rfl dX8_begin_15 rfl (Nat.le_of_ble_eq_true rfl) ⟨rfl, rfl, Nat.le_of_ble_eq_true rfl, Nat.le_of_ble_eq_true rfl⟩ ⟨Nat.le_of_ble_eq_true rfl, Nat.le_of_ble_eq_true rfl⟩ rfl ?_
    refine r_if_eq (pt := 25) (pf := 21) h0 dX8_begin_18 rfl rfl h (fun c18 h => ?_) (fun c18 h => ?_)
    · exact w_X8_begin_25 h0 fu x1 x2 hE S h
    · refine r_iconst (pc' := 22) h0 dX8_begin_21 ki_0 rfl ?_
      refine r_goto (pc' := 26) h0 dX8_begin_22 rfl ?_
      exact w_X8_begin_26 h0 fu x1 x2 hE 0 S h
theorem w_X8_areIn_38 {g : GR} {X : MX} {r : Int32}  (h0 : CX RX8 cX8_areIn 5 rm_X8_areIn X (wR g)) (fu : Nat) (x1 : Int32) (x2 : Int32) (x3 : Int32) (x4 : Int32) (S : Mem) (hE : EN (some .boolean) (some (.int r)) S X (wR g)) : ∀ (t0 : Int32), f_X8_areIn_38 fu x1 x2 x3 x4 S t0 = some r → GV X (wR g) 5 0 0 S [] 38 [.int t0] := by
  intro t0 h
  rw [f_X8_areIn_38] at h
  exact r_zretR h0 hE dX8_areIn_38 h
theorem w_X8_areIn_37 {g : GR} {X : MX} {r : Int32}  (h0 : CX RX8 cX8_areIn 5 rm_X8_areIn X (wR g)) (fu : Nat) (x1 : Int32) (x2 : Int32) (x3 : Int32) (x4 : Int32) (S : Mem) (hE : EN (some .boolean) (some (.int r)) S X (wR g)) : f_X8_areIn_37 fu x1 x2 x3 x4 S = some r → GV X (wR g) 5 0 0 S [] 37 [] := by
  intro  h
  rw [f_X8_areIn_37] at h
  refine r_iconst (pc' := 38) h0 dX8_areIn_37 ki_0 rfl ?_
  exact w_X8_areIn_38 h0 fu x1 x2 x3 x4 S hE 0 h
/-- the machine does what f_X8_areIn says -/
theorem c_X8_areIn (g : GR) (fu : Nat) (x1 : Int32) (x2 : Int32) (x3 : Int32) (x4 : Int32) (S : Mem) {r : Int32}  (h : f_X8_areIn fu x1 x2 x3 x4 S = some r) : ctN yX8_areIn cX8_areIn 5 (some .boolean) rm_X8_areIn (wR g) [.ref (wA (wR g) 8 0), .int x1, .int x2, .int x3, .int x4] S (some (.int r)) S := by
  refine ct_of (own := RX8) (L := [(0, .ref (wA (wR g) 8 0)), (1, .int x1), (2, .int x2), (3, .int x3), (4, .int x4)]) (by decide +kernel) rfl (Nat.le_of_ble_eq_true rfl) rfl (fun X h0 hE => ?_)
  rw [f_X8_areIn] at h
  refine r_iload_n (pc' := 1) h0 2 dX8_areIn_0 rfl rfl rfl ?_
  refine r_iload_n (pc' := 2) h0 3 dX8_areIn_1 rfl rfl rfl ?_
  obtain ⟨r2, h2, h⟩ := b1_some h
  refine go_S (k_X8_106 g) (st2 := [.int r2]) (pc' := 5) [.int x2, .int x3] [] h0 (c_X8_has g fu x2 x3 S h2) rfl rfl dX8_areIn_2 rfl (Nat.le_of_ble_eq_true rfl) ⟨rfl, rfl, Nat.le_of_ble_eq_true rfl, Nat.le_of_ble_eq_true rfl⟩ ⟨Nat.le_of_ble_eq_true rfl, Nat.le_of_ble_eq_true rfl⟩ rfl ?_
  refine r_if_eq (pt := 37) (pf := 8) h0 dX8_areIn_5 rfl rfl h (fun c5 h => ?_) (fun c5 h => ?_)
  · refine r_sub (L' := []) [] rfl ?_
    exact w_X8_areIn_37 h0 fu x1 x2 x3 x4 S hE h
  · refine r_iload_n (pc' := 9) h0 2 dX8_areIn_8 rfl rfl rfl ?_
    refine r_iload (pc' := 11) h0 4 dX8_areIn_9 rfl rfl ?_
    obtain ⟨r11, h11, h⟩ := b1_some h
    refine go_S (k_X8_106 g) (st2 := [.int r11]) (pc' := 14) [.int x2, .int x4] [] h0 (c_X8_has g fu x2 x4 S h11) rfl rfl dX8_areIn_11 rfl (Nat.le_of_ble_eq_true rfl) ⟨rfl, rfl, Nat.le_of_ble_eq_true rfl, Nat.le_of_ble_eq_true rfl⟩ ⟨Nat.le_of_ble_eq_true rfl, Nat.le_of_ble_eq_true rfl⟩ rfl ?_
    refine r_if_eq (pt := 37) (pf := 17) h0 dX8_areIn_14 rfl rfl h (fun c14 h => ?_) (fun c14 h => ?_)
    · refine r_sub (L' := []) [] rfl ?_
      exact w_X8_areIn_37 h0 fu x1 x2 x3 x4 S hE h
    · refine r_aload_n (pc' := 18) h0 0 dX8_areIn_17 rfl rfl rfl ?_
      refine gf_X8_7 (pc' := 21) h0 (Nat.le_of_ble_eq_true rfl) dX8_areIn_18 rfl ?_
      refine r_iload_n (pc' := 22) h0 1 dX8_areIn_21 rfl rfl rfl ?_
      refine r_iload_n (pc' := 23) h0 3 dX8_areIn_22 rfl rfl rfl ?_
      refine r_iload (pc' := 25) h0 4 dX8_areIn_23 rfl rfl ?_
      obtain ⟨r25, h25, h⟩ := b1_some h
      refine go_S (k_X8_110 g) (st2 := [.int r25, .ref (wA (wR g) 20 0)]) (pc' := 28) [.int x1, .int x3, .int x4] [.ref (wA (wR g) 20 0)] h0 (c_X8_conflict g fu x1 x3 x4 S h25) rfl rfl dX8_areIn_25 rfl (Nat.le_of_ble_eq_true rfl) ⟨rfl, rfl, Nat.le_of_ble_eq_true rfl, Nat.le_of_ble_eq_true rfl⟩ ⟨Nat.le_of_ble_eq_true rfl, Nat.le_of_ble_eq_true rfl⟩ rfl ?_
      refine r_ialdA (pc' := 29) h0 (ia_20 g) (Nat.le_of_ble_eq_true rfl) dX8_areIn_28 rfl h (fun h => ?_)
      refine r_iconst (pc' := 30) h0 dX8_areIn_29 ki_m1 rfl ?_
      refine r_ic_eq (pt := 37) (pf := 33) h0 dX8_areIn_30 rfl rfl h (fun c30 h => ?_) (fun c30 h => ?_)
      · refine r_sub (L' := []) [] rfl ?_
        exact w_X8_areIn_37 h0 fu x1 x2 x3 x4 S hE h
      · refine r_iconst (pc' := 34) h0 dX8_areIn_33 ki_1 rfl ?_
        refine r_goto (pc' := 38) h0 dX8_areIn_34 rfl ?_
        refine r_sub (L' := []) [] rfl ?_
        exact w_X8_areIn_38 h0 fu x1 x2 x3 x4 S hE 1 h
theorem w_X8_isBad_2 {g : GR} {X : MX} {r : Int32}  (h0 : CX RX8 cX8_isBad 4 rm_X8_isBad X (wR g)) (fu : Nat) (x1 : Int32) (x2 : Int32) (S : Mem) (hE : EN (some .boolean) (some (.int r)) S X (wR g)) : ∀ (n : Nat) (x3 : Int32), f_X8_isBad_2 fu x1 x2 S n x3 = some r → GV X (wR g) 4 0 0 S [(0, .ref (wA (wR g) 8 0)), (1, .int x1), (2, .int x2), (3, .int x3)] 2 [] := by
  intro n
  induction n with
  | zero =>
    intro x3 h
    exact nomatch (show none = _ from h)
  | succ n ih =>
    intro x3 h
    rw [f_X8_isBad_2] at h
    refine r_iload_n (pc' := 3) h0 3 dX8_isBad_2 rfl rfl rfl ?_
    refine r_bipush (pc' := 5) h0 dX8_isBad_3 kb_16 rfl ?_
    refine r_ic_ge (pt := 31) (pf := 8) h0 dX8_isBad_5 rfl rfl h (fun c5 h => ?_) (fun c5 h => ?_)
    · refine r_iconst (pc' := 32) h0 dX8_isBad_31 ki_0 rfl ?_
      exact r_zretR h0 hE dX8_isBad_32 h
    · refine r_aload_n (pc' := 9) h0 0 dX8_isBad_8 rfl rfl rfl ?_
      refine r_iload_n (pc' := 10) h0 1 dX8_isBad_9 rfl rfl rfl ?_
      refine r_iload_n (pc' := 11) h0 2 dX8_isBad_10 rfl rfl rfl ?_
      refine r_iload_n (pc' := 12) h0 3 dX8_isBad_11 rfl rfl rfl ?_
      refine r_iconst (pc' := 13) h0 dX8_isBad_12 ki_4 rfl ?_
      refine r_idiv (pc' := 14) h0 dX8_isBad_13 rfl h (fun h => ?_)
      refine r_iload_n (pc' := 15) h0 3 dX8_isBad_14 rfl rfl rfl ?_
      refine r_iconst (pc' := 16) h0 dX8_isBad_15 ki_4 rfl ?_
      refine r_irem (pc' := 17) h0 dX8_isBad_16 rfl h (fun h => ?_)
      obtain ⟨r17, h17, h⟩ := b1_some h
      refine go_V (k_X8_114 g) (st2 := [.int r17]) (pc' := 20) [.int x1, .int x2, .int (x3 / 4), .int (x3 - x3 / 4 * 4)] [] h0 (Nat.le_of_ble_eq_true rfl) (c_X8_areIn g fu x1 x2 (x3 / 4) (x3 - x3 / 4 * 4) S h17) rfl rfl dX8_isBad_17 rfl (Nat.le_of_ble_eq_true rfl) ⟨rfl, rfl, Nat.le_of_ble_eq_true rfl, Nat.le_of_ble_eq_true rfl⟩ ⟨Nat.le_of_ble_eq_true rfl, Nat.le_of_ble_eq_true rfl⟩ rfl ?_
      refine r_if_eq (pt := 25) (pf := 23) h0 dX8_isBad_20 rfl rfl h (fun c20 h => ?_) (fun c20 h => ?_)
      · refine r_iinc (pc' := 28) (L' := [(3, .int (x3 + 1)), (0, .ref (wA (wR g) 8 0)), (1, .int x1), (2, .int x2)]) h0 3 dX8_isBad_25 rfl ki_1 (Nat.le_of_ble_eq_true rfl) rfl rfl ?_
        refine r_goto (pc' := 2) h0 dX8_isBad_28 rfl ?_
        refine r_sub (L' := [(0, .ref (wA (wR g) 8 0)), (1, .int x1), (2, .int x2), (3, .int (x3 + 1))]) [1, 2, 3, 0] rfl ?_
        exact ih (x3 + 1) h
      · refine r_iconst (pc' := 24) h0 dX8_isBad_23 ki_1 rfl ?_
        exact r_zretR h0 hE dX8_isBad_24 h
/-- the machine does what f_X8_isBad says -/
theorem c_X8_isBad (g : GR) (fu : Nat) (x1 : Int32) (x2 : Int32) (S : Mem) {r : Int32}  (h : f_X8_isBad fu x1 x2 S = some r) : ctN yX8_isBad cX8_isBad 4 (some .boolean) rm_X8_isBad (wR g) [.ref (wA (wR g) 8 0), .int x1, .int x2] S (some (.int r)) S := by
  refine ct_of (own := RX8) (L := [(0, .ref (wA (wR g) 8 0)), (1, .int x1), (2, .int x2)]) (by decide +kernel) rfl (Nat.le_of_ble_eq_true rfl) rfl (fun X h0 hE => ?_)
  rw [f_X8_isBad] at h
  refine r_iconst (pc' := 1) h0 dX8_isBad_0 ki_0 rfl ?_
  refine r_istore_n (pc' := 2) (L' := [(3, .int 0), (0, .ref (wA (wR g) 8 0)), (1, .int x1), (2, .int x2)]) h0 dX8_isBad_1 rfl (Nat.le_of_ble_eq_true rfl) rfl rfl ?_
  refine r_sub (L' := [(0, .ref (wA (wR g) 8 0)), (1, .int x1), (2, .int x2), (3, .int 0)]) [1, 2, 3, 0] rfl ?_
  exact w_X8_isBad_2 h0 fu x1 x2 S hE fu 0 h
theorem w_X8_errorOfConflict_133 {g : GR} {X : MX} {r : Int32}  (h0 : CX RX8 cX8_errorOfConflict 8 rm_X8_errorOfConflict X (wR g)) (fu : Nat) (x1 : Int32) (x2 : Int32) (x3 : Int32) (x4 : Int32) (S : Mem) (hE : EN (some .int) (some (.int r)) S X (wR g)) : ∀ (t0 : Int32), f_X8_errorOfConflict_133 fu x1 x2 x3 x4 S t0 = some r → GV X (wR g) 8 0 0 S [] 133 [.int t0] := by
  intro t0 h
  rw [f_X8_errorOfConflict_133] at h
  exact r_iretR h0 hE dX8_errorOfConflict_133 h
theorem w_X8_errorOfConflict_128 {g : GR} {X : MX} {r : Int32}  (h0 : CX RX8 cX8_errorOfConflict 8 rm_X8_errorOfConflict X (wR g)) (fu : Nat) (x1 : Int32) (x2 : Int32) (x3 : Int32) (x4 : Int32) (S : Mem) (hE : EN (some .int) (some (.int r)) S X (wR g)) : f_X8_errorOfConflict_128 fu x1 x2 x3 x4 S = some r → GV X (wR g) 8 0 0 S [] 128 [] := by
  intro  h
  rw [f_X8_errorOfConflict_128] at h
  refine r_iconst (pc' := 129) h0 dX8_errorOfConflict_128 ki_3 rfl ?_
  refine r_goto (pc' := 133) h0 dX8_errorOfConflict_129 rfl ?_
  exact w_X8_errorOfConflict_133 h0 fu x1 x2 x3 x4 S hE 3 h
theorem w_X8_errorOfConflict_121 {g : GR} {X : MX} {r : Int32}  (h0 : CX RX8 cX8_errorOfConflict 8 rm_X8_errorOfConflict X (wR g)) (fu : Nat) (x1 : Int32) (x2 : Int32) (x3 : Int32) (x4 : Int32) (S : Mem) (hE : EN (some .int) (some (.int r)) S X (wR g)) : f_X8_errorOfConflict_121 fu x1 x2 x3 x4 S = some r → GV X (wR g) 8 0 0 S [(0, .ref (wA (wR g) 8 0))] 121 [] := by
  intro  h
  rw [f_X8_errorOfConflict_121] at h
  refine r_aload_n (pc' := 122) h0 0 dX8_errorOfConflict_121 rfl rfl rfl ?_
  refine gf_X8_86 (pc' := 125) h0 (Nat.le_of_ble_eq_true rfl) dX8_errorOfConflict_122 rfl ?_
  refine r_if_eq (pt := 132) (pf := 128) h0 dX8_errorOfConflict_125 rfl rfl h (fun c125 h => ?_) (fun c125 h => ?_)
  · refine r_iconst (pc' := 133) h0 dX8_errorOfConflict_132 ki_0 rfl ?_
    refine r_sub (L' := []) [] rfl ?_
    exact w_X8_errorOfConflict_133 h0 fu x1 x2 x3 x4 S hE 0 h
  · refine r_sub (L' := []) [] rfl ?_
    exact w_X8_errorOfConflict_128 h0 fu x1 x2 x3 x4 S hE h
theorem w_X8_errorOfConflict_106 {g : GR} {X : MX} {r : Int32}  (h0 : CX RX8 cX8_errorOfConflict 8 rm_X8_errorOfConflict X (wR g)) (fu : Nat) (x1 : Int32) (x2 : Int32) (x3 : Int32) (x4 : Int32) (S : Mem) (hE : EN (some .int) (some (.int r)) S X (wR g)) : f_X8_errorOfConflict_106 fu x1 x2 x3 x4 S = some r → GV X (wR g) 8 0 0 S [] 106 [] := by
  intro  h
  rw [f_X8_errorOfConflict_106] at h
  refine r_iconst (pc' := 107) h0 dX8_errorOfConflict_106 ki_2 rfl ?_
  refine r_goto (pc' := 133) h0 dX8_errorOfConflict_107 rfl ?_
  exact w_X8_errorOfConflict_133 h0 fu x1 x2 x3 x4 S hE 2 h
theorem w_X8_errorOfConflict_82 {g : GR} {X : MX} {r : Int32}  (h0 : CX RX8 cX8_errorOfConflict 8 rm_X8_errorOfConflict X (wR g)) (fu : Nat) (x1 : Int32) (x2 : Int32) (x3 : Int32) (x4 : Int32) (S : Mem) (hE : EN (some .int) (some (.int r)) S X (wR g)) (K30 : Int32 → Int32 → Option Int32) (kK30 : ∀ (x5 : Int32) (x6 : Int32), K30 x5 x6 = some r → GV X (wR g) 8 0 0 S [(0, .ref (wA (wR g) 8 0)), (1, .int x1), (2, .int x2), (3, .int x3), (4, .int x4), (5, .int x5), (6, .int x6)] 30 []) : ∀ (x6 : Int32) (t0 : Int32), f_X8_errorOfConflict_82 fu K30 x1 x2 x3 x4 S x6 t0 = some r → GV X (wR g) 8 0 0 S [(0, .ref (wA (wR g) 8 0)), (1, .int x1), (2, .int x2), (3, .int x3), (4, .int x4), (6, .int x6)] 82 [.int t0] := by
  intro x6 t0 h
  rw [f_X8_errorOfConflict_82] at h
  refine r_istore (pc' := 84) (L' := [(5, .int t0), (0, .ref (wA (wR g) 8 0)), (1, .int x1), (2, .int x2), (3, .int x3), (4, .int x4), (6, .int x6)]) h0 dX8_errorOfConflict_82 (Nat.le_of_ble_eq_true rfl) rfl rfl ?_
  refine r_iinc (pc' := 87) (L' := [(6, .int (x6 + 1)), (5, .int t0), (0, .ref (wA (wR g) 8 0)), (1, .int x1), (2, .int x2), (3, .int x3), (4, .int x4)]) h0 6 dX8_errorOfConflict_84 rfl ki_1 (Nat.le_of_ble_eq_true rfl) rfl rfl ?_
  refine r_goto (pc' := 30) h0 dX8_errorOfConflict_87 rfl ?_
  refine r_sub (L' := [(0, .ref (wA (wR g) 8 0)), (1, .int x1), (2, .int x2), (3, .int x3), (4, .int x4), (5, .int t0), (6, .int (x6 + 1))]) [2, 3, 4, 5, 6, 1, 0] rfl ?_
  exact kK30 t0 (x6 + 1) h
theorem w_X8_errorOfConflict_81 {g : GR} {X : MX} {r : Int32}  (h0 : CX RX8 cX8_errorOfConflict 8 rm_X8_errorOfConflict X (wR g)) (fu : Nat) (x1 : Int32) (x2 : Int32) (x3 : Int32) (x4 : Int32) (S : Mem) (hE : EN (some .int) (some (.int r)) S X (wR g)) (K30 : Int32 → Int32 → Option Int32) (kK30 : ∀ (x5 : Int32) (x6 : Int32), K30 x5 x6 = some r → GV X (wR g) 8 0 0 S [(0, .ref (wA (wR g) 8 0)), (1, .int x1), (2, .int x2), (3, .int x3), (4, .int x4), (5, .int x5), (6, .int x6)] 30 []) : ∀ (x6 : Int32), f_X8_errorOfConflict_81 fu K30 x1 x2 x3 x4 S x6 = some r → GV X (wR g) 8 0 0 S [(0, .ref (wA (wR g) 8 0)), (1, .int x1), (2, .int x2), (3, .int x3), (4, .int x4), (6, .int x6)] 81 [] := by
  intro x6 h
  rw [f_X8_errorOfConflict_81] at h
  refine r_iconst (pc' := 82) h0 dX8_errorOfConflict_81 ki_0 rfl ?_
  exact w_X8_errorOfConflict_82 h0 fu x1 x2 x3 x4 S hE K30 kK30 x6 0 h
theorem w_X8_errorOfConflict_77 {g : GR} {X : MX} {r : Int32}  (h0 : CX RX8 cX8_errorOfConflict 8 rm_X8_errorOfConflict X (wR g)) (fu : Nat) (x1 : Int32) (x2 : Int32) (x3 : Int32) (x4 : Int32) (S : Mem) (hE : EN (some .int) (some (.int r)) S X (wR g)) (K30 : Int32 → Int32 → Option Int32) (kK30 : ∀ (x5 : Int32) (x6 : Int32), K30 x5 x6 = some r → GV X (wR g) 8 0 0 S [(0, .ref (wA (wR g) 8 0)), (1, .int x1), (2, .int x2), (3, .int x3), (4, .int x4), (5, .int x5), (6, .int x6)] 30 []) : ∀ (x6 : Int32), f_X8_errorOfConflict_77 fu K30 x1 x2 x3 x4 S x6 = some r → GV X (wR g) 8 0 0 S [(0, .ref (wA (wR g) 8 0)), (1, .int x1), (2, .int x2), (3, .int x3), (4, .int x4), (6, .int x6)] 77 [] := by
  intro x6 h
  rw [f_X8_errorOfConflict_77] at h
  refine r_iconst (pc' := 78) h0 dX8_errorOfConflict_77 ki_1 rfl ?_
  refine r_goto (pc' := 82) h0 dX8_errorOfConflict_78 rfl ?_
  exact w_X8_errorOfConflict_82 h0 fu x1 x2 x3 x4 S hE K30 kK30 x6 1 h
theorem w_X8_errorOfConflict_30 {g : GR} {X : MX} {r : Int32}  (h0 : CX RX8 cX8_errorOfConflict 8 rm_X8_errorOfConflict X (wR g)) (fu : Nat) (x1 : Int32) (x2 : Int32) (x3 : Int32) (x4 : Int32) (S : Mem) (hE : EN (some .int) (some (.int r)) S X (wR g)) : ∀ (n : Nat) (x5 : Int32) (x6 : Int32), f_X8_errorOfConflict_30 fu x1 x2 x3 x4 S n x5 x6 = some r → GV X (wR g) 8 0 0 S [(0, .ref (wA (wR g) 8 0)), (1, .int x1), (2, .int x2), (3, .int x3), (4, .int x4), (5, .int x5), (6, .int x6)] 30 [] := by
  intro n
  induction n with
  | zero =>
    intro x5 x6 h
    exact nomatch (show none = _ from h)
  | succ n ih =>
    intro x5 x6 h
    rw [f_X8_errorOfConflict_30] at h
    refine r_iload (pc' := 32) h0 6 dX8_errorOfConflict_30 rfl rfl ?_
    refine r_aload_n (pc' := 33) h0 0 dX8_errorOfConflict_32 rfl rfl rfl ?_
    refine gf_X8_16 (pc' := 36) h0 (Nat.le_of_ble_eq_true rfl) dX8_errorOfConflict_33 rfl ?_
    refine r_iload_n (pc' := 37) h0 1 dX8_errorOfConflict_36 rfl rfl rfl ?_
    refine r_ialdA (pc' := 38) h0 (ia_22 g) (Nat.le_of_ble_eq_true rfl) dX8_errorOfConflict_37 rfl h (fun h => ?_)
    refine r_ic_ge (pt := 90) (pf := 41) h0 dX8_errorOfConflict_38 rfl rfl h (fun c38 h => ?_) (fun c38 h => ?_)
    · refine r_iload_n (pc' := 91) h0 2 dX8_errorOfConflict_90 rfl rfl rfl ?_
      refine r_iload_n (pc' := 92) h0 3 dX8_errorOfConflict_91 rfl rfl rfl ?_
      refine r_ic_eq (pt := 106) (pf := 95) h0 dX8_errorOfConflict_92 rfl rfl h (fun c92 h => ?_) (fun c92 h => ?_)
      · refine r_sub (L' := []) [] rfl ?_
        exact w_X8_errorOfConflict_106 h0 fu x1 x2 x3 x4 S hE h
      · refine r_iload (pc' := 97) h0 4 dX8_errorOfConflict_95 rfl rfl ?_
        refine r_iconst (pc' := 98) h0 dX8_errorOfConflict_97 ki_m1 rfl ?_
        refine r_bipush (pc' := 100) h0 dX8_errorOfConflict_98 kb_9 rfl ?_
        obtain ⟨r100, h100, h⟩ := b1_some h
        refine go_S (k_X8_79 g) (st2 := [.int r100]) (pc' := 103) [.int x4, .int (-1), .int 9] [] h0 (c_X8_in g fu x4 (-1) 9 S h100) rfl rfl dX8_errorOfConflict_100 rfl (Nat.le_of_ble_eq_true rfl) ⟨rfl, rfl, Nat.le_of_ble_eq_true rfl, Nat.le_of_ble_eq_true rfl⟩ ⟨Nat.le_of_ble_eq_true rfl, Nat.le_of_ble_eq_true rfl⟩ rfl ?_
        refine r_if_ne (pt := 110) (pf := 106) h0 dX8_errorOfConflict_103 rfl rfl h (fun c103 h => ?_) (fun c103 h => ?_)
        · refine r_iload (pc' := 112) h0 4 dX8_errorOfConflict_110 rfl rfl ?_
          refine r_iconst (pc' := 113) h0 dX8_errorOfConflict_112 ki_m1 rfl ?_
          refine r_ic_eq (pt := 121) (pf := 116) h0 dX8_errorOfConflict_113 rfl rfl h (fun c113 h => ?_) (fun c113 h => ?_)
          · refine r_sub (L' := [(0, .ref (wA (wR g) 8 0))]) [0] rfl ?_
            exact w_X8_errorOfConflict_121 h0 fu x1 x2 x3 x4 S hE h
          · refine r_iload (pc' := 118) h0 5 dX8_errorOfConflict_116 rfl rfl ?_
            refine r_if_ne (pt := 128) (pf := 121) h0 dX8_errorOfConflict_118 rfl rfl h (fun c118 h => ?_) (fun c118 h => ?_)
            · refine r_sub (L' := []) [] rfl ?_
              exact w_X8_errorOfConflict_128 h0 fu x1 x2 x3 x4 S hE h
            · refine r_sub (L' := [(0, .ref (wA (wR g) 8 0))]) [0] rfl ?_
              exact w_X8_errorOfConflict_121 h0 fu x1 x2 x3 x4 S hE h
        · refine r_sub (L' := []) [] rfl ?_
          exact w_X8_errorOfConflict_106 h0 fu x1 x2 x3 x4 S hE h
    · refine r_aload_n (pc' := 42) h0 0 dX8_errorOfConflict_41 rfl rfl rfl ?_
      refine gf_X8_13 (pc' := 45) h0 (Nat.le_of_ble_eq_true rfl) dX8_errorOfConflict_42 rfl ?_
      refine r_iconst (pc' := 46) h0 dX8_errorOfConflict_45 ki_4 rfl ?_
      refine r_iload_n (pc' := 47) h0 1 dX8_errorOfConflict_46 rfl rfl rfl ?_
      refine r_imul (pc' := 48) h0 dX8_errorOfConflict_47 rfl ?_
      refine r_iload (pc' := 50) h0 6 dX8_errorOfConflict_48 rfl rfl ?_
      refine r_iadd (pc' := 51) h0 dX8_errorOfConflict_50 rfl ?_
      refine r_ialdA (pc' := 52) h0 (ia_21 g) (Nat.le_of_ble_eq_true rfl) dX8_errorOfConflict_51 rfl h (fun h => ?_)
      refine r_istore (pc' := 54) (L' := [(7, .int (S.1 21 0 (((4 * x1) + x6) : Int32).toNatClampNeg)), (0, .ref (wA (wR g) 8 0)), (1, .int x1), (2, .int x2), (3, .int x3), (4, .int x4), (5, .int x5), (6, .int x6)]) h0 dX8_errorOfConflict_52 (Nat.le_of_ble_eq_true rfl) rfl rfl ?_
      refine r_iload (pc' := 56) h0 6 dX8_errorOfConflict_54 rfl rfl ?_
      refine r_if_ne (pt := 77) (pf := 59) h0 dX8_errorOfConflict_56 rfl rfl h (fun c56 h => ?_) (fun c56 h => ?_)
      · refine r_sub (L' := [(0, .ref (wA (wR g) 8 0)), (1, .int x1), (2, .int x2), (3, .int x3), (4, .int x4), (6, .int x6)]) [1, 2, 3, 4, 5, 7] rfl ?_
        exact w_X8_errorOfConflict_77 h0 fu x1 x2 x3 x4 S hE (f_X8_errorOfConflict_30 fu x1 x2 x3 x4 S n) ih x6 h
      · refine r_iload (pc' := 61) h0 0 dX8_errorOfConflict_59 rfl rfl ?_
        refine r_iload_n (pc' := 62) h0 3 dX8_errorOfConflict_61 rfl rfl rfl ?_
        obtain ⟨r62, h62, h⟩ := b1_some h
        refine go_S (k_X8_106 g) (st2 := [.int r62]) (pc' := 65) [.int (S.1 21 0 (((4 * x1) + x6) : Int32).toNatClampNeg), .int x2] [] h0 (c_X8_has g fu (S.1 21 0 (((4 * x1) + x6) : Int32).toNatClampNeg) x2 S h62) rfl rfl dX8_errorOfConflict_62 rfl (Nat.le_of_ble_eq_true rfl) ⟨rfl, rfl, Nat.le_of_ble_eq_true rfl, Nat.le_of_ble_eq_true rfl⟩ ⟨Nat.le_of_ble_eq_true rfl, Nat.le_of_ble_eq_true rfl⟩ rfl ?_
        refine r_if_eq (pt := 81) (pf := 68) h0 dX8_errorOfConflict_65 rfl rfl h (fun c65 h => ?_) (fun c65 h => ?_)
        · refine r_sub (L' := [(0, .ref (wA (wR g) 8 0)), (1, .int x1), (2, .int x2), (3, .int x3), (4, .int x4), (6, .int x6)]) [1, 2, 3, 4, 5, 7] rfl ?_
          exact w_X8_errorOfConflict_81 h0 fu x1 x2 x3 x4 S hE (f_X8_errorOfConflict_30 fu x1 x2 x3 x4 S n) ih x6 h
        · refine r_iload (pc' := 70) h0 0 dX8_errorOfConflict_68 rfl rfl ?_
          refine r_iload_n (pc' := 71) h0 4 dX8_errorOfConflict_70 rfl rfl rfl ?_
          obtain ⟨r71, h71, h⟩ := b1_some h
          refine go_S (k_X8_106 g) (st2 := [.int r71]) (pc' := 74) [.int (S.1 21 0 (((4 * x1) + x6) : Int32).toNatClampNeg), .int x3] [] h0 (c_X8_has g fu (S.1 21 0 (((4 * x1) + x6) : Int32).toNatClampNeg) x3 S h71) rfl rfl dX8_errorOfConflict_71 rfl (Nat.le_of_ble_eq_true rfl) ⟨rfl, rfl, Nat.le_of_ble_eq_true rfl, Nat.le_of_ble_eq_true rfl⟩ ⟨Nat.le_of_ble_eq_true rfl, Nat.le_of_ble_eq_true rfl⟩ rfl ?_
          refine r_if_eq (pt := 81) (pf := 77) h0 dX8_errorOfConflict_74 rfl rfl h (fun c74 h => ?_) (fun c74 h => ?_)
          · refine r_sub (L' := [(0, .ref (wA (wR g) 8 0)), (1, .int x1), (2, .int x2), (3, .int x3), (4, .int x4), (6, .int x6)]) [1, 2, 3, 4, 5, 7] rfl ?_
            exact w_X8_errorOfConflict_81 h0 fu x1 x2 x3 x4 S hE (f_X8_errorOfConflict_30 fu x1 x2 x3 x4 S n) ih x6 h
          · refine r_sub (L' := [(0, .ref (wA (wR g) 8 0)), (1, .int x1), (2, .int x2), (3, .int x3), (4, .int x4), (6, .int x6)]) [1, 2, 3, 4, 5, 7] rfl ?_
            exact w_X8_errorOfConflict_77 h0 fu x1 x2 x3 x4 S hE (f_X8_errorOfConflict_30 fu x1 x2 x3 x4 S n) ih x6 h
theorem w_X8_errorOfConflict_22 {g : GR} {X : MX} {r : Int32}  (h0 : CX RX8 cX8_errorOfConflict 8 rm_X8_errorOfConflict X (wR g)) (fu : Nat) (x1 : Int32) (x2 : Int32) (x3 : Int32) (x4 : Int32) (S : Mem) (hE : EN (some .int) (some (.int r)) S X (wR g)) : f_X8_errorOfConflict_22 fu x1 x2 x3 x4 S = some r → GV X (wR g) 8 0 0 S [] 22 [] := by
  intro  h
  rw [f_X8_errorOfConflict_22] at h
  refine r_iconst (pc' := 23) h0 dX8_errorOfConflict_22 ki_1 rfl ?_
  exact r_iretR h0 hE dX8_errorOfConflict_23 h
/-- the machine does what f_X8_errorOfConflict says -/
theorem c_X8_errorOfConflict (g : GR) (fu : Nat) (x1 : Int32) (x2 : Int32) (x3 : Int32) (x4 : Int32) (S : Mem) {r : Int32}  (h : f_X8_errorOfConflict fu x1 x2 x3 x4 S = some r) : ctN yX8_errorOfConflict cX8_errorOfConflict 8 (some .int) rm_X8_errorOfConflict (wR g) [.ref (wA (wR g) 8 0), .int x1, .int x2, .int x3, .int x4] S (some (.int r)) S := by
  refine ct_of (own := RX8) (L := [(0, .ref (wA (wR g) 8 0)), (1, .int x1), (2, .int x2), (3, .int x3), (4, .int x4)]) (by decide +kernel) rfl (Nat.le_of_ble_eq_true rfl) rfl (fun X h0 hE => ?_)
  rw [f_X8_errorOfConflict] at h
  refine r_aload_n (pc' := 1) h0 0 dX8_errorOfConflict_0 rfl rfl rfl ?_
  refine r_iload_n (pc' := 2) h0 1 dX8_errorOfConflict_1 rfl rfl rfl ?_
  obtain ⟨r2, h2, h⟩ := b1_some h
  refine go_V (k_X8_118 g) (st2 := [.int r2]) (pc' := 5) [.int x1] [] h0 (Nat.le_of_ble_eq_true rfl) (c_X8_isJunction g fu x1 S h2) rfl rfl dX8_errorOfConflict_2 rfl (Nat.le_of_ble_eq_true rfl) ⟨rfl, rfl, Nat.le_of_ble_eq_true rfl, Nat.le_of_ble_eq_true rfl⟩ ⟨Nat.le_of_ble_eq_true rfl, Nat.le_of_ble_eq_true rfl⟩ rfl ?_
  refine r_if_eq (pt := 22) (pf := 8) h0 dX8_errorOfConflict_5 rfl rfl h (fun c5 h => ?_) (fun c5 h => ?_)
  · refine r_sub (L' := []) [] rfl ?_
    exact w_X8_errorOfConflict_22 h0 fu x1 x2 x3 x4 S hE h
  · refine r_iload_n (pc' := 9) h0 2 dX8_errorOfConflict_8 rfl rfl rfl ?_
    obtain ⟨r9, h9, h⟩ := b1_some h
    refine go_S (k_X8_121 g) (st2 := [.int r9]) (pc' := 12) [.int x2] [] h0 (c_X8_isMovement g fu x2 S h9) rfl rfl dX8_errorOfConflict_9 rfl (Nat.le_of_ble_eq_true rfl) ⟨rfl, rfl, Nat.le_of_ble_eq_true rfl, Nat.le_of_ble_eq_true rfl⟩ ⟨Nat.le_of_ble_eq_true rfl, Nat.le_of_ble_eq_true rfl⟩ rfl ?_
    refine r_if_eq (pt := 22) (pf := 15) h0 dX8_errorOfConflict_12 rfl rfl h (fun c12 h => ?_) (fun c12 h => ?_)
    · refine r_sub (L' := []) [] rfl ?_
      exact w_X8_errorOfConflict_22 h0 fu x1 x2 x3 x4 S hE h
    · refine r_iload_n (pc' := 16) h0 3 dX8_errorOfConflict_15 rfl rfl rfl ?_
      obtain ⟨r16, h16, h⟩ := b1_some h
      refine go_S (k_X8_121 g) (st2 := [.int r16]) (pc' := 19) [.int x3] [] h0 (c_X8_isMovement g fu x3 S h16) rfl rfl dX8_errorOfConflict_16 rfl (Nat.le_of_ble_eq_true rfl) ⟨rfl, rfl, Nat.le_of_ble_eq_true rfl, Nat.le_of_ble_eq_true rfl⟩ ⟨Nat.le_of_ble_eq_true rfl, Nat.le_of_ble_eq_true rfl⟩ rfl ?_
      refine r_if_ne (pt := 24) (pf := 22) h0 dX8_errorOfConflict_19 rfl rfl h (fun c19 h => ?_) (fun c19 h => ?_)
      · refine r_iconst (pc' := 25) h0 dX8_errorOfConflict_24 ki_0 rfl ?_
        refine r_istore (pc' := 27) (L' := [(5, .int 0), (0, .ref (wA (wR g) 8 0)), (1, .int x1), (2, .int x2), (3, .int x3), (4, .int x4)]) h0 dX8_errorOfConflict_25 (Nat.le_of_ble_eq_true rfl) rfl rfl ?_
        refine r_iconst (pc' := 28) h0 dX8_errorOfConflict_27 ki_0 rfl ?_
        refine r_istore (pc' := 30) (L' := [(6, .int 0), (5, .int 0), (0, .ref (wA (wR g) 8 0)), (1, .int x1), (2, .int x2), (3, .int x3), (4, .int x4)]) h0 dX8_errorOfConflict_28 (Nat.le_of_ble_eq_true rfl) rfl rfl ?_
        refine r_sub (L' := [(0, .ref (wA (wR g) 8 0)), (1, .int x1), (2, .int x2), (3, .int x3), (4, .int x4), (5, .int 0), (6, .int 0)]) [2, 3, 4, 5, 6, 1, 0] rfl ?_
        exact w_X8_errorOfConflict_30 h0 fu x1 x2 x3 x4 S hE fu 0 0 h
      · refine r_sub (L' := []) [] rfl ?_
        exact w_X8_errorOfConflict_22 h0 fu x1 x2 x3 x4 S hE h
/-- the machine does what f_X8_setConflict says -/
theorem c_X8_setConflict (g : GR) (fu : Nat) (x1 : Int32) (x2 : Int32) (x3 : Int32) (x4 : Int32) (S : Mem) {r : Int32} {S' : Mem} (h : f_X8_setConflict fu x1 x2 x3 x4 S = some (r, S')) : ctN yX8_setConflict cX8_setConflict 6 (some .int) rm_X8_setConflict (wR g) [.ref (wA (wR g) 8 0), .int x1, .int x2, .int x3, .int x4] S (some (.int r)) S' := by
  refine ct_of (own := RX8) (L := [(0, .ref (wA (wR g) 8 0)), (1, .int x1), (2, .int x2), (3, .int x3), (4, .int x4)]) (by decide +kernel) rfl (Nat.le_of_ble_eq_true rfl) rfl (fun X h0 hE => ?_)
  rw [f_X8_setConflict] at h
  refine r_aload_n (pc' := 1) h0 0 dX8_setConflict_0 rfl rfl rfl ?_
  refine r_aload_n (pc' := 2) h0 0 dX8_setConflict_1 rfl rfl rfl ?_
  refine r_iload_n (pc' := 3) h0 1 dX8_setConflict_2 rfl rfl rfl ?_
  refine r_iload_n (pc' := 4) h0 2 dX8_setConflict_3 rfl rfl rfl ?_
  refine r_iload_n (pc' := 5) h0 3 dX8_setConflict_4 rfl rfl rfl ?_
  refine r_iload (pc' := 7) h0 4 dX8_setConflict_5 rfl rfl ?_
  obtain ⟨r7, h7, h⟩ := b1_some h
  refine go_V (k_X8_124 g) (st2 := [.int r7, .ref (wA (wR g) 8 0)]) (pc' := 10) [.int x1, .int x2, .int x3, .int x4] [.ref (wA (wR g) 8 0)] h0 (Nat.le_of_ble_eq_true rfl) (c_X8_errorOfConflict g fu x1 x2 x3 x4 S h7) rfl rfl dX8_setConflict_7 rfl (Nat.le_of_ble_eq_true rfl) ⟨rfl, rfl, Nat.le_of_ble_eq_true rfl, Nat.le_of_ble_eq_true rfl⟩ ⟨Nat.le_of_ble_eq_true rfl, Nat.le_of_ble_eq_true rfl⟩ rfl ?_
  obtain ⟨r10, S10, h10, h⟩ := b2_some h
  refine go_V (k_X8_102 g) (st2 := [.int r10]) (pc' := 13) [.int r7] [] h0 (Nat.le_of_ble_eq_true rfl) (c_X8_holds g fu r7 S h10) rfl rfl dX8_setConflict_10 rfl (Nat.le_of_ble_eq_true rfl) ⟨rfl, rfl, Nat.le_of_ble_eq_true rfl, Nat.le_of_ble_eq_true rfl⟩ ⟨Nat.le_of_ble_eq_true rfl, Nat.le_of_ble_eq_true rfl⟩ rfl ?_
  refine r_if_ne (pt := 18) (pf := 16) h0 dX8_setConflict_13 rfl rfl h (fun c13 h => ?_) (fun c13 h => ?_)
  · refine r_aload_n (pc' := 19) h0 0 dX8_setConflict_18 rfl rfl rfl ?_
    refine gf_X8_7 (pc' := 22) h0 (Nat.le_of_ble_eq_true rfl) dX8_setConflict_19 rfl ?_
    refine r_iload_n (pc' := 23) h0 1 dX8_setConflict_22 rfl rfl rfl ?_
    refine r_iload_n (pc' := 24) h0 2 dX8_setConflict_23 rfl rfl rfl ?_
    refine r_iload_n (pc' := 25) h0 3 dX8_setConflict_24 rfl rfl rfl ?_
    obtain ⟨r25, h25, h⟩ := b1_some h
    refine go_S (k_X8_110 g) (st2 := [.int r25, .ref (wA (wR g) 20 0)]) (pc' := 28) [.int x1, .int x2, .int x3] [.ref (wA (wR g) 20 0)] h0 (c_X8_conflict g fu x1 x2 x3 S10 h25) rfl rfl dX8_setConflict_25 rfl (Nat.le_of_ble_eq_true rfl) ⟨rfl, rfl, Nat.le_of_ble_eq_true rfl, Nat.le_of_ble_eq_true rfl⟩ ⟨Nat.le_of_ble_eq_true rfl, Nat.le_of_ble_eq_true rfl⟩ rfl ?_
    refine r_ialdA (pc' := 29) h0 (ia_20 g) (Nat.le_of_ble_eq_true rfl) dX8_setConflict_28 rfl h (fun h => ?_)
    refine r_istore (pc' := 31) (L' := [(5, .int (S10.1 20 0 (r25 : Int32).toNatClampNeg)), (0, .ref (wA (wR g) 8 0)), (1, .int x1), (2, .int x2), (3, .int x3), (4, .int x4)]) h0 dX8_setConflict_29 (Nat.le_of_ble_eq_true rfl) rfl rfl ?_
    refine r_aload_n (pc' := 32) h0 1 dX8_setConflict_31 rfl rfl rfl ?_
    refine gf_X8_7 (pc' := 35) h0 (Nat.le_of_ble_eq_true rfl) dX8_setConflict_32 rfl ?_
    refine r_iload_n (pc' := 36) h0 2 dX8_setConflict_35 rfl rfl rfl ?_
    refine r_iload_n (pc' := 37) h0 3 dX8_setConflict_36 rfl rfl rfl ?_
    refine r_iload_n (pc' := 38) h0 4 dX8_setConflict_37 rfl rfl rfl ?_
    obtain ⟨r38, h38, h⟩ := b1_some h
    refine go_S (k_X8_110 g) (st2 := [.int r38, .ref (wA (wR g) 20 0)]) (pc' := 41) [.int x1, .int x2, .int x3] [.ref (wA (wR g) 20 0)] h0 (c_X8_conflict g fu x1 x2 x3 S10 h38) rfl rfl dX8_setConflict_38 rfl (Nat.le_of_ble_eq_true rfl) ⟨rfl, rfl, Nat.le_of_ble_eq_true rfl, Nat.le_of_ble_eq_true rfl⟩ ⟨Nat.le_of_ble_eq_true rfl, Nat.le_of_ble_eq_true rfl⟩ rfl ?_
    refine r_iload (pc' := 43) h0 5 dX8_setConflict_41 rfl rfl ?_
    refine r_iastA (pc' := 44) h0 (ia_20 g) (Nat.le_of_ble_eq_true rfl) dX8_setConflict_43 rfl h (fun h => ?_)
    refine r_aload_n (pc' := 45) h0 1 dX8_setConflict_44 rfl rfl rfl ?_
    refine gf_X8_7 (pc' := 48) h0 (Nat.le_of_ble_eq_true rfl) dX8_setConflict_45 rfl ?_
    refine r_iload_n (pc' := 49) h0 2 dX8_setConflict_48 rfl rfl rfl ?_
    refine r_iload_n (pc' := 50) h0 4 dX8_setConflict_49 rfl rfl rfl ?_
    refine r_iload_n (pc' := 51) h0 3 dX8_setConflict_50 rfl rfl rfl ?_
    obtain ⟨r51, h51, h⟩ := b1_some h
    refine go_S (k_X8_110 g) (st2 := [.int r51, .ref (wA (wR g) 20 0)]) (pc' := 54) [.int x1, .int x3, .int x2] [.ref (wA (wR g) 20 0)] h0 (c_X8_conflict g fu x1 x3 x2 (wI S10 20 0 (r38 : Int32).toNatClampNeg x4) h51) rfl rfl dX8_setConflict_51 rfl (Nat.le_of_ble_eq_true rfl) ⟨rfl, rfl, Nat.le_of_ble_eq_true rfl, Nat.le_of_ble_eq_true rfl⟩ ⟨Nat.le_of_ble_eq_true rfl, Nat.le_of_ble_eq_true rfl⟩ rfl ?_
    refine r_iload (pc' := 56) h0 5 dX8_setConflict_54 rfl rfl ?_
    refine r_iastA (pc' := 57) h0 (ia_20 g) (Nat.le_of_ble_eq_true rfl) dX8_setConflict_56 rfl h (fun h => ?_)
    refine r_iload (pc' := 59) h0 0 dX8_setConflict_57 rfl rfl ?_
    exact r_iret h0 hE dX8_setConflict_59 h
  · refine r_iconst (pc' := 17) h0 dX8_setConflict_16 ki_0 rfl ?_
    exact r_iret h0 hE dX8_setConflict_17 h
theorem w_X8_setPhases_247 {g : GR} {X : MX} {r : Int32} {S' : Mem} (h0 : CX RX8 cX8_setPhases 8 rm_X8_setPhases X (wR g)) (fu : Nat) (x1 : Int32) (x2 : Int32) (x3 : Int32) (x4 : Int32) (x5 : Int32) (hE : EN (some .int) (some (.int r)) S' X (wR g)) : ∀ (t0 : Int32) (t1 : Int32) (S : Mem), f_X8_setPhases_247 fu x1 x2 x3 x4 x5 t0 t1 S = some (r, S') → GV X (wR g) 8 0 0 S [(0, .ref (wA (wR g) 8 0)), (1, .int x1)] 247 [.int t0, .int t1, .ref (wA (wR g) 22 0)] := by
  intro t0 t1 S h
  rw [f_X8_setPhases_247] at h
  refine r_iastA (pc' := 248) h0 (ia_22 g) (Nat.le_of_ble_eq_true rfl) dX8_setPhases_247 rfl h (fun h => ?_)
  refine r_aload_n (pc' := 249) h0 0 dX8_setPhases_248 rfl rfl rfl ?_
  refine gf_X8_16 (pc' := 252) h0 (Nat.le_of_ble_eq_true rfl) dX8_setPhases_249 rfl ?_
  refine r_iload_n (pc' := 253) h0 1 dX8_setPhases_252 rfl rfl rfl ?_
  refine r_ialdA (pc' := 254) h0 (ia_22 g) (Nat.le_of_ble_eq_true rfl) dX8_setPhases_253 rfl h (fun h => ?_)
  exact r_iret h0 hE dX8_setPhases_254 h
theorem w_X8_setPhases_163 {g : GR} {X : MX} {r : Int32} {S' : Mem} (h0 : CX RX8 cX8_setPhases 8 rm_X8_setPhases X (wR g)) (fu : Nat) (x1 : Int32) (x2 : Int32) (x3 : Int32) (x4 : Int32) (x5 : Int32) (hE : EN (some .int) (some (.int r)) S' X (wR g)) : ∀ (t0 : Int32) (S : Mem), f_X8_setPhases_163 fu x1 x2 x3 x4 x5 t0 S = some (r, S') → GV X (wR g) 8 0 0 S [(0, .ref (wA (wR g) 8 0)), (1, .int x1), (2, .int x2), (3, .int x3), (4, .int x4), (5, .int x5)] 163 [.int t0, .ref (wA (wR g) 8 0)] := by
  intro t0 S h
  rw [f_X8_setPhases_163] at h
  obtain ⟨r163, S163, h163, h⟩ := b2_some h
  refine go_V (k_X8_102 g) (st2 := [.int r163]) (pc' := 166) [.int t0] [] h0 (Nat.le_of_ble_eq_true rfl) (c_X8_holds g fu t0 S h163) rfl rfl dX8_setPhases_163 rfl (Nat.le_of_ble_eq_true rfl) ⟨rfl, rfl, Nat.le_of_ble_eq_true rfl, Nat.le_of_ble_eq_true rfl⟩ ⟨Nat.le_of_ble_eq_true rfl, Nat.le_of_ble_eq_true rfl⟩ rfl ?_
  refine r_if_ne (pt := 171) (pf := 169) h0 dX8_setPhases_166 rfl rfl h (fun c166 h => ?_) (fun c166 h => ?_)
  · refine r_aload_n (pc' := 172) h0 0 dX8_setPhases_171 rfl rfl rfl ?_
    refine gf_X8_13 (pc' := 175) h0 (Nat.le_of_ble_eq_true rfl) dX8_setPhases_172 rfl ?_
    refine r_iconst (pc' := 176) h0 dX8_setPhases_175 ki_4 rfl ?_
    refine r_iload_n (pc' := 177) h0 1 dX8_setPhases_176 rfl rfl rfl ?_
    refine r_imul (pc' := 178) h0 dX8_setPhases_177 rfl ?_
    refine r_iload_n (pc' := 179) h0 2 dX8_setPhases_178 rfl rfl rfl ?_
    refine r_iastA (pc' := 180) h0 (ia_21 g) (Nat.le_of_ble_eq_true rfl) dX8_setPhases_179 rfl h (fun h => ?_)
    refine r_aload_n (pc' := 181) h0 0 dX8_setPhases_180 rfl rfl rfl ?_
    refine gf_X8_13 (pc' := 184) h0 (Nat.le_of_ble_eq_true rfl) dX8_setPhases_181 rfl ?_
    refine r_iconst (pc' := 185) h0 dX8_setPhases_184 ki_4 rfl ?_
    refine r_iload_n (pc' := 186) h0 1 dX8_setPhases_185 rfl rfl rfl ?_
    refine r_imul (pc' := 187) h0 dX8_setPhases_186 rfl ?_
    refine r_iconst (pc' := 188) h0 dX8_setPhases_187 ki_1 rfl ?_
    refine r_iadd (pc' := 189) h0 dX8_setPhases_188 rfl ?_
    refine r_iload_n (pc' := 190) h0 3 dX8_setPhases_189 rfl rfl rfl ?_
    refine r_iastA (pc' := 191) h0 (ia_21 g) (Nat.le_of_ble_eq_true rfl) dX8_setPhases_190 rfl h (fun h => ?_)
    refine r_aload_n (pc' := 192) h0 0 dX8_setPhases_191 rfl rfl rfl ?_
    refine gf_X8_13 (pc' := 195) h0 (Nat.le_of_ble_eq_true rfl) dX8_setPhases_192 rfl ?_
    refine r_iconst (pc' := 196) h0 dX8_setPhases_195 ki_4 rfl ?_
    refine r_iload_n (pc' := 197) h0 1 dX8_setPhases_196 rfl rfl rfl ?_
    refine r_imul (pc' := 198) h0 dX8_setPhases_197 rfl ?_
    refine r_iconst (pc' := 199) h0 dX8_setPhases_198 ki_2 rfl ?_
    refine r_iadd (pc' := 200) h0 dX8_setPhases_199 rfl ?_
    refine r_iload (pc' := 202) h0 4 dX8_setPhases_200 rfl rfl ?_
    refine r_iastA (pc' := 203) h0 (ia_21 g) (Nat.le_of_ble_eq_true rfl) dX8_setPhases_202 rfl h (fun h => ?_)
    refine r_aload_n (pc' := 204) h0 0 dX8_setPhases_203 rfl rfl rfl ?_
    refine gf_X8_13 (pc' := 207) h0 (Nat.le_of_ble_eq_true rfl) dX8_setPhases_204 rfl ?_
    refine r_iconst (pc' := 208) h0 dX8_setPhases_207 ki_4 rfl ?_
    refine r_iload_n (pc' := 209) h0 1 dX8_setPhases_208 rfl rfl rfl ?_
    refine r_imul (pc' := 210) h0 dX8_setPhases_209 rfl ?_
    refine r_iconst (pc' := 211) h0 dX8_setPhases_210 ki_3 rfl ?_
    refine r_iadd (pc' := 212) h0 dX8_setPhases_211 rfl ?_
    refine r_iload (pc' := 214) h0 5 dX8_setPhases_212 rfl rfl ?_
    refine r_iastA (pc' := 215) h0 (ia_21 g) (Nat.le_of_ble_eq_true rfl) dX8_setPhases_214 rfl h (fun h => ?_)
    refine r_aload_n (pc' := 216) h0 0 dX8_setPhases_215 rfl rfl rfl ?_
    refine gf_X8_16 (pc' := 219) h0 (Nat.le_of_ble_eq_true rfl) dX8_setPhases_216 rfl ?_
    refine r_iload_n (pc' := 220) h0 1 dX8_setPhases_219 rfl rfl rfl ?_
    refine r_iload_n (pc' := 221) h0 3 dX8_setPhases_220 rfl rfl rfl ?_
    refine r_if_ne (pt := 228) (pf := 224) h0 dX8_setPhases_221 rfl rfl h (fun c221 h => ?_) (fun c221 h => ?_)
    · refine r_iload (pc' := 230) h0 4 dX8_setPhases_228 rfl rfl ?_
      refine r_if_ne (pt := 237) (pf := 233) h0 dX8_setPhases_230 rfl rfl h (fun c230 h => ?_) (fun c230 h => ?_)
      · refine r_iload (pc' := 239) h0 5 dX8_setPhases_237 rfl rfl ?_
        refine r_if_ne (pt := 246) (pf := 242) h0 dX8_setPhases_239 rfl rfl h (fun c239 h => ?_) (fun c239 h => ?_)
        · refine r_iconst (pc' := 247) h0 dX8_setPhases_246 ki_4 rfl ?_
          refine r_sub (L' := [(0, .ref (wA (wR g) 8 0)), (1, .int x1)]) [0, 1] rfl ?_
          exact w_X8_setPhases_247 h0 fu x1 x2 x3 x4 x5 hE 4 x1 (wI (wI (wI (wI S163 21 0 ((4 * x1) : Int32).toNatClampNeg x2) 21 0 (((4 * x1) + 1) : Int32).toNatClampNeg x3) 21 0 (((4 * x1) + 2) : Int32).toNatClampNeg x4) 21 0 (((4 * x1) + 3) : Int32).toNatClampNeg x5) h
        · refine r_iconst (pc' := 243) h0 dX8_setPhases_242 ki_3 rfl ?_
          refine r_goto (pc' := 247) h0 dX8_setPhases_243 rfl ?_
          refine r_sub (L' := [(0, .ref (wA (wR g) 8 0)), (1, .int x1)]) [0, 1] rfl ?_
          exact w_X8_setPhases_247 h0 fu x1 x2 x3 x4 x5 hE 3 x1 (wI (wI (wI (wI S163 21 0 ((4 * x1) : Int32).toNatClampNeg x2) 21 0 (((4 * x1) + 1) : Int32).toNatClampNeg x3) 21 0 (((4 * x1) + 2) : Int32).toNatClampNeg x4) 21 0 (((4 * x1) + 3) : Int32).toNatClampNeg x5) h
      · refine r_iconst (pc' := 234) h0 dX8_setPhases_233 ki_2 rfl ?_
        refine r_goto (pc' := 247) h0 dX8_setPhases_234 rfl ?_
        refine r_sub (L' := [(0, .ref (wA (wR g) 8 0)), (1, .int x1)]) [0, 1] rfl ?_
        exact w_X8_setPhases_247 h0 fu x1 x2 x3 x4 x5 hE 2 x1 (wI (wI (wI (wI S163 21 0 ((4 * x1) : Int32).toNatClampNeg x2) 21 0 (((4 * x1) + 1) : Int32).toNatClampNeg x3) 21 0 (((4 * x1) + 2) : Int32).toNatClampNeg x4) 21 0 (((4 * x1) + 3) : Int32).toNatClampNeg x5) h
    · refine r_iconst (pc' := 225) h0 dX8_setPhases_224 ki_1 rfl ?_
      refine r_goto (pc' := 247) h0 dX8_setPhases_225 rfl ?_
      refine r_sub (L' := [(0, .ref (wA (wR g) 8 0)), (1, .int x1)]) [0, 1] rfl ?_
      exact w_X8_setPhases_247 h0 fu x1 x2 x3 x4 x5 hE 1 x1 (wI (wI (wI (wI S163 21 0 ((4 * x1) : Int32).toNatClampNeg x2) 21 0 (((4 * x1) + 1) : Int32).toNatClampNeg x3) 21 0 (((4 * x1) + 2) : Int32).toNatClampNeg x4) 21 0 (((4 * x1) + 3) : Int32).toNatClampNeg x5) h
  · refine r_iconst (pc' := 170) h0 dX8_setPhases_169 ki_0 rfl ?_
    exact r_iret h0 hE dX8_setPhases_170 h
theorem w_X8_setPhases_158 {g : GR} {X : MX} {r : Int32} {S' : Mem} (h0 : CX RX8 cX8_setPhases 8 rm_X8_setPhases X (wR g)) (fu : Nat) (x1 : Int32) (x2 : Int32) (x3 : Int32) (x4 : Int32) (x5 : Int32) (hE : EN (some .int) (some (.int r)) S' X (wR g)) : ∀ (S : Mem), f_X8_setPhases_158 fu x1 x2 x3 x4 x5 S = some (r, S') → GV X (wR g) 8 0 0 S [(0, .ref (wA (wR g) 8 0)), (1, .int x1), (2, .int x2), (3, .int x3), (4, .int x4), (5, .int x5)] 158 [.ref (wA (wR g) 8 0)] := by
  intro S h
  rw [f_X8_setPhases_158] at h
  refine r_iconst (pc' := 159) h0 dX8_setPhases_158 ki_3 rfl ?_
  refine r_goto (pc' := 163) h0 dX8_setPhases_159 rfl ?_
  exact w_X8_setPhases_163 h0 fu x1 x2 x3 x4 x5 hE 3 S h
theorem w_X8_setPhases_122 {g : GR} {X : MX} {r : Int32} {S' : Mem} (h0 : CX RX8 cX8_setPhases 8 rm_X8_setPhases X (wR g)) (fu : Nat) (x1 : Int32) (x2 : Int32) (x3 : Int32) (x4 : Int32) (x5 : Int32) (hE : EN (some .int) (some (.int r)) S' X (wR g)) : ∀ (x6 : Int32) (t0 : Int32) (S : Mem), f_X8_setPhases_122 fu x1 x2 x3 x4 x5 x6 t0 S = some (r, S') → GV X (wR g) 8 0 0 S [(0, .ref (wA (wR g) 8 0)), (1, .int x1), (2, .int x2), (3, .int x3), (4, .int x4), (5, .int x5), (6, .int x6)] 122 [.int t0] := by
  intro x6 t0 S h
  rw [f_X8_setPhases_122] at h
  refine r_istore (pc' := 124) (L' := [(7, .int t0), (0, .ref (wA (wR g) 8 0)), (1, .int x1), (2, .int x2), (3, .int x3), (4, .int x4), (5, .int x5), (6, .int x6)]) h0 dX8_setPhases_122 (Nat.le_of_ble_eq_true rfl) rfl rfl ?_
  refine r_aload_n (pc' := 125) h0 1 dX8_setPhases_124 rfl rfl rfl ?_
  refine r_aload_n (pc' := 126) h0 1 dX8_setPhases_125 rfl rfl rfl ?_
  refine r_iload_n (pc' := 127) h0 2 dX8_setPhases_126 rfl rfl rfl ?_
  obtain ⟨r127, h127, h⟩ := b1_some h
  refine go_V (k_X8_118 g) (st2 := [.int r127, .ref (wA (wR g) 8 0)]) (pc' := 130) [.int x1] [.ref (wA (wR g) 8 0)] h0 (Nat.le_of_ble_eq_true rfl) (c_X8_isJunction g fu x1 S h127) rfl rfl dX8_setPhases_127 rfl (Nat.le_of_ble_eq_true rfl) ⟨rfl, rfl, Nat.le_of_ble_eq_true rfl, Nat.le_of_ble_eq_true rfl⟩ ⟨Nat.le_of_ble_eq_true rfl, Nat.le_of_ble_eq_true rfl⟩ rfl ?_
  refine r_if_ne (pt := 137) (pf := 133) h0 dX8_setPhases_130 rfl rfl h (fun c130 h => ?_) (fun c130 h => ?_)
  · refine r_iload (pc' := 139) h0 7 dX8_setPhases_137 rfl rfl ?_
    refine r_if_ne (pt := 146) (pf := 142) h0 dX8_setPhases_139 rfl rfl h (fun c139 h => ?_) (fun c139 h => ?_)
    · refine r_iload (pc' := 148) h0 0 dX8_setPhases_146 rfl rfl ?_
      refine r_if_ne (pt := 158) (pf := 151) h0 dX8_setPhases_148 rfl rfl h (fun c148 h => ?_) (fun c148 h => ?_)
      · refine r_sub (L' := [(0, .ref (wA (wR g) 8 0)), (1, .int x1), (2, .int x2), (3, .int x3), (4, .int x4), (5, .int x5)]) [1, 2, 3, 4, 5, 6] rfl ?_
        exact w_X8_setPhases_158 h0 fu x1 x2 x3 x4 x5 hE S h
      · refine r_aload_n (pc' := 152) h0 1 dX8_setPhases_151 rfl rfl rfl ?_
        refine gf_X8_86 (pc' := 155) h0 (Nat.le_of_ble_eq_true rfl) dX8_setPhases_152 rfl ?_
        refine r_if_eq (pt := 162) (pf := 158) h0 dX8_setPhases_155 rfl rfl h (fun c155 h => ?_) (fun c155 h => ?_)
        · refine r_iconst (pc' := 163) h0 dX8_setPhases_162 ki_0 rfl ?_
          refine r_sub (L' := [(0, .ref (wA (wR g) 8 0)), (1, .int x1), (2, .int x2), (3, .int x3), (4, .int x4), (5, .int x5)]) [1, 2, 3, 4, 5, 6] rfl ?_
          exact w_X8_setPhases_163 h0 fu x1 x2 x3 x4 x5 hE 0 S h
        · refine r_sub (L' := [(0, .ref (wA (wR g) 8 0)), (1, .int x1), (2, .int x2), (3, .int x3), (4, .int x4), (5, .int x5)]) [1, 2, 3, 4, 5, 6] rfl ?_
          exact w_X8_setPhases_158 h0 fu x1 x2 x3 x4 x5 hE S h
    · refine r_iconst (pc' := 143) h0 dX8_setPhases_142 ki_2 rfl ?_
      refine r_goto (pc' := 163) h0 dX8_setPhases_143 rfl ?_
      refine r_sub (L' := [(0, .ref (wA (wR g) 8 0)), (1, .int x1), (2, .int x2), (3, .int x3), (4, .int x4), (5, .int x5)]) [1, 2, 3, 4, 5, 6] rfl ?_
      exact w_X8_setPhases_163 h0 fu x1 x2 x3 x4 x5 hE 2 S h
  · refine r_iconst (pc' := 134) h0 dX8_setPhases_133 ki_1 rfl ?_
    refine r_goto (pc' := 163) h0 dX8_setPhases_134 rfl ?_
    refine r_sub (L' := [(0, .ref (wA (wR g) 8 0)), (1, .int x1), (2, .int x2), (3, .int x3), (4, .int x4), (5, .int x5)]) [1, 2, 3, 4, 5, 6] rfl ?_
    exact w_X8_setPhases_163 h0 fu x1 x2 x3 x4 x5 hE 1 S h
theorem w_X8_setPhases_121 {g : GR} {X : MX} {r : Int32} {S' : Mem} (h0 : CX RX8 cX8_setPhases 8 rm_X8_setPhases X (wR g)) (fu : Nat) (x1 : Int32) (x2 : Int32) (x3 : Int32) (x4 : Int32) (x5 : Int32) (hE : EN (some .int) (some (.int r)) S' X (wR g)) : ∀ (x6 : Int32) (S : Mem), f_X8_setPhases_121 fu x1 x2 x3 x4 x5 x6 S = some (r, S') → GV X (wR g) 8 0 0 S [(0, .ref (wA (wR g) 8 0)), (1, .int x1), (2, .int x2), (3, .int x3), (4, .int x4), (5, .int x5), (6, .int x6)] 121 [] := by
  intro x6 S h
  rw [f_X8_setPhases_121] at h
  refine r_iconst (pc' := 122) h0 dX8_setPhases_121 ki_0 rfl ?_
  exact w_X8_setPhases_122 h0 fu x1 x2 x3 x4 x5 hE x6 0 S h
theorem w_X8_setPhases_117 {g : GR} {X : MX} {r : Int32} {S' : Mem} (h0 : CX RX8 cX8_setPhases 8 rm_X8_setPhases X (wR g)) (fu : Nat) (x1 : Int32) (x2 : Int32) (x3 : Int32) (x4 : Int32) (x5 : Int32) (hE : EN (some .int) (some (.int r)) S' X (wR g)) : ∀ (x6 : Int32) (S : Mem), f_X8_setPhases_117 fu x1 x2 x3 x4 x5 x6 S = some (r, S') → GV X (wR g) 8 0 0 S [(0, .ref (wA (wR g) 8 0)), (1, .int x1), (2, .int x2), (3, .int x3), (4, .int x4), (5, .int x5), (6, .int x6)] 117 [] := by
  intro x6 S h
  rw [f_X8_setPhases_117] at h
  refine r_iconst (pc' := 118) h0 dX8_setPhases_117 ki_1 rfl ?_
  refine r_goto (pc' := 122) h0 dX8_setPhases_118 rfl ?_
  exact w_X8_setPhases_122 h0 fu x1 x2 x3 x4 x5 hE x6 1 S h
theorem w_X8_setPhases_64 {g : GR} {X : MX} {r : Int32} {S' : Mem} (h0 : CX RX8 cX8_setPhases 8 rm_X8_setPhases X (wR g)) (fu : Nat) (x1 : Int32) (x2 : Int32) (x3 : Int32) (x4 : Int32) (x5 : Int32) (hE : EN (some .int) (some (.int r)) S' X (wR g)) : ∀ (t0 : Int32) (S : Mem), f_X8_setPhases_64 fu x1 x2 x3 x4 x5 t0 S = some (r, S') → GV X (wR g) 8 0 0 S [(0, .ref (wA (wR g) 8 0)), (1, .int x1), (2, .int x2), (3, .int x3), (4, .int x4), (5, .int x5)] 64 [.int t0] := by
  intro t0 S h
  rw [f_X8_setPhases_64] at h
  refine r_istore (pc' := 66) (L' := [(6, .int t0), (0, .ref (wA (wR g) 8 0)), (1, .int x1), (2, .int x2), (3, .int x3), (4, .int x4), (5, .int x5)]) h0 dX8_setPhases_64 (Nat.le_of_ble_eq_true rfl) rfl rfl ?_
  refine r_aload_n (pc' := 67) h0 1 dX8_setPhases_66 rfl rfl rfl ?_
  refine r_iload_n (pc' := 68) h0 2 dX8_setPhases_67 rfl rfl rfl ?_
  obtain ⟨r68, h68, h⟩ := b1_some h
  refine go_V (k_X8_118 g) (st2 := [.int r68]) (pc' := 71) [.int x1] [] h0 (Nat.le_of_ble_eq_true rfl) (c_X8_isJunction g fu x1 S h68) rfl rfl dX8_setPhases_68 rfl (Nat.le_of_ble_eq_true rfl) ⟨rfl, rfl, Nat.le_of_ble_eq_true rfl, Nat.le_of_ble_eq_true rfl⟩ ⟨Nat.le_of_ble_eq_true rfl, Nat.le_of_ble_eq_true rfl⟩ rfl ?_
  refine r_if_eq (pt := 121) (pf := 74) h0 dX8_setPhases_71 rfl rfl h (fun c71 h => ?_) (fun c71 h => ?_)
  · refine r_sub (L' := [(0, .ref (wA (wR g) 8 0)), (1, .int x1), (2, .int x2), (3, .int x3), (4, .int x4), (5, .int x5), (6, .int t0)]) [1, 2, 3, 4, 5, 6, 0] rfl ?_
    exact w_X8_setPhases_121 h0 fu x1 x2 x3 x4 x5 hE t0 S h
  · refine r_iload (pc' := 76) h0 0 dX8_setPhases_74 rfl rfl ?_
    refine r_if_eq (pt := 121) (pf := 79) h0 dX8_setPhases_76 rfl rfl h (fun c76 h => ?_) (fun c76 h => ?_)
    · refine r_sub (L' := [(0, .ref (wA (wR g) 8 0)), (1, .int x1), (2, .int x2), (3, .int x3), (4, .int x4), (5, .int x5), (6, .int t0)]) [1, 2, 3, 4, 5, 6, 0] rfl ?_
      exact w_X8_setPhases_121 h0 fu x1 x2 x3 x4 x5 hE t0 S h
    · refine r_aload_n (pc' := 80) h0 1 dX8_setPhases_79 rfl rfl rfl ?_
      refine r_iload_n (pc' := 81) h0 2 dX8_setPhases_80 rfl rfl rfl ?_
      refine r_iload_n (pc' := 82) h0 3 dX8_setPhases_81 rfl rfl rfl ?_
      obtain ⟨r82, h82, h⟩ := b1_some h
      refine go_V (k_X8_128 g) (st2 := [.int r82]) (pc' := 85) [.int x1, .int x2] [] h0 (Nat.le_of_ble_eq_true rfl) (c_X8_isBad g fu x1 x2 S h82) rfl rfl dX8_setPhases_82 rfl (Nat.le_of_ble_eq_true rfl) ⟨rfl, rfl, Nat.le_of_ble_eq_true rfl, Nat.le_of_ble_eq_true rfl⟩ ⟨Nat.le_of_ble_eq_true rfl, Nat.le_of_ble_eq_true rfl⟩ rfl ?_
      refine r_if_ne (pt := 117) (pf := 88) h0 dX8_setPhases_85 rfl rfl h (fun c85 h => ?_) (fun c85 h => ?_)
      · refine r_sub (L' := [(0, .ref (wA (wR g) 8 0)), (1, .int x1), (2, .int x2), (3, .int x3), (4, .int x4), (5, .int x5), (6, .int t0)]) [1, 2, 3, 4, 5, 6, 0] rfl ?_
        exact w_X8_setPhases_117 h0 fu x1 x2 x3 x4 x5 hE t0 S h
      · refine r_aload_n (pc' := 89) h0 1 dX8_setPhases_88 rfl rfl rfl ?_
        refine r_iload_n (pc' := 90) h0 2 dX8_setPhases_89 rfl rfl rfl ?_
        refine r_iload_n (pc' := 91) h0 4 dX8_setPhases_90 rfl rfl rfl ?_
        obtain ⟨r91, h91, h⟩ := b1_some h
        refine go_V (k_X8_128 g) (st2 := [.int r91]) (pc' := 94) [.int x1, .int x3] [] h0 (Nat.le_of_ble_eq_true rfl) (c_X8_isBad g fu x1 x3 S h91) rfl rfl dX8_setPhases_91 rfl (Nat.le_of_ble_eq_true rfl) ⟨rfl, rfl, Nat.le_of_ble_eq_true rfl, Nat.le_of_ble_eq_true rfl⟩ ⟨Nat.le_of_ble_eq_true rfl, Nat.le_of_ble_eq_true rfl⟩ rfl ?_
        refine r_if_ne (pt := 117) (pf := 97) h0 dX8_setPhases_94 rfl rfl h (fun c94 h => ?_) (fun c94 h => ?_)
        · refine r_sub (L' := [(0, .ref (wA (wR g) 8 0)), (1, .int x1), (2, .int x2), (3, .int x3), (4, .int x4), (5, .int x5), (6, .int t0)]) [1, 2, 3, 4, 5, 6, 0] rfl ?_
          exact w_X8_setPhases_117 h0 fu x1 x2 x3 x4 x5 hE t0 S h
        · refine r_aload_n (pc' := 98) h0 1 dX8_setPhases_97 rfl rfl rfl ?_
          refine r_iload_n (pc' := 99) h0 2 dX8_setPhases_98 rfl rfl rfl ?_
          refine r_iload (pc' := 101) h0 5 dX8_setPhases_99 rfl rfl ?_
          obtain ⟨r101, h101, h⟩ := b1_some h
          refine go_V (k_X8_128 g) (st2 := [.int r101]) (pc' := 104) [.int x1, .int x4] [] h0 (Nat.le_of_ble_eq_true rfl) (c_X8_isBad g fu x1 x4 S h101) rfl rfl dX8_setPhases_101 rfl (Nat.le_of_ble_eq_true rfl) ⟨rfl, rfl, Nat.le_of_ble_eq_true rfl, Nat.le_of_ble_eq_true rfl⟩ ⟨Nat.le_of_ble_eq_true rfl, Nat.le_of_ble_eq_true rfl⟩ rfl ?_
          refine r_if_ne (pt := 117) (pf := 107) h0 dX8_setPhases_104 rfl rfl h (fun c104 h => ?_) (fun c104 h => ?_)
          · refine r_sub (L' := [(0, .ref (wA (wR g) 8 0)), (1, .int x1), (2, .int x2), (3, .int x3), (4, .int x4), (5, .int x5), (6, .int t0)]) [1, 2, 3, 4, 5, 6, 0] rfl ?_
            exact w_X8_setPhases_117 h0 fu x1 x2 x3 x4 x5 hE t0 S h
          · refine r_aload_n (pc' := 108) h0 1 dX8_setPhases_107 rfl rfl rfl ?_
            refine r_iload_n (pc' := 109) h0 2 dX8_setPhases_108 rfl rfl rfl ?_
            refine r_iload (pc' := 111) h0 6 dX8_setPhases_109 rfl rfl ?_
            obtain ⟨r111, h111, h⟩ := b1_some h
            refine go_V (k_X8_128 g) (st2 := [.int r111]) (pc' := 114) [.int x1, .int x5] [] h0 (Nat.le_of_ble_eq_true rfl) (c_X8_isBad g fu x1 x5 S h111) rfl rfl dX8_setPhases_111 rfl (Nat.le_of_ble_eq_true rfl) ⟨rfl, rfl, Nat.le_of_ble_eq_true rfl, Nat.le_of_ble_eq_true rfl⟩ ⟨Nat.le_of_ble_eq_true rfl, Nat.le_of_ble_eq_true rfl⟩ rfl ?_
            refine r_if_eq (pt := 121) (pf := 117) h0 dX8_setPhases_114 rfl rfl h (fun c114 h => ?_) (fun c114 h => ?_)
            · refine r_sub (L' := [(0, .ref (wA (wR g) 8 0)), (1, .int x1), (2, .int x2), (3, .int x3), (4, .int x4), (5, .int x5), (6, .int t0)]) [1, 2, 3, 4, 5, 6, 0] rfl ?_
              exact w_X8_setPhases_121 h0 fu x1 x2 x3 x4 x5 hE t0 S h
            · refine r_sub (L' := [(0, .ref (wA (wR g) 8 0)), (1, .int x1), (2, .int x2), (3, .int x3), (4, .int x4), (5, .int x5), (6, .int t0)]) [1, 2, 3, 4, 5, 6, 0] rfl ?_
              exact w_X8_setPhases_117 h0 fu x1 x2 x3 x4 x5 hE t0 S h
theorem w_X8_setPhases_63 {g : GR} {X : MX} {r : Int32} {S' : Mem} (h0 : CX RX8 cX8_setPhases 8 rm_X8_setPhases X (wR g)) (fu : Nat) (x1 : Int32) (x2 : Int32) (x3 : Int32) (x4 : Int32) (x5 : Int32) (hE : EN (some .int) (some (.int r)) S' X (wR g)) : ∀ (S : Mem), f_X8_setPhases_63 fu x1 x2 x3 x4 x5 S = some (r, S') → GV X (wR g) 8 0 0 S [(0, .ref (wA (wR g) 8 0)), (1, .int x1), (2, .int x2), (3, .int x3), (4, .int x4), (5, .int x5)] 63 [] := by
  intro S h
  rw [f_X8_setPhases_63] at h
  refine r_iconst (pc' := 64) h0 dX8_setPhases_63 ki_0 rfl ?_
  exact w_X8_setPhases_64 h0 fu x1 x2 x3 x4 x5 hE 0 S h
theorem w_X8_setPhases_53 {g : GR} {X : MX} {r : Int32} {S' : Mem} (h0 : CX RX8 cX8_setPhases 8 rm_X8_setPhases X (wR g)) (fu : Nat) (x1 : Int32) (x2 : Int32) (x3 : Int32) (x4 : Int32) (x5 : Int32) (hE : EN (some .int) (some (.int r)) S' X (wR g)) : ∀ (t0 : Int32) (t1 : Int32) (t2 : Int32) (S : Mem), f_X8_setPhases_53 fu x1 x2 x3 x4 x5 t0 t1 t2 S = some (r, S') → GV X (wR g) 8 0 0 S [(0, .ref (wA (wR g) 8 0)), (1, .int x1), (2, .int x2), (3, .int x3), (4, .int x4), (5, .int x5)] 53 [.int t0, .int t1, .int t2] := by
  intro t0 t1 t2 S h
  rw [f_X8_setPhases_53] at h
  obtain ⟨r53, h53, h⟩ := b1_some h
  refine go_S (k_X8_79 g) (st2 := [.int r53]) (pc' := 56) [.int t2, .int t1, .int t0] [] h0 (c_X8_in g fu t2 t1 t0 S h53) rfl rfl dX8_setPhases_53 rfl (Nat.le_of_ble_eq_true rfl) ⟨rfl, rfl, Nat.le_of_ble_eq_true rfl, Nat.le_of_ble_eq_true rfl⟩ ⟨Nat.le_of_ble_eq_true rfl, Nat.le_of_ble_eq_true rfl⟩ rfl ?_
  refine r_if_eq (pt := 63) (pf := 59) h0 dX8_setPhases_56 rfl rfl h (fun c56 h => ?_) (fun c56 h => ?_)
  · exact w_X8_setPhases_63 h0 fu x1 x2 x3 x4 x5 hE S h
  · refine r_iconst (pc' := 60) h0 dX8_setPhases_59 ki_1 rfl ?_
    refine r_goto (pc' := 64) h0 dX8_setPhases_60 rfl ?_
    exact w_X8_setPhases_64 h0 fu x1 x2 x3 x4 x5 hE 1 S h
theorem w_X8_setPhases_33 {g : GR} {X : MX} {r : Int32} {S' : Mem} (h0 : CX RX8 cX8_setPhases 8 rm_X8_setPhases X (wR g)) (fu : Nat) (x1 : Int32) (x2 : Int32) (x3 : Int32) (x4 : Int32) (x5 : Int32) (hE : EN (some .int) (some (.int r)) S' X (wR g)) : ∀ (t0 : Int32) (t1 : Int32) (t2 : Int32) (S : Mem), f_X8_setPhases_33 fu x1 x2 x3 x4 x5 t0 t1 t2 S = some (r, S') → GV X (wR g) 8 0 0 S [(0, .ref (wA (wR g) 8 0)), (1, .int x1), (2, .int x2), (3, .int x3), (4, .int x4), (5, .int x5)] 33 [.int t0, .int t1, .int t2] := by
  intro t0 t1 t2 S h
  rw [f_X8_setPhases_33] at h
  obtain ⟨r33, h33, h⟩ := b1_some h
  refine go_S (k_X8_79 g) (st2 := [.int r33]) (pc' := 36) [.int t2, .int t1, .int t0] [] h0 (c_X8_in g fu t2 t1 t0 S h33) rfl rfl dX8_setPhases_33 rfl (Nat.le_of_ble_eq_true rfl) ⟨rfl, rfl, Nat.le_of_ble_eq_true rfl, Nat.le_of_ble_eq_true rfl⟩ ⟨Nat.le_of_ble_eq_true rfl, Nat.le_of_ble_eq_true rfl⟩ rfl ?_
  refine r_if_eq (pt := 63) (pf := 39) h0 dX8_setPhases_36 rfl rfl h (fun c36 h => ?_) (fun c36 h => ?_)
  · exact w_X8_setPhases_63 h0 fu x1 x2 x3 x4 x5 hE S h
  · refine r_iload (pc' := 41) h0 5 dX8_setPhases_39 rfl rfl ?_
    refine r_iconst (pc' := 42) h0 dX8_setPhases_41 ki_0 rfl ?_
    refine r_iload (pc' := 44) h0 4 dX8_setPhases_42 rfl rfl ?_
    refine r_if_ne (pt := 51) (pf := 47) h0 dX8_setPhases_44 rfl rfl h (fun c44 h => ?_) (fun c44 h => ?_)
    · refine r_bipush (pc' := 53) h0 dX8_setPhases_51 kb_15 rfl ?_
      exact w_X8_setPhases_53 h0 fu x1 x2 x3 x4 x5 hE 15 0 x5 S h
    · refine r_iconst (pc' := 48) h0 dX8_setPhases_47 ki_0 rfl ?_
      refine r_goto (pc' := 53) h0 dX8_setPhases_48 rfl ?_
      exact w_X8_setPhases_53 h0 fu x1 x2 x3 x4 x5 hE 0 0 x5 S h
/-- the machine does what f_X8_setPhases says -/
theorem c_X8_setPhases (g : GR) (fu : Nat) (x1 : Int32) (x2 : Int32) (x3 : Int32) (x4 : Int32) (x5 : Int32) (S : Mem) {r : Int32} {S' : Mem} (h : f_X8_setPhases fu x1 x2 x3 x4 x5 S = some (r, S')) : ctN yX8_setPhases cX8_setPhases 8 (some .int) rm_X8_setPhases (wR g) [.ref (wA (wR g) 8 0), .int x1, .int x2, .int x3, .int x4, .int x5] S (some (.int r)) S' := by
  refine ct_of (own := RX8) (L := [(0, .ref (wA (wR g) 8 0)), (1, .int x1), (2, .int x2), (3, .int x3), (4, .int x4), (5, .int x5)]) (by decide +kernel) rfl (Nat.le_of_ble_eq_true rfl) rfl (fun X h0 hE => ?_)
  rw [f_X8_setPhases] at h
  refine r_iload_n (pc' := 1) h0 2 dX8_setPhases_0 rfl rfl rfl ?_
  refine r_iconst (pc' := 2) h0 dX8_setPhases_1 ki_1 rfl ?_
  refine r_bipush (pc' := 4) h0 dX8_setPhases_2 kb_15 rfl ?_
  obtain ⟨r4, h4, h⟩ := b1_some h
  refine go_S (k_X8_79 g) (st2 := [.int r4]) (pc' := 7) [.int x2, .int 1, .int 15] [] h0 (c_X8_in g fu x2 1 15 S h4) rfl rfl dX8_setPhases_4 rfl (Nat.le_of_ble_eq_true rfl) ⟨rfl, rfl, Nat.le_of_ble_eq_true rfl, Nat.le_of_ble_eq_true rfl⟩ ⟨Nat.le_of_ble_eq_true rfl, Nat.le_of_ble_eq_true rfl⟩ rfl ?_
  refine r_if_eq (pt := 63) (pf := 10) h0 dX8_setPhases_7 rfl rfl h (fun c7 h => ?_) (fun c7 h => ?_)
  · exact w_X8_setPhases_63 h0 fu x1 x2 x3 x4 x5 hE S h
  · refine r_iload_n (pc' := 11) h0 3 dX8_setPhases_10 rfl rfl rfl ?_
    refine r_iconst (pc' := 12) h0 dX8_setPhases_11 ki_0 rfl ?_
    refine r_bipush (pc' := 14) h0 dX8_setPhases_12 kb_15 rfl ?_
    obtain ⟨r14, h14, h⟩ := b1_some h
    refine go_S (k_X8_79 g) (st2 := [.int r14]) (pc' := 17) [.int x3, .int 0, .int 15] [] h0 (c_X8_in g fu x3 0 15 S h14) rfl rfl dX8_setPhases_14 rfl (Nat.le_of_ble_eq_true rfl) ⟨rfl, rfl, Nat.le_of_ble_eq_true rfl, Nat.le_of_ble_eq_true rfl⟩ ⟨Nat.le_of_ble_eq_true rfl, Nat.le_of_ble_eq_true rfl⟩ rfl ?_
    refine r_if_eq (pt := 63) (pf := 20) h0 dX8_setPhases_17 rfl rfl h (fun c17 h => ?_) (fun c17 h => ?_)
    · exact w_X8_setPhases_63 h0 fu x1 x2 x3 x4 x5 hE S h
    · refine r_iload (pc' := 22) h0 4 dX8_setPhases_20 rfl rfl ?_
      refine r_iconst (pc' := 23) h0 dX8_setPhases_22 ki_0 rfl ?_
      refine r_iload_n (pc' := 24) h0 3 dX8_setPhases_23 rfl rfl rfl ?_
      refine r_if_ne (pt := 31) (pf := 27) h0 dX8_setPhases_24 rfl rfl h (fun c24 h => ?_) (fun c24 h => ?_)
      · refine r_bipush (pc' := 33) h0 dX8_setPhases_31 kb_15 rfl ?_
        exact w_X8_setPhases_33 h0 fu x1 x2 x3 x4 x5 hE 15 0 x4 S h
      · refine r_iconst (pc' := 28) h0 dX8_setPhases_27 ki_0 rfl ?_
        refine r_goto (pc' := 33) h0 dX8_setPhases_28 rfl ?_
        exact w_X8_setPhases_33 h0 fu x1 x2 x3 x4 x5 hE 0 0 x4 S h
theorem w_X8_setFlow_59 {g : GR} {X : MX} {r : Int32} {S' : Mem} (h0 : CX RX8 cX8_setFlow 6 rm_X8_setFlow X (wR g)) (fu : Nat) (x1 : Int32) (x2 : Int32) (x3 : Int32) (hE : EN (some .int) (some (.int r)) S' X (wR g)) : ∀ (t0 : Int32) (S : Mem), f_X8_setFlow_59 fu x1 x2 x3 t0 S = some (r, S') → GV X (wR g) 6 0 0 S [(0, .ref (wA (wR g) 8 0)), (1, .int x1), (2, .int x2), (3, .int x3)] 59 [.int t0, .ref (wA (wR g) 8 0)] := by
  intro t0 S h
  rw [f_X8_setFlow_59] at h
  obtain ⟨r59, S59, h59, h⟩ := b2_some h
  refine go_V (k_X8_102 g) (st2 := [.int r59]) (pc' := 62) [.int t0] [] h0 (Nat.le_of_ble_eq_true rfl) (c_X8_holds g fu t0 S h59) rfl rfl dX8_setFlow_59 rfl (Nat.le_of_ble_eq_true rfl) ⟨rfl, rfl, Nat.le_of_ble_eq_true rfl, Nat.le_of_ble_eq_true rfl⟩ ⟨Nat.le_of_ble_eq_true rfl, Nat.le_of_ble_eq_true rfl⟩ rfl ?_
  refine r_if_ne (pt := 67) (pf := 65) h0 dX8_setFlow_62 rfl rfl h (fun c62 h => ?_) (fun c62 h => ?_)
  · refine r_aload_n (pc' := 68) h0 0 dX8_setFlow_67 rfl rfl rfl ?_
    refine gf_X8_19 (pc' := 71) h0 (Nat.le_of_ble_eq_true rfl) dX8_setFlow_68 rfl ?_
    refine r_iconst (pc' := 72) h0 dX8_setFlow_71 ki_4 rfl ?_
    refine r_iload_n (pc' := 73) h0 1 dX8_setFlow_72 rfl rfl rfl ?_
    refine r_imul (pc' := 74) h0 dX8_setFlow_73 rfl ?_
    refine r_iload_n (pc' := 75) h0 2 dX8_setFlow_74 rfl rfl rfl ?_
    refine r_iadd (pc' := 76) h0 dX8_setFlow_75 rfl ?_
    refine r_ialdA (pc' := 77) h0 (ia_23 g) (Nat.le_of_ble_eq_true rfl) dX8_setFlow_76 rfl h (fun h => ?_)
    refine r_istore (pc' := 79) (L' := [(5, .int (S59.1 23 0 (((4 * x1) + x2) : Int32).toNatClampNeg)), (0, .ref (wA (wR g) 8 0)), (1, .int x1), (2, .int x2), (3, .int x3)]) h0 dX8_setFlow_77 (Nat.le_of_ble_eq_true rfl) rfl rfl ?_
    refine r_aload_n (pc' := 80) h0 1 dX8_setFlow_79 rfl rfl rfl ?_
    refine gf_X8_19 (pc' := 83) h0 (Nat.le_of_ble_eq_true rfl) dX8_setFlow_80 rfl ?_
    refine r_iconst (pc' := 84) h0 dX8_setFlow_83 ki_4 rfl ?_
    refine r_iload_n (pc' := 85) h0 2 dX8_setFlow_84 rfl rfl rfl ?_
    refine r_imul (pc' := 86) h0 dX8_setFlow_85 rfl ?_
    refine r_iload_n (pc' := 87) h0 3 dX8_setFlow_86 rfl rfl rfl ?_
    refine r_iadd (pc' := 88) h0 dX8_setFlow_87 rfl ?_
    refine r_iload_n (pc' := 89) h0 4 dX8_setFlow_88 rfl rfl rfl ?_
    refine r_iastA (pc' := 90) h0 (ia_23 g) (Nat.le_of_ble_eq_true rfl) dX8_setFlow_89 rfl h (fun h => ?_)
    refine r_iload (pc' := 92) h0 0 dX8_setFlow_90 rfl rfl ?_
    exact r_iret h0 hE dX8_setFlow_92 h
  · refine r_iconst (pc' := 66) h0 dX8_setFlow_65 ki_0 rfl ?_
    exact r_iret h0 hE dX8_setFlow_66 h
theorem w_X8_setFlow_20 {g : GR} {X : MX} {r : Int32} {S' : Mem} (h0 : CX RX8 cX8_setFlow 6 rm_X8_setFlow X (wR g)) (fu : Nat) (x1 : Int32) (x2 : Int32) (x3 : Int32) (hE : EN (some .int) (some (.int r)) S' X (wR g)) : ∀ (t0 : Int32) (S : Mem), f_X8_setFlow_20 fu x1 x2 x3 t0 S = some (r, S') → GV X (wR g) 6 0 0 S [(0, .ref (wA (wR g) 8 0)), (1, .int x1), (2, .int x2), (3, .int x3)] 20 [.int t0] := by
  intro t0 S h
  rw [f_X8_setFlow_20] at h
  refine r_istore (pc' := 22) (L' := [(4, .int t0), (0, .ref (wA (wR g) 8 0)), (1, .int x1), (2, .int x2), (3, .int x3)]) h0 dX8_setFlow_20 (Nat.le_of_ble_eq_true rfl) rfl rfl ?_
  refine r_aload_n (pc' := 23) h0 1 dX8_setFlow_22 rfl rfl rfl ?_
  refine r_iload (pc' := 25) h0 0 dX8_setFlow_23 rfl rfl ?_
  refine r_if_ne (pt := 32) (pf := 28) h0 dX8_setFlow_25 rfl rfl h (fun c25 h => ?_) (fun c25 h => ?_)
  · refine r_iload_n (pc' := 33) h0 4 dX8_setFlow_32 rfl rfl rfl ?_
    refine r_iconst (pc' := 34) h0 dX8_setFlow_33 ki_0 rfl ?_
    refine r_sipush (pc' := 37) h0 dX8_setFlow_34 ks_1800 rfl ?_
    obtain ⟨r37, h37, h⟩ := b1_some h
    refine go_S (k_X8_79 g) (st2 := [.int r37, .ref (wA (wR g) 8 0)]) (pc' := 40) [.int x3, .int 0, .int 1800] [.ref (wA (wR g) 8 0)] h0 (c_X8_in g fu x3 0 1800 S h37) rfl rfl dX8_setFlow_37 rfl (Nat.le_of_ble_eq_true rfl) ⟨rfl, rfl, Nat.le_of_ble_eq_true rfl, Nat.le_of_ble_eq_true rfl⟩ ⟨Nat.le_of_ble_eq_true rfl, Nat.le_of_ble_eq_true rfl⟩ rfl ?_
    refine r_if_ne (pt := 47) (pf := 43) h0 dX8_setFlow_40 rfl rfl h (fun c40 h => ?_) (fun c40 h => ?_)
    · refine r_aload_n (pc' := 48) h0 1 dX8_setFlow_47 rfl rfl rfl ?_
      refine gf_X8_86 (pc' := 51) h0 (Nat.le_of_ble_eq_true rfl) dX8_setFlow_48 rfl ?_
      refine r_if_eq (pt := 58) (pf := 54) h0 dX8_setFlow_51 rfl rfl h (fun c51 h => ?_) (fun c51 h => ?_)
      · refine r_iconst (pc' := 59) h0 dX8_setFlow_58 ki_0 rfl ?_
        refine r_sub (L' := [(0, .ref (wA (wR g) 8 0)), (1, .int x1), (2, .int x2), (3, .int x3)]) [1, 2, 3, 4] rfl ?_
        exact w_X8_setFlow_59 h0 fu x1 x2 x3 hE 0 S h
      · refine r_iconst (pc' := 55) h0 dX8_setFlow_54 ki_3 rfl ?_
        refine r_goto (pc' := 59) h0 dX8_setFlow_55 rfl ?_
        refine r_sub (L' := [(0, .ref (wA (wR g) 8 0)), (1, .int x1), (2, .int x2), (3, .int x3)]) [1, 2, 3, 4] rfl ?_
        exact w_X8_setFlow_59 h0 fu x1 x2 x3 hE 3 S h
    · refine r_iconst (pc' := 44) h0 dX8_setFlow_43 ki_2 rfl ?_
      refine r_goto (pc' := 59) h0 dX8_setFlow_44 rfl ?_
      refine r_sub (L' := [(0, .ref (wA (wR g) 8 0)), (1, .int x1), (2, .int x2), (3, .int x3)]) [1, 2, 3, 4] rfl ?_
      exact w_X8_setFlow_59 h0 fu x1 x2 x3 hE 2 S h
  · refine r_iconst (pc' := 29) h0 dX8_setFlow_28 ki_1 rfl ?_
    refine r_goto (pc' := 59) h0 dX8_setFlow_29 rfl ?_
    refine r_sub (L' := [(0, .ref (wA (wR g) 8 0)), (1, .int x1), (2, .int x2), (3, .int x3)]) [1, 2, 3, 4] rfl ?_
    exact w_X8_setFlow_59 h0 fu x1 x2 x3 hE 1 S h
theorem w_X8_setFlow_19 {g : GR} {X : MX} {r : Int32} {S' : Mem} (h0 : CX RX8 cX8_setFlow 6 rm_X8_setFlow X (wR g)) (fu : Nat) (x1 : Int32) (x2 : Int32) (x3 : Int32) (hE : EN (some .int) (some (.int r)) S' X (wR g)) : ∀ (S : Mem), f_X8_setFlow_19 fu x1 x2 x3 S = some (r, S') → GV X (wR g) 6 0 0 S [(0, .ref (wA (wR g) 8 0)), (1, .int x1), (2, .int x2), (3, .int x3)] 19 [] := by
  intro S h
  rw [f_X8_setFlow_19] at h
  refine r_iconst (pc' := 20) h0 dX8_setFlow_19 ki_0 rfl ?_
  exact w_X8_setFlow_20 h0 fu x1 x2 x3 hE 0 S h
/-- the machine does what f_X8_setFlow says -/
theorem c_X8_setFlow (g : GR) (fu : Nat) (x1 : Int32) (x2 : Int32) (x3 : Int32) (S : Mem) {r : Int32} {S' : Mem} (h : f_X8_setFlow fu x1 x2 x3 S = some (r, S')) : ctN yX8_setFlow cX8_setFlow 6 (some .int) rm_X8_setFlow (wR g) [.ref (wA (wR g) 8 0), .int x1, .int x2, .int x3] S (some (.int r)) S' := by
  refine ct_of (own := RX8) (L := [(0, .ref (wA (wR g) 8 0)), (1, .int x1), (2, .int x2), (3, .int x3)]) (by decide +kernel) rfl (Nat.le_of_ble_eq_true rfl) rfl (fun X h0 hE => ?_)
  rw [f_X8_setFlow] at h
  refine r_aload_n (pc' := 1) h0 0 dX8_setFlow_0 rfl rfl rfl ?_
  refine r_iload_n (pc' := 2) h0 1 dX8_setFlow_1 rfl rfl rfl ?_
  obtain ⟨r2, h2, h⟩ := b1_some h
  refine go_V (k_X8_118 g) (st2 := [.int r2]) (pc' := 5) [.int x1] [] h0 (Nat.le_of_ble_eq_true rfl) (c_X8_isJunction g fu x1 S h2) rfl rfl dX8_setFlow_2 rfl (Nat.le_of_ble_eq_true rfl) ⟨rfl, rfl, Nat.le_of_ble_eq_true rfl, Nat.le_of_ble_eq_true rfl⟩ ⟨Nat.le_of_ble_eq_true rfl, Nat.le_of_ble_eq_true rfl⟩ rfl ?_
  refine r_if_eq (pt := 19) (pf := 8) h0 dX8_setFlow_5 rfl rfl h (fun c5 h => ?_) (fun c5 h => ?_)
  · exact w_X8_setFlow_19 h0 fu x1 x2 x3 hE S h
  · refine r_iload_n (pc' := 9) h0 2 dX8_setFlow_8 rfl rfl rfl ?_
    obtain ⟨r9, h9, h⟩ := b1_some h
    refine go_S (k_X8_121 g) (st2 := [.int r9]) (pc' := 12) [.int x2] [] h0 (c_X8_isMovement g fu x2 S h9) rfl rfl dX8_setFlow_9 rfl (Nat.le_of_ble_eq_true rfl) ⟨rfl, rfl, Nat.le_of_ble_eq_true rfl, Nat.le_of_ble_eq_true rfl⟩ ⟨Nat.le_of_ble_eq_true rfl, Nat.le_of_ble_eq_true rfl⟩ rfl ?_
    refine r_if_eq (pt := 19) (pf := 15) h0 dX8_setFlow_12 rfl rfl h (fun c12 h => ?_) (fun c12 h => ?_)
    · exact w_X8_setFlow_19 h0 fu x1 x2 x3 hE S h
    · refine r_iconst (pc' := 16) h0 dX8_setFlow_15 ki_1 rfl ?_
      refine r_goto (pc' := 20) h0 dX8_setFlow_16 rfl ?_
      exact w_X8_setFlow_20 h0 fu x1 x2 x3 hE 1 S h
theorem w_X8_setLink_81 {g : GR} {X : MX} {S' : Mem} (h0 : CX RX8 cX8_setLink 5 rm_X8_setLink X (wR g)) (fu : Nat) (x1 : Int32) (x2 : Int32) (x3 : Int32) (hE : EN none none S' X (wR g)) : ∀ (S : Mem), f_X8_setLink_81 fu x1 x2 x3 S = some ((), S') → GV X (wR g) 5 0 0 S [] 81 [] := by
  intro S h
  rw [f_X8_setLink_81] at h
  exact r_vret h0 hE dX8_setLink_81 h
theorem w_X8_setLink_61 {g : GR} {X : MX} {S' : Mem} (h0 : CX RX8 cX8_setLink 5 rm_X8_setLink X (wR g)) (fu : Nat) (x1 : Int32) (x2 : Int32) (x3 : Int32) (hE : EN none none S' X (wR g)) : ∀ (t0 : Int32) (S : Mem), f_X8_setLink_61 fu x1 x2 x3 t0 S = some ((), S') → GV X (wR g) 5 0 0 S [(0, .ref (wA (wR g) 8 0)), (1, .int x1), (2, .int x2), (3, .int x3)] 61 [.int t0, .ref (wA (wR g) 8 0)] := by
  intro t0 S h
  rw [f_X8_setLink_61] at h
  obtain ⟨r61, S61, h61, h⟩ := b2_some h
  refine go_V (k_X8_102 g) (st2 := [.int r61]) (pc' := 64) [.int t0] [] h0 (Nat.le_of_ble_eq_true rfl) (c_X8_holds g fu t0 S h61) rfl rfl dX8_setLink_61 rfl (Nat.le_of_ble_eq_true rfl) ⟨rfl, rfl, Nat.le_of_ble_eq_true rfl, Nat.le_of_ble_eq_true rfl⟩ ⟨Nat.le_of_ble_eq_true rfl, Nat.le_of_ble_eq_true rfl⟩ rfl ?_
  refine r_if_eq (pt := 81) (pf := 67) h0 dX8_setLink_64 rfl rfl h (fun c64 h => ?_) (fun c64 h => ?_)
  · refine r_sub (L' := []) [] rfl ?_
    exact w_X8_setLink_81 h0 fu x1 x2 x3 hE S61 h
  · refine r_aload_n (pc' := 68) h0 0 dX8_setLink_67 rfl rfl rfl ?_
    refine gf_X8_25 (pc' := 71) h0 (Nat.le_of_ble_eq_true rfl) dX8_setLink_68 rfl ?_
    refine r_iload_n (pc' := 72) h0 1 dX8_setLink_71 rfl rfl rfl ?_
    refine r_iload_n (pc' := 73) h0 2 dX8_setLink_72 rfl rfl rfl ?_
    refine r_iastA (pc' := 74) h0 (ia_25 g) (Nat.le_of_ble_eq_true rfl) dX8_setLink_73 rfl h (fun h => ?_)
    refine r_aload_n (pc' := 75) h0 0 dX8_setLink_74 rfl rfl rfl ?_
    refine gf_X8_28 (pc' := 78) h0 (Nat.le_of_ble_eq_true rfl) dX8_setLink_75 rfl ?_
    refine r_iload_n (pc' := 79) h0 1 dX8_setLink_78 rfl rfl rfl ?_
    refine r_iload_n (pc' := 80) h0 3 dX8_setLink_79 rfl rfl rfl ?_
    refine r_iastA (pc' := 81) h0 (ia_26 g) (Nat.le_of_ble_eq_true rfl) dX8_setLink_80 rfl h (fun h => ?_)
    refine r_sub (L' := []) [] rfl ?_
    exact w_X8_setLink_81 h0 fu x1 x2 x3 hE (wI (wI S61 25 0 (x1 : Int32).toNatClampNeg x2) 26 0 (x1 : Int32).toNatClampNeg x3) h
theorem w_X8_setLink_25 {g : GR} {X : MX} {S' : Mem} (h0 : CX RX8 cX8_setLink 5 rm_X8_setLink X (wR g)) (fu : Nat) (x1 : Int32) (x2 : Int32) (x3 : Int32) (hE : EN none none S' X (wR g)) : ∀ (t0 : Int32) (S : Mem), f_X8_setLink_25 fu x1 x2 x3 t0 S = some ((), S') → GV X (wR g) 5 0 0 S [(0, .ref (wA (wR g) 8 0)), (1, .int x1), (2, .int x2), (3, .int x3)] 25 [.int t0] := by
  intro t0 S h
  rw [f_X8_setLink_25] at h
  refine r_istore (pc' := 27) (L' := [(4, .int t0), (0, .ref (wA (wR g) 8 0)), (1, .int x1), (2, .int x2), (3, .int x3)]) h0 dX8_setLink_25 (Nat.le_of_ble_eq_true rfl) rfl rfl ?_
  refine r_aload_n (pc' := 28) h0 1 dX8_setLink_27 rfl rfl rfl ?_
  refine r_aload_n (pc' := 29) h0 1 dX8_setLink_28 rfl rfl rfl ?_
  refine r_iload_n (pc' := 30) h0 2 dX8_setLink_29 rfl rfl rfl ?_
  obtain ⟨r30, h30, h⟩ := b1_some h
  refine go_V (k_X8_131 g) (st2 := [.int r30, .ref (wA (wR g) 8 0)]) (pc' := 33) [.int x1] [.ref (wA (wR g) 8 0)] h0 (Nat.le_of_ble_eq_true rfl) (c_X8_isLink g fu x1 S h30) rfl rfl dX8_setLink_30 rfl (Nat.le_of_ble_eq_true rfl) ⟨rfl, rfl, Nat.le_of_ble_eq_true rfl, Nat.le_of_ble_eq_true rfl⟩ ⟨Nat.le_of_ble_eq_true rfl, Nat.le_of_ble_eq_true rfl⟩ rfl ?_
  refine r_if_ne (pt := 40) (pf := 36) h0 dX8_setLink_33 rfl rfl h (fun c33 h => ?_) (fun c33 h => ?_)
  · refine r_iload (pc' := 42) h0 0 dX8_setLink_40 rfl rfl ?_
    refine r_if_ne (pt := 49) (pf := 45) h0 dX8_setLink_42 rfl rfl h (fun c42 h => ?_) (fun c42 h => ?_)
    · refine r_aload_n (pc' := 50) h0 1 dX8_setLink_49 rfl rfl rfl ?_
      refine gf_X8_86 (pc' := 53) h0 (Nat.le_of_ble_eq_true rfl) dX8_setLink_50 rfl ?_
      refine r_if_eq (pt := 60) (pf := 56) h0 dX8_setLink_53 rfl rfl h (fun c53 h => ?_) (fun c53 h => ?_)
      · refine r_iconst (pc' := 61) h0 dX8_setLink_60 ki_0 rfl ?_
        refine r_sub (L' := [(0, .ref (wA (wR g) 8 0)), (1, .int x1), (2, .int x2), (3, .int x3)]) [1, 2, 3, 4] rfl ?_
        exact w_X8_setLink_61 h0 fu x1 x2 x3 hE 0 S h
      · refine r_iconst (pc' := 57) h0 dX8_setLink_56 ki_3 rfl ?_
        refine r_goto (pc' := 61) h0 dX8_setLink_57 rfl ?_
        refine r_sub (L' := [(0, .ref (wA (wR g) 8 0)), (1, .int x1), (2, .int x2), (3, .int x3)]) [1, 2, 3, 4] rfl ?_
        exact w_X8_setLink_61 h0 fu x1 x2 x3 hE 3 S h
    · refine r_iconst (pc' := 46) h0 dX8_setLink_45 ki_2 rfl ?_
      refine r_goto (pc' := 61) h0 dX8_setLink_46 rfl ?_
      refine r_sub (L' := [(0, .ref (wA (wR g) 8 0)), (1, .int x1), (2, .int x2), (3, .int x3)]) [1, 2, 3, 4] rfl ?_
      exact w_X8_setLink_61 h0 fu x1 x2 x3 hE 2 S h
  · refine r_iconst (pc' := 37) h0 dX8_setLink_36 ki_1 rfl ?_
    refine r_goto (pc' := 61) h0 dX8_setLink_37 rfl ?_
    refine r_sub (L' := [(0, .ref (wA (wR g) 8 0)), (1, .int x1), (2, .int x2), (3, .int x3)]) [1, 2, 3, 4] rfl ?_
    exact w_X8_setLink_61 h0 fu x1 x2 x3 hE 1 S h
theorem w_X8_setLink_24 {g : GR} {X : MX} {S' : Mem} (h0 : CX RX8 cX8_setLink 5 rm_X8_setLink X (wR g)) (fu : Nat) (x1 : Int32) (x2 : Int32) (x3 : Int32) (hE : EN none none S' X (wR g)) : ∀ (S : Mem), f_X8_setLink_24 fu x1 x2 x3 S = some ((), S') → GV X (wR g) 5 0 0 S [(0, .ref (wA (wR g) 8 0)), (1, .int x1), (2, .int x2), (3, .int x3)] 24 [] := by
  intro S h
  rw [f_X8_setLink_24] at h
  refine r_iconst (pc' := 25) h0 dX8_setLink_24 ki_0 rfl ?_
  exact w_X8_setLink_25 h0 fu x1 x2 x3 hE 0 S h
/-- the machine does what f_X8_setLink says -/
theorem c_X8_setLink (g : GR) (fu : Nat) (x1 : Int32) (x2 : Int32) (x3 : Int32) (S : Mem) {S' : Mem} (h : f_X8_setLink fu x1 x2 x3 S = some ((), S')) : ctN yX8_setLink cX8_setLink 5 none rm_X8_setLink (wR g) [.ref (wA (wR g) 8 0), .int x1, .int x2, .int x3] S none S' := by
  refine ct_of (own := RX8) (L := [(0, .ref (wA (wR g) 8 0)), (1, .int x1), (2, .int x2), (3, .int x3)]) (by decide +kernel) rfl (Nat.le_of_ble_eq_true rfl) rfl (fun X h0 hE => ?_)
  rw [f_X8_setLink] at h
  refine r_iload_n (pc' := 1) h0 2 dX8_setLink_0 rfl rfl rfl ?_
  refine r_iconst (pc' := 2) h0 dX8_setLink_1 ki_1 rfl ?_
  refine r_bipush (pc' := 4) h0 dX8_setLink_2 kb_60 rfl ?_
  obtain ⟨r4, h4, h⟩ := b1_some h
  refine go_S (k_X8_79 g) (st2 := [.int r4]) (pc' := 7) [.int x2, .int 1, .int 60] [] h0 (c_X8_in g fu x2 1 60 S h4) rfl rfl dX8_setLink_4 rfl (Nat.le_of_ble_eq_true rfl) ⟨rfl, rfl, Nat.le_of_ble_eq_true rfl, Nat.le_of_ble_eq_true rfl⟩ ⟨Nat.le_of_ble_eq_true rfl, Nat.le_of_ble_eq_true rfl⟩ rfl ?_
  refine r_if_eq (pt := 24) (pf := 10) h0 dX8_setLink_7 rfl rfl h (fun c7 h => ?_) (fun c7 h => ?_)
  · exact w_X8_setLink_24 h0 fu x1 x2 x3 hE S h
  · refine r_iload_n (pc' := 11) h0 3 dX8_setLink_10 rfl rfl rfl ?_
    refine r_iconst (pc' := 12) h0 dX8_setLink_11 ki_1 rfl ?_
    refine r_bipush (pc' := 14) h0 dX8_setLink_12 kb_40 rfl ?_
    obtain ⟨r14, h14, h⟩ := b1_some h
    refine go_S (k_X8_79 g) (st2 := [.int r14]) (pc' := 17) [.int x3, .int 1, .int 40] [] h0 (c_X8_in g fu x3 1 40 S h14) rfl rfl dX8_setLink_14 rfl (Nat.le_of_ble_eq_true rfl) ⟨rfl, rfl, Nat.le_of_ble_eq_true rfl, Nat.le_of_ble_eq_true rfl⟩ ⟨Nat.le_of_ble_eq_true rfl, Nat.le_of_ble_eq_true rfl⟩ rfl ?_
    refine r_if_eq (pt := 24) (pf := 20) h0 dX8_setLink_17 rfl rfl h (fun c17 h => ?_) (fun c17 h => ?_)
    · exact w_X8_setLink_24 h0 fu x1 x2 x3 hE S h
    · refine r_iconst (pc' := 21) h0 dX8_setLink_20 ki_1 rfl ?_
      refine r_goto (pc' := 25) h0 dX8_setLink_21 rfl ?_
      exact w_X8_setLink_25 h0 fu x1 x2 x3 hE 1 S h
theorem w_X8_setOffset_43 {g : GR} {X : MX} {r : Int32} {S' : Mem} (h0 : CX RX8 cX8_setOffset 4 rm_X8_setOffset X (wR g)) (fu : Nat) (x1 : Int32) (x2 : Int32) (hE : EN (some .int) (some (.int r)) S' X (wR g)) : ∀ (t0 : Int32) (S : Mem), f_X8_setOffset_43 fu x1 x2 t0 S = some (r, S') → GV X (wR g) 4 0 0 S [(0, .ref (wA (wR g) 8 0)), (1, .int x1), (2, .int x2)] 43 [.int t0, .ref (wA (wR g) 8 0)] := by
  intro t0 S h
  rw [f_X8_setOffset_43] at h
  obtain ⟨r43, S43, h43, h⟩ := b2_some h
  refine go_V (k_X8_102 g) (st2 := [.int r43]) (pc' := 46) [.int t0] [] h0 (Nat.le_of_ble_eq_true rfl) (c_X8_holds g fu t0 S h43) rfl rfl dX8_setOffset_43 rfl (Nat.le_of_ble_eq_true rfl) ⟨rfl, rfl, Nat.le_of_ble_eq_true rfl, Nat.le_of_ble_eq_true rfl⟩ ⟨Nat.le_of_ble_eq_true rfl, Nat.le_of_ble_eq_true rfl⟩ rfl ?_
  refine r_if_ne (pt := 51) (pf := 49) h0 dX8_setOffset_46 rfl rfl h (fun c46 h => ?_) (fun c46 h => ?_)
  · refine r_aload_n (pc' := 52) h0 0 dX8_setOffset_51 rfl rfl rfl ?_
    refine gf_X8_22 (pc' := 55) h0 (Nat.le_of_ble_eq_true rfl) dX8_setOffset_52 rfl ?_
    refine r_iload_n (pc' := 56) h0 1 dX8_setOffset_55 rfl rfl rfl ?_
    refine r_ialdA (pc' := 57) h0 (ia_24 g) (Nat.le_of_ble_eq_true rfl) dX8_setOffset_56 rfl h (fun h => ?_)
    refine r_istore_n (pc' := 58) (L' := [(3, .int (S43.1 24 0 (x1 : Int32).toNatClampNeg)), (0, .ref (wA (wR g) 8 0)), (1, .int x1), (2, .int x2)]) h0 dX8_setOffset_57 rfl (Nat.le_of_ble_eq_true rfl) rfl rfl ?_
    refine r_aload_n (pc' := 59) h0 1 dX8_setOffset_58 rfl rfl rfl ?_
    refine gf_X8_22 (pc' := 62) h0 (Nat.le_of_ble_eq_true rfl) dX8_setOffset_59 rfl ?_
    refine r_iload_n (pc' := 63) h0 2 dX8_setOffset_62 rfl rfl rfl ?_
    refine r_iload_n (pc' := 64) h0 3 dX8_setOffset_63 rfl rfl rfl ?_
    refine r_iastA (pc' := 65) h0 (ia_24 g) (Nat.le_of_ble_eq_true rfl) dX8_setOffset_64 rfl h (fun h => ?_)
    refine r_iload_n (pc' := 66) h0 0 dX8_setOffset_65 rfl rfl rfl ?_
    exact r_iret h0 hE dX8_setOffset_66 h
  · refine r_iconst (pc' := 50) h0 dX8_setOffset_49 ki_0 rfl ?_
    exact r_iret h0 hE dX8_setOffset_50 h
/-- the machine does what f_X8_setOffset says -/
theorem c_X8_setOffset (g : GR) (fu : Nat) (x1 : Int32) (x2 : Int32) (S : Mem) {r : Int32} {S' : Mem} (h : f_X8_setOffset fu x1 x2 S = some (r, S')) : ctN yX8_setOffset cX8_setOffset 4 (some .int) rm_X8_setOffset (wR g) [.ref (wA (wR g) 8 0), .int x1, .int x2] S (some (.int r)) S' := by
  refine ct_of (own := RX8) (L := [(0, .ref (wA (wR g) 8 0)), (1, .int x1), (2, .int x2)]) (by decide +kernel) rfl (Nat.le_of_ble_eq_true rfl) rfl (fun X h0 hE => ?_)
  rw [f_X8_setOffset] at h
  refine r_aload_n (pc' := 1) h0 0 dX8_setOffset_0 rfl rfl rfl ?_
  refine r_aload_n (pc' := 2) h0 0 dX8_setOffset_1 rfl rfl rfl ?_
  refine r_iload_n (pc' := 3) h0 1 dX8_setOffset_2 rfl rfl rfl ?_
  obtain ⟨r3, h3, h⟩ := b1_some h
  refine go_V (k_X8_118 g) (st2 := [.int r3, .ref (wA (wR g) 8 0)]) (pc' := 6) [.int x1] [.ref (wA (wR g) 8 0)] h0 (Nat.le_of_ble_eq_true rfl) (c_X8_isJunction g fu x1 S h3) rfl rfl dX8_setOffset_3 rfl (Nat.le_of_ble_eq_true rfl) ⟨rfl, rfl, Nat.le_of_ble_eq_true rfl, Nat.le_of_ble_eq_true rfl⟩ ⟨Nat.le_of_ble_eq_true rfl, Nat.le_of_ble_eq_true rfl⟩ rfl ?_
  refine r_if_ne (pt := 13) (pf := 9) h0 dX8_setOffset_6 rfl rfl h (fun c6 h => ?_) (fun c6 h => ?_)
  · refine r_iload_n (pc' := 14) h0 2 dX8_setOffset_13 rfl rfl rfl ?_
    refine r_iconst (pc' := 15) h0 dX8_setOffset_14 ki_0 rfl ?_
    refine r_aload_n (pc' := 16) h0 0 dX8_setOffset_15 rfl rfl rfl ?_
    refine gf_X8_83 (pc' := 19) h0 (Nat.le_of_ble_eq_true rfl) dX8_setOffset_16 rfl ?_
    refine r_iconst (pc' := 20) h0 dX8_setOffset_19 ki_1 rfl ?_
    refine r_isub (pc' := 21) h0 dX8_setOffset_20 rfl ?_
    obtain ⟨r21, h21, h⟩ := b1_some h
    refine go_S (k_X8_79 g) (st2 := [.int r21, .ref (wA (wR g) 8 0)]) (pc' := 24) [.int x2, .int 0, .int ((S.1 8 0 2) - 1)] [.ref (wA (wR g) 8 0)] h0 (c_X8_in g fu x2 0 ((S.1 8 0 2) - 1) S h21) rfl rfl dX8_setOffset_21 rfl (Nat.le_of_ble_eq_true rfl) ⟨rfl, rfl, Nat.le_of_ble_eq_true rfl, Nat.le_of_ble_eq_true rfl⟩ ⟨Nat.le_of_ble_eq_true rfl, Nat.le_of_ble_eq_true rfl⟩ rfl ?_
    refine r_if_ne (pt := 31) (pf := 27) h0 dX8_setOffset_24 rfl rfl h (fun c24 h => ?_) (fun c24 h => ?_)
    · refine r_aload_n (pc' := 32) h0 0 dX8_setOffset_31 rfl rfl rfl ?_
      refine gf_X8_86 (pc' := 35) h0 (Nat.le_of_ble_eq_true rfl) dX8_setOffset_32 rfl ?_
      refine r_if_eq (pt := 42) (pf := 38) h0 dX8_setOffset_35 rfl rfl h (fun c35 h => ?_) (fun c35 h => ?_)
      · refine r_iconst (pc' := 43) h0 dX8_setOffset_42 ki_0 rfl ?_
        exact w_X8_setOffset_43 h0 fu x1 x2 hE 0 S h
      · refine r_iconst (pc' := 39) h0 dX8_setOffset_38 ki_3 rfl ?_
        refine r_goto (pc' := 43) h0 dX8_setOffset_39 rfl ?_
        exact w_X8_setOffset_43 h0 fu x1 x2 hE 3 S h
    · refine r_iconst (pc' := 28) h0 dX8_setOffset_27 ki_2 rfl ?_
      refine r_goto (pc' := 43) h0 dX8_setOffset_28 rfl ?_
      exact w_X8_setOffset_43 h0 fu x1 x2 hE 2 S h
  · refine r_iconst (pc' := 10) h0 dX8_setOffset_9 ki_1 rfl ?_
    refine r_goto (pc' := 43) h0 dX8_setOffset_10 rfl ?_
    exact w_X8_setOffset_43 h0 fu x1 x2 hE 1 S h
theorem w_X8_clearingOf_100 {g : GR} {X : MX} {r : Int32}  (h0 : CX RX8 cX8_clearingOf 8 rm_X8_clearingOf X (wR g)) (fu : Nat) (x1 : Int32) (x2 : Int32) (S : Mem) (hE : EN (some .int) (some (.int r)) S X (wR g)) (K38 : Int32 → Int32 → Int32 → Int32 → Option Int32) (kK38 : ∀ (x3 : Int32) (x4 : Int32) (x5 : Int32) (x6 : Int32), K38 x3 x4 x5 x6 = some r → GV X (wR g) 8 0 0 S [(0, .ref (wA (wR g) 8 0)), (1, .int x1), (3, .int x3), (4, .int x4), (5, .int x5), (6, .int x6)] 38 []) : ∀ (x3 : Int32) (x4 : Int32) (x6 : Int32) (t0 : Int32), f_X8_clearingOf_100 fu K38 x1 x2 S x3 x4 x6 t0 = some r → GV X (wR g) 8 0 0 S [(0, .ref (wA (wR g) 8 0)), (1, .int x1), (3, .int x3), (4, .int x4), (6, .int x6)] 100 [.int t0] := by
  intro x3 x4 x6 t0 h
  rw [f_X8_clearingOf_100] at h
  refine r_istore (pc' := 102) (L' := [(5, .int t0), (0, .ref (wA (wR g) 8 0)), (1, .int x1), (3, .int x3), (4, .int x4), (6, .int x6)]) h0 dX8_clearingOf_100 (Nat.le_of_ble_eq_true rfl) rfl rfl ?_
  refine r_iinc (pc' := 105) (L' := [(6, .int (x6 + 1)), (5, .int t0), (0, .ref (wA (wR g) 8 0)), (1, .int x1), (3, .int x3), (4, .int x4)]) h0 5 dX8_clearingOf_102 rfl ki_1 (Nat.le_of_ble_eq_true rfl) rfl rfl ?_
  refine r_goto (pc' := 38) h0 dX8_clearingOf_105 rfl ?_
  refine r_sub (L' := [(0, .ref (wA (wR g) 8 0)), (1, .int x1), (3, .int x3), (4, .int x4), (5, .int t0), (6, .int (x6 + 1))]) [2, 3, 4, 5, 1, 0] rfl ?_
  exact kK38 x3 x4 t0 (x6 + 1) h
theorem w_X8_clearingOf_84 {g : GR} {X : MX} {r : Int32}  (h0 : CX RX8 cX8_clearingOf 8 rm_X8_clearingOf X (wR g)) (fu : Nat) (x1 : Int32) (x2 : Int32) (S : Mem) (hE : EN (some .int) (some (.int r)) S X (wR g)) (K38 : Int32 → Int32 → Int32 → Int32 → Option Int32) (kK38 : ∀ (x3 : Int32) (x4 : Int32) (x5 : Int32) (x6 : Int32), K38 x3 x4 x5 x6 = some r → GV X (wR g) 8 0 0 S [(0, .ref (wA (wR g) 8 0)), (1, .int x1), (3, .int x3), (4, .int x4), (5, .int x5), (6, .int x6)] 38 []) : ∀ (x3 : Int32) (x4 : Int32) (x5 : Int32) (x6 : Int32) (t0 : Int32), f_X8_clearingOf_84 fu K38 x1 x2 S x3 x4 x5 x6 t0 = some r → GV X (wR g) 8 0 0 S [(0, .ref (wA (wR g) 8 0)), (1, .int x1), (3, .int x3), (4, .int x4), (5, .int x5), (6, .int x6)] 84 [.int t0] := by
  intro x3 x4 x5 x6 t0 h
  rw [f_X8_clearingOf_84] at h
  refine r_istore (pc' := 86) (L' := [(7, .int t0), (0, .ref (wA (wR g) 8 0)), (1, .int x1), (3, .int x3), (4, .int x4), (5, .int x5), (6, .int x6)]) h0 dX8_clearingOf_84 (Nat.le_of_ble_eq_true rfl) rfl rfl ?_
  refine r_iload (pc' := 88) h0 0 dX8_clearingOf_86 rfl rfl ?_
  refine r_iload (pc' := 90) h0 5 dX8_clearingOf_88 rfl rfl ?_
  refine r_ic_le (pt := 98) (pf := 93) h0 dX8_clearingOf_90 rfl rfl h (fun c90 h => ?_) (fun c90 h => ?_)
  · refine r_iload (pc' := 100) h0 5 dX8_clearingOf_98 rfl rfl ?_
    refine r_sub (L' := [(0, .ref (wA (wR g) 8 0)), (1, .int x1), (3, .int x3), (4, .int x4), (6, .int x6)]) [1, 2, 3, 4, 6] rfl ?_
    exact w_X8_clearingOf_100 h0 fu x1 x2 S hE K38 kK38 x3 x4 x6 x5 h
  · refine r_iload (pc' := 95) h0 0 dX8_clearingOf_93 rfl rfl ?_
    refine r_goto (pc' := 100) h0 dX8_clearingOf_95 rfl ?_
    refine r_sub (L' := [(0, .ref (wA (wR g) 8 0)), (1, .int x1), (3, .int x3), (4, .int x4), (6, .int x6)]) [1, 2, 3, 4, 6] rfl ?_
    exact w_X8_clearingOf_100 h0 fu x1 x2 S hE K38 kK38 x3 x4 x6 t0 h
theorem w_X8_clearingOf_83 {g : GR} {X : MX} {r : Int32}  (h0 : CX RX8 cX8_clearingOf 8 rm_X8_clearingOf X (wR g)) (fu : Nat) (x1 : Int32) (x2 : Int32) (S : Mem) (hE : EN (some .int) (some (.int r)) S X (wR g)) (K38 : Int32 → Int32 → Int32 → Int32 → Option Int32) (kK38 : ∀ (x3 : Int32) (x4 : Int32) (x5 : Int32) (x6 : Int32), K38 x3 x4 x5 x6 = some r → GV X (wR g) 8 0 0 S [(0, .ref (wA (wR g) 8 0)), (1, .int x1), (3, .int x3), (4, .int x4), (5, .int x5), (6, .int x6)] 38 []) : ∀ (x3 : Int32) (x4 : Int32) (x5 : Int32) (x6 : Int32), f_X8_clearingOf_83 fu K38 x1 x2 S x3 x4 x5 x6 = some r → GV X (wR g) 8 0 0 S [(0, .ref (wA (wR g) 8 0)), (1, .int x1), (3, .int x3), (4, .int x4), (5, .int x5), (6, .int x6)] 83 [] := by
  intro x3 x4 x5 x6 h
  rw [f_X8_clearingOf_83] at h
  refine r_iconst (pc' := 84) h0 dX8_clearingOf_83 ki_0 rfl ?_
  exact w_X8_clearingOf_84 h0 fu x1 x2 S hE K38 kK38 x3 x4 x5 x6 0 h
theorem w_X8_clearingOf_38 {g : GR} {X : MX} {r : Int32}  (h0 : CX RX8 cX8_clearingOf 8 rm_X8_clearingOf X (wR g)) (fu : Nat) (x1 : Int32) (x2 : Int32) (S : Mem) (hE : EN (some .int) (some (.int r)) S X (wR g)) : ∀ (n : Nat) (x3 : Int32) (x4 : Int32) (x5 : Int32) (x6 : Int32), f_X8_clearingOf_38 fu x1 x2 S n x3 x4 x5 x6 = some r → GV X (wR g) 8 0 0 S [(0, .ref (wA (wR g) 8 0)), (1, .int x1), (3, .int x3), (4, .int x4), (5, .int x5), (6, .int x6)] 38 [] := by
  intro n
  induction n with
  | zero =>
    intro x3 x4 x5 x6 h
    exact nomatch (show none = _ from h)
  | succ n ih =>
    intro x3 x4 x5 x6 h
    rw [f_X8_clearingOf_38] at h
    refine r_iload (pc' := 40) h0 5 dX8_clearingOf_38 rfl rfl ?_
    refine r_bipush (pc' := 42) h0 dX8_clearingOf_40 kb_16 rfl ?_
    refine r_ic_ge (pt := 108) (pf := 45) h0 dX8_clearingOf_42 rfl rfl h (fun c42 h => ?_) (fun c42 h => ?_)
    · refine r_iload (pc' := 110) h0 4 dX8_clearingOf_108 rfl rfl ?_
      exact r_iretR h0 hE dX8_clearingOf_110 h
    · refine r_iload_n (pc' := 46) h0 2 dX8_clearingOf_45 rfl rfl rfl ?_
      refine r_iload (pc' := 48) h0 5 dX8_clearingOf_46 rfl rfl ?_
      refine r_iconst (pc' := 49) h0 dX8_clearingOf_48 ki_4 rfl ?_
      refine r_idiv (pc' := 50) h0 dX8_clearingOf_49 rfl h (fun h => ?_)
      obtain ⟨r50, h50, h⟩ := b1_some h
      refine go_S (k_X8_106 g) (st2 := [.int r50]) (pc' := 53) [.int x3, .int (x6 / 4)] [] h0 (c_X8_has g fu x3 (x6 / 4) S h50) rfl rfl dX8_clearingOf_50 rfl (Nat.le_of_ble_eq_true rfl) ⟨rfl, rfl, Nat.le_of_ble_eq_true rfl, Nat.le_of_ble_eq_true rfl⟩ ⟨Nat.le_of_ble_eq_true rfl, Nat.le_of_ble_eq_true rfl⟩ rfl ?_
      refine r_if_eq (pt := 83) (pf := 56) h0 dX8_clearingOf_53 rfl rfl h (fun c53 h => ?_) (fun c53 h => ?_)
      · exact w_X8_clearingOf_83 h0 fu x1 x2 S hE (f_X8_clearingOf_38 fu x1 x2 S n) ih x3 x4 x5 x6 h
      · refine r_iload (pc' := 58) h0 3 dX8_clearingOf_56 rfl rfl ?_
        refine r_iload (pc' := 60) h0 5 dX8_clearingOf_58 rfl rfl ?_
        refine r_iconst (pc' := 61) h0 dX8_clearingOf_60 ki_4 rfl ?_
        refine r_irem (pc' := 62) h0 dX8_clearingOf_61 rfl h (fun h => ?_)
        obtain ⟨r62, h62, h⟩ := b1_some h
        refine go_S (k_X8_106 g) (st2 := [.int r62]) (pc' := 65) [.int x4, .int (x6 - x6 / 4 * 4)] [] h0 (c_X8_has g fu x4 (x6 - x6 / 4 * 4) S h62) rfl rfl dX8_clearingOf_62 rfl (Nat.le_of_ble_eq_true rfl) ⟨rfl, rfl, Nat.le_of_ble_eq_true rfl, Nat.le_of_ble_eq_true rfl⟩ ⟨Nat.le_of_ble_eq_true rfl, Nat.le_of_ble_eq_true rfl⟩ rfl ?_
        refine r_if_eq (pt := 83) (pf := 68) h0 dX8_clearingOf_65 rfl rfl h (fun c65 h => ?_) (fun c65 h => ?_)
        · exact w_X8_clearingOf_83 h0 fu x1 x2 S hE (f_X8_clearingOf_38 fu x1 x2 S n) ih x3 x4 x5 x6 h
        · refine r_aload_n (pc' := 69) h0 0 dX8_clearingOf_68 rfl rfl rfl ?_
          refine gf_X8_7 (pc' := 72) h0 (Nat.le_of_ble_eq_true rfl) dX8_clearingOf_69 rfl ?_
          refine r_bipush (pc' := 74) h0 dX8_clearingOf_72 kb_16 rfl ?_
          refine r_iload_n (pc' := 75) h0 1 dX8_clearingOf_74 rfl rfl rfl ?_
          refine r_imul (pc' := 76) h0 dX8_clearingOf_75 rfl ?_
          refine r_iload (pc' := 78) h0 5 dX8_clearingOf_76 rfl rfl ?_
          refine r_iadd (pc' := 79) h0 dX8_clearingOf_78 rfl ?_
          refine r_ialdA (pc' := 80) h0 (ia_20 g) (Nat.le_of_ble_eq_true rfl) dX8_clearingOf_79 rfl h (fun h => ?_)
          refine r_goto (pc' := 84) h0 dX8_clearingOf_80 rfl ?_
          exact w_X8_clearingOf_84 h0 fu x1 x2 S hE (f_X8_clearingOf_38 fu x1 x2 S n) ih x3 x4 x5 x6 (S.1 20 0 (((16 * x1) + x6) : Int32).toNatClampNeg) h
/-- the machine does what f_X8_clearingOf says -/
theorem c_X8_clearingOf (g : GR) (fu : Nat) (x1 : Int32) (x2 : Int32) (S : Mem) {r : Int32}  (h : f_X8_clearingOf fu x1 x2 S = some r) : ctN yX8_clearingOf cX8_clearingOf 8 (some .int) rm_X8_clearingOf (wR g) [.ref (wA (wR g) 8 0), .int x1, .int x2] S (some (.int r)) S := by
  refine ct_of (own := RX8) (L := [(0, .ref (wA (wR g) 8 0)), (1, .int x1), (2, .int x2)]) (by decide +kernel) rfl (Nat.le_of_ble_eq_true rfl) rfl (fun X h0 hE => ?_)
  rw [f_X8_clearingOf] at h
  refine r_aload_n (pc' := 1) h0 0 dX8_clearingOf_0 rfl rfl rfl ?_
  refine gf_X8_13 (pc' := 4) h0 (Nat.le_of_ble_eq_true rfl) dX8_clearingOf_1 rfl ?_
  refine r_iconst (pc' := 5) h0 dX8_clearingOf_4 ki_4 rfl ?_
  refine r_iload_n (pc' := 6) h0 1 dX8_clearingOf_5 rfl rfl rfl ?_
  refine r_imul (pc' := 7) h0 dX8_clearingOf_6 rfl ?_
  refine r_iload_n (pc' := 8) h0 2 dX8_clearingOf_7 rfl rfl rfl ?_
  refine r_iadd (pc' := 9) h0 dX8_clearingOf_8 rfl ?_
  refine r_ialdA (pc' := 10) h0 (ia_21 g) (Nat.le_of_ble_eq_true rfl) dX8_clearingOf_9 rfl h (fun h => ?_)
  refine r_istore_n (pc' := 11) (L' := [(3, .int (S.1 21 0 (((4 * x1) + x2) : Int32).toNatClampNeg)), (0, .ref (wA (wR g) 8 0)), (1, .int x1), (2, .int x2)]) h0 dX8_clearingOf_10 rfl (Nat.le_of_ble_eq_true rfl) rfl rfl ?_
  refine r_aload_n (pc' := 12) h0 1 dX8_clearingOf_11 rfl rfl rfl ?_
  refine gf_X8_13 (pc' := 15) h0 (Nat.le_of_ble_eq_true rfl) dX8_clearingOf_12 rfl ?_
  refine r_iconst (pc' := 16) h0 dX8_clearingOf_15 ki_4 rfl ?_
  refine r_iload_n (pc' := 17) h0 2 dX8_clearingOf_16 rfl rfl rfl ?_
  refine r_imul (pc' := 18) h0 dX8_clearingOf_17 rfl ?_
  refine r_iload_n (pc' := 19) h0 3 dX8_clearingOf_18 rfl rfl rfl ?_
  refine r_iconst (pc' := 20) h0 dX8_clearingOf_19 ki_1 rfl ?_
  refine r_iadd (pc' := 21) h0 dX8_clearingOf_20 rfl ?_
  refine r_aload_n (pc' := 22) h0 1 dX8_clearingOf_21 rfl rfl rfl ?_
  refine gf_X8_16 (pc' := 25) h0 (Nat.le_of_ble_eq_true rfl) dX8_clearingOf_22 rfl ?_
  refine r_iload_n (pc' := 26) h0 2 dX8_clearingOf_25 rfl rfl rfl ?_
  refine r_ialdA (pc' := 27) h0 (ia_22 g) (Nat.le_of_ble_eq_true rfl) dX8_clearingOf_26 rfl h (fun h => ?_)
  refine r_irem (pc' := 28) h0 dX8_clearingOf_27 rfl h (fun h => ?_)
  refine r_iadd (pc' := 29) h0 dX8_clearingOf_28 rfl ?_
  refine r_ialdA (pc' := 30) h0 (ia_21 g) (Nat.le_of_ble_eq_true rfl) dX8_clearingOf_29 rfl h (fun h => ?_)
  refine r_istore (pc' := 32) (L' := [(4, .int (S.1 21 0 (((4 * x1) + ((x2 + 1) - (x2 + 1) / (S.1 22 0 (x1 : Int32).toNatClampNeg) * (S.1 22 0 (x1 : Int32).toNatClampNeg))) : Int32).toNatClampNeg)), (3, .int (S.1 21 0 (((4 * x1) + x2) : Int32).toNatClampNeg)), (0, .ref (wA (wR g) 8 0)), (1, .int x1), (2, .int x2)]) h0 dX8_clearingOf_30 (Nat.le_of_ble_eq_true rfl) rfl rfl ?_
  refine r_iconst (pc' := 33) h0 dX8_clearingOf_32 ki_0 rfl ?_
  refine r_istore (pc' := 35) (L' := [(5, .int 0), (4, .int (S.1 21 0 (((4 * x1) + ((x2 + 1) - (x2 + 1) / (S.1 22 0 (x1 : Int32).toNatClampNeg) * (S.1 22 0 (x1 : Int32).toNatClampNeg))) : Int32).toNatClampNeg)), (3, .int (S.1 21 0 (((4 * x1) + x2) : Int32).toNatClampNeg)), (0, .ref (wA (wR g) 8 0)), (1, .int x1), (2, .int x2)]) h0 dX8_clearingOf_33 (Nat.le_of_ble_eq_true rfl) rfl rfl ?_
  refine r_iconst (pc' := 36) h0 dX8_clearingOf_35 ki_0 rfl ?_
  refine r_istore (pc' := 38) (L' := [(6, .int 0), (5, .int 0), (4, .int (S.1 21 0 (((4 * x1) + ((x2 + 1) - (x2 + 1) / (S.1 22 0 (x1 : Int32).toNatClampNeg) * (S.1 22 0 (x1 : Int32).toNatClampNeg))) : Int32).toNatClampNeg)), (3, .int (S.1 21 0 (((4 * x1) + x2) : Int32).toNatClampNeg)), (0, .ref (wA (wR g) 8 0)), (1, .int x1), (2, .int x2)]) h0 dX8_clearingOf_36 (Nat.le_of_ble_eq_true rfl) rfl rfl ?_
  refine r_sub (L' := [(0, .ref (wA (wR g) 8 0)), (1, .int x1), (3, .int (S.1 21 0 (((4 * x1) + x2) : Int32).toNatClampNeg)), (4, .int (S.1 21 0 (((4 * x1) + ((x2 + 1) - (x2 + 1) / (S.1 22 0 (x1 : Int32).toNatClampNeg) * (S.1 22 0 (x1 : Int32).toNatClampNeg))) : Int32).toNatClampNeg)), (5, .int 0), (6, .int 0)]) [4, 5, 3, 2, 1, 0] rfl ?_
  exact w_X8_clearingOf_38 h0 fu x1 x2 S hE fu (S.1 21 0 (((4 * x1) + x2) : Int32).toNatClampNeg) (S.1 21 0 (((4 * x1) + ((x2 + 1) - (x2 + 1) / (S.1 22 0 (x1 : Int32).toNatClampNeg) * (S.1 22 0 (x1 : Int32).toNatClampNeg))) : Int32).toNatClampNeg) 0 0 h
