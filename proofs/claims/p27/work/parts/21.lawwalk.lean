set_option maxRecDepth 20000 in
theorem w_L_law_291 {g g2 : GC} {X : MX} {b : Nat} {r : Int32} {S' S2' : Mem}  {xs : Nat → Int32} {Ln : Nat} (h0 : LX RL cL_law 8 room_1 X) (hK : KW g (AL X) X) (hK2 : KW g2 (AL X) X) (hap : aptC g g2) (hX : KX b Ln xs X) (fu : Nat) (hE : EL g g2 r S' S2' X) : ∀ (cn : Nat), cn + (0) ≤ 648415 → ∀ (t0 : Int32) (S : Mem) (S2 : Mem), f_L_law_291 fu xs Ln t0 S S2 = some (r, S', S2') → LQ X (AL X) 8 cn (pW2 g g2 S S2) [] 291 [.int t0] := by
  intro cn hc t0 S S2 h
  rw [f_L_law_291] at h
  exact hE cn (by omega) _ _ _ _ h
set_option maxRecDepth 20000 in
theorem w_L_law_290 {g g2 : GC} {X : MX} {b : Nat} {r : Int32} {S' S2' : Mem}  {xs : Nat → Int32} {Ln : Nat} (h0 : LX RL cL_law 8 room_1 X) (hK : KW g (AL X) X) (hK2 : KW g2 (AL X) X) (hap : aptC g g2) (hX : KX b Ln xs X) (fu : Nat) (hE : EL g g2 r S' S2' X) : ∀ (cn : Nat), cn + (0) ≤ 648415 → ∀ (S : Mem) (S2 : Mem), f_L_law_290 fu xs Ln S S2 = some (r, S', S2') → LQ X (AL X) 8 cn (pW2 g g2 S S2) [] 290 [] := by
  intro cn hc S S2 h
  rw [f_L_law_290] at h
  refine l_iconst (pc' := 291) h0 dL_law_290 ki_0 rfl ?_
  exact w_L_law_291 h0 hK hK2 hap hX fu hE cn (by omega) 0 S S2 h
set_option maxRecDepth 20000 in
theorem w_L_law_265 {g g2 : GC} {X : MX} {b : Nat} {r : Int32} {S' S2' : Mem}  {xs : Nat → Int32} {Ln : Nat} (h0 : LX RL cL_law 8 room_1 X) (hK : KW g (AL X) X) (hK2 : KW g2 (AL X) X) (hap : aptC g g2) (hX : KX b Ln xs X) (fu : Nat) (hE : EL g g2 r S' S2' X) : ∀ (cn : Nat), cn + (622) ≤ 648415 → ∀ (x4 : Int32) (S : Mem) (S2 : Mem), f_L_law_265 fu xs Ln x4 S S2 = some (r, S', S2') → LQ X (AL X) 8 cn (pW2 g g2 S S2) [(1, .ref (wA (wC g) 7 0)), (2, .ref (wA (wC g2) 7 0)), (4, .int x4)] 265 [] := by
  intro cn hc x4 S S2 h
  rw [f_L_law_265] at h
  refine l_iload (pc' := 267) h0 2 dL_law_265 rfl rfl ?_
  refine l_if_eq (pt := 290) (pf := 270) h0 dL_law_267 rfl rfl h (fun c267 h => ?_) (fun c267 h => ?_)
  · refine l_sub (L' := []) [] rfl ?_
    exact w_L_law_290 h0 hK hK2 hap hX fu hE cn (by omega) S S2 h
  · refine l_aload_n (pc' := 271) h0 0 dL_law_270 rfl rfl rfl ?_
    refine l_aload_n (pc' := 272) h0 1 dL_law_271 rfl rfl rfl ?_
    obtain ⟨r272, S272, T272, h272, h⟩ := b3_some h
    refine q_call2 (n := 2) (pc' := 275) vl_738 vl_739 vl_27 vl_740 ⟨by decide +kernel, by decide +kernel, by decide +kernel⟩ [.ref (wA (wC g) 7 0), .ref (wA (wC g2) 7 0)] [] h0 hK hK2 hap (c_L_areAlike g g2 fu S S2 h272) rfl rfl dL_law_272 rfl (Nat.le_of_ble_eq_true rfl) ⟨rfl, rfl, (Nat.le_of_ble_eq_true rfl), (Nat.le_of_ble_eq_true rfl)⟩ ⟨by show (cn + 74) ≤ 648415; omega, by show 6 * (cn + 74) ≤ 7156452; omega⟩ ?_
    show LQ X (AL X) 8 (cn + 74) (pW2 g g2 S272 T272) [(1, .ref (wA (wC g) 7 0)), (2, .ref (wA (wC g2) 7 0)), (4, .int x4)] 275 [.int r272]
    refine l_if_eq (pt := 290) (pf := 278) h0 dL_law_275 rfl rfl h (fun c275 h => ?_) (fun c275 h => ?_)
    · refine l_sub (L' := []) [] rfl ?_
      exact w_L_law_290 h0 hK hK2 hap hX fu hE (cn + 74) (by omega) S272 T272 h
    · refine l_aload_n (pc' := 279) h0 0 dL_law_278 rfl rfl rfl ?_
      refine l_iconst (pc' := 280) h0 dL_law_279 ki_0 rfl ?_
      obtain ⟨r280, S280, h280, h⟩ := b2_some h
      refine q_call1 (n := 2) (pc' := 283) vl_801 vl_802 vl_27 vl_803 ⟨by decide +kernel, by decide +kernel, by decide +kernel⟩ [.ref (wA (wC g) 7 0), .int 0] [] h0 hK (stab_hp hap) (c_L_arePlansSo g fu 0 S272 h280) rfl rfl dL_law_280 rfl (Nat.le_of_ble_eq_true rfl) ⟨rfl, rfl, (Nat.le_of_ble_eq_true rfl), (Nat.le_of_ble_eq_true rfl)⟩ ⟨by show ((cn + 74) + 548) ≤ 648415; omega, by show 6 * ((cn + 74) + 548) ≤ 7156452; omega⟩ ?_
      show LQ X (AL X) 8 ((cn + 74) + 548) (pW2 g g2 S280 T272) [(1, .ref (wA (wC g) 7 0)), (2, .ref (wA (wC g2) 7 0)), (4, .int x4)] 283 [.int r280]
      refine l_if_eq (pt := 290) (pf := 286) h0 dL_law_283 rfl rfl h (fun c283 h => ?_) (fun c283 h => ?_)
      · refine l_sub (L' := []) [] rfl ?_
        exact w_L_law_290 h0 hK hK2 hap hX fu hE ((cn + 74) + 548) (by omega) S280 T272 h
      · refine l_iconst (pc' := 287) h0 dL_law_286 ki_1 rfl ?_
        refine l_goto (pc' := 291) h0 dL_law_287 rfl ?_
        refine l_sub (L' := []) [] rfl ?_
        exact w_L_law_291 h0 hK hK2 hap hX fu hE ((cn + 74) + 548) (by omega) 1 S280 T272 h
set_option maxRecDepth 20000 in
theorem w_L_law_259 {g g2 : GC} {X : MX} {b : Nat} {r : Int32} {S' S2' : Mem}  {xs : Nat → Int32} {Ln : Nat} (h0 : LX RL cL_law 8 room_1 X) (hK : KW g (AL X) X) (hK2 : KW g2 (AL X) X) (hap : aptC g g2) (hX : KX b Ln xs X) (fu : Nat) (hE : EL g g2 r S' S2' X) (K66 : Int32 → Int32 → Mem → Mem → Option (Int32 × Mem × Mem)) (cK : Nat) (kK66 : ∀ (cn : Nat), cn + cK ≤ 648415 → ∀ (x4 : Int32) (x5 : Int32) (S : Mem) (S2 : Mem), K66 x4 x5 S S2 = some (r, S', S2') → LQ X (AL X) 8 cn (pW2 g g2 S S2) [(0, .ref b), (1, .ref (wA (wC g) 7 0)), (2, .ref (wA (wC g2) 7 0)), (4, .int x4), (5, .int x5)] 66 []) : ∀ (cn : Nat), cn + (0 + cK) ≤ 648415 → ∀ (x4 : Int32) (x5 : Int32) (S : Mem) (S2 : Mem), f_L_law_259 fu K66 xs Ln x4 x5 S S2 = some (r, S', S2') → LQ X (AL X) 8 cn (pW2 g g2 S S2) [(0, .ref b), (1, .ref (wA (wC g) 7 0)), (2, .ref (wA (wC g2) 7 0)), (4, .int x4), (5, .int x5)] 259 [] := by
  intro cn hc x4 x5 S S2 h
  rw [f_L_law_259] at h
  refine l_iinc (pc' := 262) (L' := [(5, .int (x5 + 1)), (0, .ref b), (1, .ref (wA (wC g) 7 0)), (2, .ref (wA (wC g2) 7 0)), (4, .int x4)]) h0 4 dL_law_259 rfl ki_1 (Nat.le_of_ble_eq_true rfl) rfl rfl ?_
  refine l_goto (pc' := 66) h0 dL_law_262 rfl ?_
  refine l_sub (L' := [(0, .ref b), (1, .ref (wA (wC g) 7 0)), (2, .ref (wA (wC g2) 7 0)), (4, .int x4), (5, .int (x5 + 1))]) [1, 2, 3, 4, 0] rfl ?_
  exact kK66 cn (by omega) x4 (x5 + 1) S S2 h
set_option maxRecDepth 20000 in
theorem w_L_law_257 {g g2 : GC} {X : MX} {b : Nat} {r : Int32} {S' S2' : Mem}  {xs : Nat → Int32} {Ln : Nat} (h0 : LX RL cL_law 8 room_1 X) (hK : KW g (AL X) X) (hK2 : KW g2 (AL X) X) (hap : aptC g g2) (hX : KX b Ln xs X) (fu : Nat) (hE : EL g g2 r S' S2' X) (K66 : Int32 → Int32 → Mem → Mem → Option (Int32 × Mem × Mem)) (cK : Nat) (kK66 : ∀ (cn : Nat), cn + cK ≤ 648415 → ∀ (x4 : Int32) (x5 : Int32) (S : Mem) (S2 : Mem), K66 x4 x5 S S2 = some (r, S', S2') → LQ X (AL X) 8 cn (pW2 g g2 S S2) [(0, .ref b), (1, .ref (wA (wC g) 7 0)), (2, .ref (wA (wC g2) 7 0)), (4, .int x4), (5, .int x5)] 66 []) : ∀ (cn : Nat), cn + (0 + cK) ≤ 648415 → ∀ (x5 : Int32) (t0 : Int32) (S : Mem) (S2 : Mem), f_L_law_257 fu K66 xs Ln x5 t0 S S2 = some (r, S', S2') → LQ X (AL X) 8 cn (pW2 g g2 S S2) [(0, .ref b), (1, .ref (wA (wC g) 7 0)), (2, .ref (wA (wC g2) 7 0)), (5, .int x5)] 257 [.int t0] := by
  intro cn hc x5 t0 S S2 h
  rw [f_L_law_257] at h
  refine l_istore (pc' := 259) (L' := [(4, .int t0), (0, .ref b), (1, .ref (wA (wC g) 7 0)), (2, .ref (wA (wC g2) 7 0)), (5, .int x5)]) h0 dL_law_257 (Nat.le_of_ble_eq_true rfl) rfl rfl ?_
  refine l_sub (L' := [(0, .ref b), (1, .ref (wA (wC g) 7 0)), (2, .ref (wA (wC g2) 7 0)), (4, .int t0), (5, .int x5)]) [1, 2, 3, 0, 4] rfl ?_
  exact w_L_law_259 h0 hK hK2 hap hX fu hE K66 cK kK66 cn (by omega) t0 x5 S S2 h
set_option maxRecDepth 20000 in
theorem w_L_law_256 {g g2 : GC} {X : MX} {b : Nat} {r : Int32} {S' S2' : Mem}  {xs : Nat → Int32} {Ln : Nat} (h0 : LX RL cL_law 8 room_1 X) (hK : KW g (AL X) X) (hK2 : KW g2 (AL X) X) (hap : aptC g g2) (hX : KX b Ln xs X) (fu : Nat) (hE : EL g g2 r S' S2' X) (K66 : Int32 → Int32 → Mem → Mem → Option (Int32 × Mem × Mem)) (cK : Nat) (kK66 : ∀ (cn : Nat), cn + cK ≤ 648415 → ∀ (x4 : Int32) (x5 : Int32) (S : Mem) (S2 : Mem), K66 x4 x5 S S2 = some (r, S', S2') → LQ X (AL X) 8 cn (pW2 g g2 S S2) [(0, .ref b), (1, .ref (wA (wC g) 7 0)), (2, .ref (wA (wC g2) 7 0)), (4, .int x4), (5, .int x5)] 66 []) : ∀ (cn : Nat), cn + (0 + cK) ≤ 648415 → ∀ (x5 : Int32) (S : Mem) (S2 : Mem), f_L_law_256 fu K66 xs Ln x5 S S2 = some (r, S', S2') → LQ X (AL X) 8 cn (pW2 g g2 S S2) [(0, .ref b), (1, .ref (wA (wC g) 7 0)), (2, .ref (wA (wC g2) 7 0)), (5, .int x5)] 256 [] := by
  intro cn hc x5 S S2 h
  rw [f_L_law_256] at h
  refine l_iconst (pc' := 257) h0 dL_law_256 ki_0 rfl ?_
  exact w_L_law_257 h0 hK hK2 hap hX fu hE K66 cK kK66 cn (by omega) x5 0 S S2 h
set_option maxRecDepth 20000 in
theorem w_L_law_201 {g g2 : GC} {X : MX} {b : Nat} {r : Int32} {S' S2' : Mem}  {xs : Nat → Int32} {Ln : Nat} (h0 : LX RL cL_law 8 room_1 X) (hK : KW g (AL X) X) (hK2 : KW g2 (AL X) X) (hap : aptC g g2) (hX : KX b Ln xs X) (fu : Nat) (hE : EL g g2 r S' S2' X) (K66 : Int32 → Int32 → Mem → Mem → Option (Int32 × Mem × Mem)) (cK : Nat) (kK66 : ∀ (cn : Nat), cn + cK ≤ 648415 → ∀ (x4 : Int32) (x5 : Int32) (S : Mem) (S2 : Mem), K66 x4 x5 S S2 = some (r, S', S2') → LQ X (AL X) 8 cn (pW2 g g2 S S2) [(0, .ref b), (1, .ref (wA (wC g) 7 0)), (2, .ref (wA (wC g2) 7 0)), (4, .int x4), (5, .int x5)] 66 []) : ∀ (cn : Nat), cn + (34 + cK) ≤ 648415 → ∀ (x5 : Int32) (x6 : Int32) (t0 : Int32) (S : Mem) (S2 : Mem), f_L_law_201 fu K66 xs Ln x5 x6 t0 S S2 = some (r, S', S2') → LQ X (AL X) 8 cn (pW2 g g2 S S2) [(0, .ref b), (1, .ref (wA (wC g) 7 0)), (2, .ref (wA (wC g2) 7 0)), (5, .int x5), (6, .int x6)] 201 [.int t0] := by
  intro cn hc x5 x6 t0 S S2 h
  rw [f_L_law_201] at h
  refine l_istore (pc' := 203) (L' := [(4, .int t0), (0, .ref b), (1, .ref (wA (wC g) 7 0)), (2, .ref (wA (wC g2) 7 0)), (5, .int x5), (6, .int x6)]) h0 dL_law_201 (Nat.le_of_ble_eq_true rfl) rfl rfl ?_
  refine l_iload (pc' := 205) h0 4 dL_law_203 rfl rfl ?_
  refine l_bipush (pc' := 207) h0 dL_law_205 kb_20 rfl ?_
  refine l_ic_le (pt := 259) (pf := 210) h0 dL_law_207 rfl rfl h (fun c207 h => ?_) (fun c207 h => ?_)
  · refine l_sub (L' := [(0, .ref b), (1, .ref (wA (wC g) 7 0)), (2, .ref (wA (wC g2) 7 0)), (4, .int t0), (5, .int x5)]) [1, 2, 3, 0, 4] rfl ?_
    exact w_L_law_259 h0 hK hK2 hap hX fu hE K66 cK kK66 cn (by omega) t0 x5 S S2 h
  · refine l_iload (pc' := 212) h0 4 dL_law_210 rfl rfl ?_
    refine l_bipush (pc' := 214) h0 dL_law_212 kb_7 rfl ?_
    refine l_irem (pc' := 215) h0 dL_law_214 rfl h (fun h => ?_)
    refine l_iconst (pc' := 216) h0 dL_law_215 ki_5 rfl ?_
    refine l_ic_ne (pt := 259) (pf := 219) h0 dL_law_216 rfl rfl h (fun c216 h => ?_) (fun c216 h => ?_)
    · refine l_sub (L' := [(0, .ref b), (1, .ref (wA (wC g) 7 0)), (2, .ref (wA (wC g2) 7 0)), (4, .int t0), (5, .int x5)]) [1, 2, 3, 0, 4] rfl ?_
      exact w_L_law_259 h0 hK hK2 hap hX fu hE K66 cK kK66 cn (by omega) t0 x5 S S2 h
    · refine l_iload (pc' := 221) h0 0 dL_law_219 rfl rfl ?_
      refine l_if_eq (pt := 256) (pf := 224) h0 dL_law_221 rfl rfl h (fun c221 h => ?_) (fun c221 h => ?_)
      · refine l_sub (L' := [(0, .ref b), (1, .ref (wA (wC g) 7 0)), (2, .ref (wA (wC g2) 7 0)), (5, .int x5)]) [1, 2, 3, 4] rfl ?_
        exact w_L_law_256 h0 hK hK2 hap hX fu hE K66 cK kK66 cn (by omega) x5 S S2 h
      · refine l_aload_n (pc' := 225) h0 2 dL_law_224 rfl rfl rfl ?_
        refine l_aload_n (pc' := 226) h0 3 dL_law_225 rfl rfl rfl ?_
        refine l_iload (pc' := 228) h0 5 dL_law_226 rfl rfl ?_
        refine l_iconst (pc' := 229) h0 dL_law_228 ki_3 rfl ?_
        refine l_ishr (pc' := 230) h0 dL_law_229 rfl ?_
        refine l_aload_n (pc' := 231) h0 2 dL_law_230 rfl rfl rfl ?_
        obtain ⟨r231, h231, h⟩ := b1_some h
        refine q_callV (n := 0) (pc' := 234) vl_399 vl_400 vl_401 vl_402 vl_28 ⟨by decide +kernel, by decide +kernel, by decide +kernel⟩ [] [.int (x6 >>> (3 &&& 31)), .ref (wA (wC g2) 7 0), .ref (wA (wC g) 7 0)] h0 hK (stab_hp hap) (c_X7_junctions g fu S h231) rfl rfl dL_law_231 rfl (Nat.le_of_ble_eq_true rfl) ⟨rfl, rfl, (Nat.le_of_ble_eq_true rfl), (Nat.le_of_ble_eq_true rfl)⟩ ⟨by show cn ≤ 648415; omega, by show 6 * cn ≤ 7156452; omega⟩ ?_
        show LQ X (AL X) 8 cn (pW2 g g2 S S2) [(4, .int t0), (0, .ref b), (1, .ref (wA (wC g) 7 0)), (2, .ref (wA (wC g2) 7 0)), (5, .int x5), (6, .int x6)] 234 [.int r231, .int (x6 >>> (3 &&& 31)), .ref (wA (wC g2) 7 0), .ref (wA (wC g) 7 0)]
        obtain ⟨r234, h234, h⟩ := b1_some h
        refine q_callS (n := 2) (pc' := 237) vl_406 vl_407 vl_408 vl_27 ⟨by decide +kernel, by decide +kernel, by decide +kernel⟩ [.int (x6 >>> (3 &&& 31)), .int r231] [.ref (wA (wC g2) 7 0), .ref (wA (wC g) 7 0)] h0 hK (stab_hp hap) (c_L_low g fu (x6 >>> (3 &&& 31)) r231 S h234) rfl rfl dL_law_234 rfl (Nat.le_of_ble_eq_true rfl) ⟨rfl, rfl, (Nat.le_of_ble_eq_true rfl), (Nat.le_of_ble_eq_true rfl)⟩ ⟨by show cn ≤ 648415; omega, by show 6 * cn ≤ 7156452; omega⟩ ?_
        show LQ X (AL X) 8 cn (pW2 g g2 S S2) [(4, .int t0), (0, .ref b), (1, .ref (wA (wC g) 7 0)), (2, .ref (wA (wC g2) 7 0)), (5, .int x5), (6, .int x6)] 237 [.int r234, .ref (wA (wC g2) 7 0), .ref (wA (wC g) 7 0)]
        refine l_iload (pc' := 239) h0 5 dL_law_237 rfl rfl ?_
        refine l_bipush (pc' := 241) h0 dL_law_239 kb_6 rfl ?_
        refine l_ishr (pc' := 242) h0 dL_law_241 rfl ?_
        refine l_iconst (pc' := 243) h0 dL_law_242 ki_4 rfl ?_
        obtain ⟨r243, h243, h⟩ := b1_some h
        refine q_callS (n := 2) (pc' := 246) vl_406 vl_407 vl_408 vl_27 ⟨by decide +kernel, by decide +kernel, by decide +kernel⟩ [.int (x6 >>> (6 &&& 31)), .int 4] [.int r234, .ref (wA (wC g2) 7 0), .ref (wA (wC g) 7 0)] h0 hK (stab_hp hap) (c_L_low g fu (x6 >>> (6 &&& 31)) 4 S h243) rfl rfl dL_law_243 rfl (Nat.le_of_ble_eq_true rfl) ⟨rfl, rfl, (Nat.le_of_ble_eq_true rfl), (Nat.le_of_ble_eq_true rfl)⟩ ⟨by show cn ≤ 648415; omega, by show 6 * cn ≤ 7156452; omega⟩ ?_
        show LQ X (AL X) 8 cn (pW2 g g2 S S2) [(4, .int t0), (0, .ref b), (1, .ref (wA (wC g) 7 0)), (2, .ref (wA (wC g2) 7 0)), (5, .int x5), (6, .int x6)] 246 [.int r243, .int r234, .ref (wA (wC g2) 7 0), .ref (wA (wC g) 7 0)]
        obtain ⟨r246, S246, T246, h246, h⟩ := b3_some h
        refine q_call2 (n := 4) (pc' := 249) vl_843 vl_844 vl_27 vl_845 ⟨by decide +kernel, by decide +kernel, by decide +kernel⟩ [.ref (wA (wC g) 7 0), .ref (wA (wC g2) 7 0), .int r234, .int r243] [] h0 hK hK2 hap (c_L_isCalledSo g g2 fu r234 r243 S S2 h246) rfl rfl dL_law_246 rfl (Nat.le_of_ble_eq_true rfl) ⟨rfl, rfl, (Nat.le_of_ble_eq_true rfl), (Nat.le_of_ble_eq_true rfl)⟩ ⟨by show (cn + 34) ≤ 648415; omega, by show 6 * (cn + 34) ≤ 7156452; omega⟩ ?_
        show LQ X (AL X) 8 (cn + 34) (pW2 g g2 S246 T246) [(4, .int t0), (0, .ref b), (1, .ref (wA (wC g) 7 0)), (2, .ref (wA (wC g2) 7 0)), (5, .int x5), (6, .int x6)] 249 [.int r246]
        refine l_if_eq (pt := 256) (pf := 252) h0 dL_law_249 rfl rfl h (fun c249 h => ?_) (fun c249 h => ?_)
        · refine l_sub (L' := [(0, .ref b), (1, .ref (wA (wC g) 7 0)), (2, .ref (wA (wC g2) 7 0)), (5, .int x5)]) [1, 2, 3, 4] rfl ?_
          exact w_L_law_256 h0 hK hK2 hap hX fu hE K66 cK kK66 (cn + 34) (by omega) x5 S246 T246 h
        · refine l_iconst (pc' := 253) h0 dL_law_252 ki_1 rfl ?_
          refine l_goto (pc' := 257) h0 dL_law_253 rfl ?_
          refine l_sub (L' := [(0, .ref b), (1, .ref (wA (wC g) 7 0)), (2, .ref (wA (wC g2) 7 0)), (5, .int x5)]) [1, 2, 3, 4] rfl ?_
          exact w_L_law_257 h0 hK hK2 hap hX fu hE K66 cK kK66 (cn + 34) (by omega) x5 1 S246 T246 h
set_option maxRecDepth 20000 in
theorem w_L_law_200 {g g2 : GC} {X : MX} {b : Nat} {r : Int32} {S' S2' : Mem}  {xs : Nat → Int32} {Ln : Nat} (h0 : LX RL cL_law 8 room_1 X) (hK : KW g (AL X) X) (hK2 : KW g2 (AL X) X) (hap : aptC g g2) (hX : KX b Ln xs X) (fu : Nat) (hE : EL g g2 r S' S2' X) (K66 : Int32 → Int32 → Mem → Mem → Option (Int32 × Mem × Mem)) (cK : Nat) (kK66 : ∀ (cn : Nat), cn + cK ≤ 648415 → ∀ (x4 : Int32) (x5 : Int32) (S : Mem) (S2 : Mem), K66 x4 x5 S S2 = some (r, S', S2') → LQ X (AL X) 8 cn (pW2 g g2 S S2) [(0, .ref b), (1, .ref (wA (wC g) 7 0)), (2, .ref (wA (wC g2) 7 0)), (4, .int x4), (5, .int x5)] 66 []) : ∀ (cn : Nat), cn + (34 + cK) ≤ 648415 → ∀ (x5 : Int32) (x6 : Int32) (S : Mem) (S2 : Mem), f_L_law_200 fu K66 xs Ln x5 x6 S S2 = some (r, S', S2') → LQ X (AL X) 8 cn (pW2 g g2 S S2) [(0, .ref b), (1, .ref (wA (wC g) 7 0)), (2, .ref (wA (wC g2) 7 0)), (5, .int x5), (6, .int x6)] 200 [] := by
  intro cn hc x5 x6 S S2 h
  rw [f_L_law_200] at h
  refine l_iconst (pc' := 201) h0 dL_law_200 ki_0 rfl ?_
  exact w_L_law_201 h0 hK hK2 hap hX fu hE K66 cK kK66 cn (by omega) x5 x6 0 S S2 h
set_option maxRecDepth 20000 in
theorem w_L_law_189 {g g2 : GC} {X : MX} {b : Nat} {r : Int32} {S' S2' : Mem}  {xs : Nat → Int32} {Ln : Nat} (h0 : LX RL cL_law 8 room_1 X) (hK : KW g (AL X) X) (hK2 : KW g2 (AL X) X) (hap : aptC g g2) (hX : KX b Ln xs X) (fu : Nat) (hE : EL g g2 r S' S2' X) (K66 : Int32 → Int32 → Mem → Mem → Option (Int32 × Mem × Mem)) (cK : Nat) (kK66 : ∀ (cn : Nat), cn + cK ≤ 648415 → ∀ (x4 : Int32) (x5 : Int32) (S : Mem) (S2 : Mem), K66 x4 x5 S S2 = some (r, S', S2') → LQ X (AL X) 8 cn (pW2 g g2 S S2) [(0, .ref b), (1, .ref (wA (wC g) 7 0)), (2, .ref (wA (wC g2) 7 0)), (4, .int x4), (5, .int x5)] 66 []) : ∀ (cn : Nat), cn + (48 + cK) ≤ 648415 → ∀ (x5 : Int32) (x6 : Int32) (S : Mem) (S2 : Mem), f_L_law_189 fu K66 xs Ln x5 x6 S S2 = some (r, S', S2') → LQ X (AL X) 8 cn (pW2 g g2 S S2) [(0, .ref b), (1, .ref (wA (wC g) 7 0)), (2, .ref (wA (wC g2) 7 0)), (5, .int x5), (6, .int x6)] 189 [] := by
  intro cn hc x5 x6 S S2 h
  rw [f_L_law_189] at h
  refine l_aload_n (pc' := 190) h0 1 dL_law_189 rfl rfl rfl ?_
  obtain ⟨r190, h190, h⟩ := b1_some h
  refine q_call1 (n := 1) (pc' := 193) vl_835 vl_836 vl_27 vl_837 ⟨by decide +kernel, by decide +kernel, by decide +kernel⟩ [.ref (wA (wC g) 7 0)] [] h0 hK (stab_hp hap) (c_L_areVehiclesSo g fu S h190) rfl rfl dL_law_190 rfl (Nat.le_of_ble_eq_true rfl) ⟨rfl, rfl, (Nat.le_of_ble_eq_true rfl), (Nat.le_of_ble_eq_true rfl)⟩ ⟨by show (cn + 14) ≤ 648415; omega, by show 6 * (cn + 14) ≤ 7156452; omega⟩ ?_
  show LQ X (AL X) 8 (cn + 14) (pW2 g g2 S S2) [(0, .ref b), (1, .ref (wA (wC g) 7 0)), (2, .ref (wA (wC g2) 7 0)), (5, .int x5), (6, .int x6)] 193 [.int r190]
  refine l_if_eq (pt := 200) (pf := 196) h0 dL_law_193 rfl rfl h (fun c193 h => ?_) (fun c193 h => ?_)
  · exact w_L_law_200 h0 hK hK2 hap hX fu hE K66 cK kK66 (cn + 14) (by omega) x5 x6 S S2 h
  · refine l_iconst (pc' := 197) h0 dL_law_196 ki_1 rfl ?_
    refine l_goto (pc' := 201) h0 dL_law_197 rfl ?_
    exact w_L_law_201 h0 hK hK2 hap hX fu hE K66 cK kK66 (cn + 14) (by omega) x5 x6 1 S S2 h
set_option maxRecDepth 20000 in
theorem w_L_law_162 {g g2 : GC} {X : MX} {b : Nat} {r : Int32} {S' S2' : Mem}  {xs : Nat → Int32} {Ln : Nat} (h0 : LX RL cL_law 8 room_1 X) (hK : KW g (AL X) X) (hK2 : KW g2 (AL X) X) (hap : aptC g g2) (hX : KX b Ln xs X) (fu : Nat) (hE : EL g g2 r S' S2' X) (K66 : Int32 → Int32 → Mem → Mem → Option (Int32 × Mem × Mem)) (cK : Nat) (kK66 : ∀ (cn : Nat), cn + cK ≤ 648415 → ∀ (x4 : Int32) (x5 : Int32) (S : Mem) (S2 : Mem), K66 x4 x5 S S2 = some (r, S', S2') → LQ X (AL X) 8 cn (pW2 g g2 S S2) [(0, .ref b), (1, .ref (wA (wC g) 7 0)), (2, .ref (wA (wC g2) 7 0)), (4, .int x4), (5, .int x5)] 66 []) : ∀ (cn : Nat), cn + (596 + cK) ≤ 648415 → ∀ (x5 : Int32) (x6 : Int32) (S : Mem) (S2 : Mem), f_L_law_162 fu K66 xs Ln x5 x6 S S2 = some (r, S', S2') → LQ X (AL X) 8 cn (pW2 g g2 S S2) [(0, .ref b), (1, .ref (wA (wC g) 7 0)), (2, .ref (wA (wC g2) 7 0)), (5, .int x5), (6, .int x6)] 162 [] := by
  intro cn hc x5 x6 S S2 h
  rw [f_L_law_162] at h
  refine l_iload (pc' := 164) h0 3 dL_law_162 rfl rfl ?_
  refine l_bipush (pc' := 166) h0 dL_law_164 kb_6 rfl ?_
  refine l_irem (pc' := 167) h0 dL_law_166 rfl h (fun h => ?_)
  refine l_iconst (pc' := 168) h0 dL_law_167 ki_2 rfl ?_
  refine l_ic_ne (pt := 189) (pf := 171) h0 dL_law_168 rfl rfl h (fun c168 h => ?_) (fun c168 h => ?_)
  · exact w_L_law_189 h0 hK hK2 hap hX fu hE K66 cK kK66 cn (by omega) x5 x6 S S2 h
  · refine l_aload_n (pc' := 172) h0 1 dL_law_171 rfl rfl rfl ?_
    refine l_iload (pc' := 174) h0 4 dL_law_172 rfl rfl ?_
    refine l_bipush (pc' := 176) h0 dL_law_174 kb_6 rfl ?_
    refine l_ishr (pc' := 177) h0 dL_law_176 rfl ?_
    refine l_sipush (pc' := 180) h0 dL_law_177 ks_500 rfl ?_
    obtain ⟨r180, h180, h⟩ := b1_some h
    refine q_callS (n := 2) (pc' := 183) vl_406 vl_407 vl_408 vl_27 ⟨by decide +kernel, by decide +kernel, by decide +kernel⟩ [.int (x6 >>> (6 &&& 31)), .int 500] [.ref (wA (wC g) 7 0)] h0 hK (stab_hp hap) (c_L_low g fu (x6 >>> (6 &&& 31)) 500 S h180) rfl rfl dL_law_180 rfl (Nat.le_of_ble_eq_true rfl) ⟨rfl, rfl, (Nat.le_of_ble_eq_true rfl), (Nat.le_of_ble_eq_true rfl)⟩ ⟨by show cn ≤ 648415; omega, by show 6 * cn ≤ 7156452; omega⟩ ?_
    show LQ X (AL X) 8 cn (pW2 g g2 S S2) [(0, .ref b), (1, .ref (wA (wC g) 7 0)), (2, .ref (wA (wC g2) 7 0)), (5, .int x5), (6, .int x6)] 183 [.int r180, .ref (wA (wC g) 7 0)]
    obtain ⟨r183, S183, h183, h⟩ := b2_some h
    refine q_call1 (n := 2) (pc' := 186) vl_801 vl_802 vl_27 vl_803 ⟨by decide +kernel, by decide +kernel, by decide +kernel⟩ [.ref (wA (wC g) 7 0), .int r180] [] h0 hK (stab_hp hap) (c_L_arePlansSo g fu r180 S h183) rfl rfl dL_law_183 rfl (Nat.le_of_ble_eq_true rfl) ⟨rfl, rfl, (Nat.le_of_ble_eq_true rfl), (Nat.le_of_ble_eq_true rfl)⟩ ⟨by show (cn + 548) ≤ 648415; omega, by show 6 * (cn + 548) ≤ 7156452; omega⟩ ?_
    show LQ X (AL X) 8 (cn + 548) (pW2 g g2 S183 S2) [(0, .ref b), (1, .ref (wA (wC g) 7 0)), (2, .ref (wA (wC g2) 7 0)), (5, .int x5), (6, .int x6)] 186 [.int r183]
    refine l_if_eq (pt := 200) (pf := 189) h0 dL_law_186 rfl rfl h (fun c186 h => ?_) (fun c186 h => ?_)
    · exact w_L_law_200 h0 hK hK2 hap hX fu hE K66 cK kK66 (cn + 548) (by omega) x5 x6 S183 S2 h
    · exact w_L_law_189 h0 hK hK2 hap hX fu hE K66 cK kK66 (cn + 548) (by omega) x5 x6 S183 S2 h
set_option maxRecDepth 20000 in
theorem w_L_law_146 {g g2 : GC} {X : MX} {b : Nat} {r : Int32} {S' S2' : Mem}  {xs : Nat → Int32} {Ln : Nat} (h0 : LX RL cL_law 8 room_1 X) (hK : KW g (AL X) X) (hK2 : KW g2 (AL X) X) (hap : aptC g g2) (hX : KX b Ln xs X) (fu : Nat) (hE : EL g g2 r S' S2' X) (K66 : Int32 → Int32 → Mem → Mem → Option (Int32 × Mem × Mem)) (cK : Nat) (kK66 : ∀ (cn : Nat), cn + cK ≤ 648415 → ∀ (x4 : Int32) (x5 : Int32) (S : Mem) (S2 : Mem), K66 x4 x5 S S2 = some (r, S', S2') → LQ X (AL X) 8 cn (pW2 g g2 S S2) [(0, .ref b), (1, .ref (wA (wC g) 7 0)), (2, .ref (wA (wC g2) 7 0)), (4, .int x4), (5, .int x5)] 66 []) : ∀ (cn : Nat), cn + (670 + cK) ≤ 648415 → ∀ (x5 : Int32) (x6 : Int32) (S : Mem) (S2 : Mem), f_L_law_146 fu K66 xs Ln x5 x6 S S2 = some (r, S', S2') → LQ X (AL X) 8 cn (pW2 g g2 S S2) [(0, .ref b), (1, .ref (wA (wC g) 7 0)), (2, .ref (wA (wC g2) 7 0)), (5, .int x5), (6, .int x6)] 146 [] := by
  intro cn hc x5 x6 S S2 h
  rw [f_L_law_146] at h
  refine l_iload (pc' := 148) h0 3 dL_law_146 rfl rfl ?_
  refine l_iconst (pc' := 149) h0 dL_law_148 ki_5 rfl ?_
  refine l_irem (pc' := 150) h0 dL_law_149 rfl h (fun h => ?_)
  refine l_iconst (pc' := 151) h0 dL_law_150 ki_3 rfl ?_
  refine l_ic_ne (pt := 162) (pf := 154) h0 dL_law_151 rfl rfl h (fun c151 h => ?_) (fun c151 h => ?_)
  · exact w_L_law_162 h0 hK hK2 hap hX fu hE K66 cK kK66 cn (by omega) x5 x6 S S2 h
  · refine l_aload_n (pc' := 155) h0 1 dL_law_154 rfl rfl rfl ?_
    refine l_aload_n (pc' := 156) h0 2 dL_law_155 rfl rfl rfl ?_
    obtain ⟨r156, S156, T156, h156, h⟩ := b3_some h
    refine q_call2 (n := 2) (pc' := 159) vl_738 vl_739 vl_27 vl_740 ⟨by decide +kernel, by decide +kernel, by decide +kernel⟩ [.ref (wA (wC g) 7 0), .ref (wA (wC g2) 7 0)] [] h0 hK hK2 hap (c_L_areAlike g g2 fu S S2 h156) rfl rfl dL_law_156 rfl (Nat.le_of_ble_eq_true rfl) ⟨rfl, rfl, (Nat.le_of_ble_eq_true rfl), (Nat.le_of_ble_eq_true rfl)⟩ ⟨by show (cn + 74) ≤ 648415; omega, by show 6 * (cn + 74) ≤ 7156452; omega⟩ ?_
    show LQ X (AL X) 8 (cn + 74) (pW2 g g2 S156 T156) [(0, .ref b), (1, .ref (wA (wC g) 7 0)), (2, .ref (wA (wC g2) 7 0)), (5, .int x5), (6, .int x6)] 159 [.int r156]
    refine l_if_eq (pt := 200) (pf := 162) h0 dL_law_159 rfl rfl h (fun c159 h => ?_) (fun c159 h => ?_)
    · exact w_L_law_200 h0 hK hK2 hap hX fu hE K66 cK kK66 (cn + 74) (by omega) x5 x6 S156 T156 h
    · exact w_L_law_162 h0 hK hK2 hap hX fu hE K66 cK kK66 (cn + 74) (by omega) x5 x6 S156 T156 h
set_option maxRecDepth 20000 in
theorem w_L_law_118 {g g2 : GC} {X : MX} {b : Nat} {r : Int32} {S' S2' : Mem}  {xs : Nat → Int32} {Ln : Nat} (h0 : LX RL cL_law 8 room_1 X) (hK : KW g (AL X) X) (hK2 : KW g2 (AL X) X) (hap : aptC g g2) (hX : KX b Ln xs X) (fu : Nat) (hE : EL g g2 r S' S2' X) (K66 : Int32 → Int32 → Mem → Mem → Option (Int32 × Mem × Mem)) (cK : Nat) (kK66 : ∀ (cn : Nat), cn + cK ≤ 648415 → ∀ (x4 : Int32) (x5 : Int32) (S : Mem) (S2 : Mem), K66 x4 x5 S S2 = some (r, S', S2') → LQ X (AL X) 8 cn (pW2 g g2 S S2) [(0, .ref b), (1, .ref (wA (wC g) 7 0)), (2, .ref (wA (wC g2) 7 0)), (4, .int x4), (5, .int x5)] 66 []) : ∀ (cn : Nat), cn + (680 + cK) ≤ 648415 → ∀ (x5 : Int32) (t0 : Int32) (S : Mem) (S2 : Mem), f_L_law_118 fu K66 xs Ln x5 t0 S S2 = some (r, S', S2') → LQ X (AL X) 8 cn (pW2 g g2 S S2) [(0, .ref b), (1, .ref (wA (wC g) 7 0)), (2, .ref (wA (wC g2) 7 0)), (5, .int x5)] 118 [.int t0] := by
  intro cn hc x5 t0 S S2 h
  rw [f_L_law_118] at h
  refine l_istore (pc' := 120) (L' := [(6, .int t0), (0, .ref b), (1, .ref (wA (wC g) 7 0)), (2, .ref (wA (wC g2) 7 0)), (5, .int x5)]) h0 dL_law_118 (Nat.le_of_ble_eq_true rfl) rfl rfl ?_
  refine l_aload_n (pc' := 121) h0 2 dL_law_120 rfl rfl rfl ?_
  refine l_iload (pc' := 123) h0 0 dL_law_121 rfl rfl ?_
  obtain ⟨r123, S123, h123, h⟩ := b2_some h
  refine q_call1 (n := 2) (pc' := 126) vl_731 vl_732 vl_27 vl_733 ⟨by decide +kernel, by decide +kernel, by decide +kernel⟩ [.ref (wA (wC g) 7 0), .int t0] [] h0 hK (stab_hp hap) (c_L_act g fu t0 S h123) rfl rfl dL_law_123 rfl (Nat.le_of_ble_eq_true rfl) ⟨rfl, rfl, (Nat.le_of_ble_eq_true rfl), (Nat.le_of_ble_eq_true rfl)⟩ ⟨by show (cn + 5) ≤ 648415; omega, by show 6 * (cn + 5) ≤ 7156452; omega⟩ ?_
  show LQ X (AL X) 8 (cn + 5) (pW2 g g2 S123 S2) [(6, .int t0), (0, .ref b), (1, .ref (wA (wC g) 7 0)), (2, .ref (wA (wC g2) 7 0)), (5, .int x5)] 126 [.int r123]
  refine l_istore (pc' := 128) (L' := [(7, .int r123), (6, .int t0), (0, .ref b), (1, .ref (wA (wC g) 7 0)), (2, .ref (wA (wC g2) 7 0)), (5, .int x5)]) h0 dL_law_126 (Nat.le_of_ble_eq_true rfl) rfl rfl ?_
  refine l_iload (pc' := 130) h0 0 dL_law_128 rfl rfl ?_
  refine l_ldc (pc' := 132) h0 vl_730 dL_law_130 rfl ?_
  refine l_ic_eq (pt := 146) (pf := 135) h0 dL_law_132 rfl rfl h (fun c132 h => ?_) (fun c132 h => ?_)
  · refine l_sub (L' := [(0, .ref b), (1, .ref (wA (wC g) 7 0)), (2, .ref (wA (wC g2) 7 0)), (5, .int x5), (6, .int t0)]) [2, 3, 4, 5, 1] rfl ?_
    exact w_L_law_146 h0 hK hK2 hap hX fu hE K66 cK kK66 (cn + 5) (by omega) x5 t0 S123 S2 h
  · refine l_aload_n (pc' := 136) h0 4 dL_law_135 rfl rfl rfl ?_
    refine l_iload (pc' := 138) h0 1 dL_law_136 rfl rfl ?_
    obtain ⟨r138, S138, h138, h⟩ := b2_some h
    refine q_swap ?_
    refine q_call1 (n := 2) (pc' := 141) vl_731 vl_732 vl_27 vl_733 ⟨by decide +kernel, by decide +kernel, by decide +kernel⟩ [.ref (wA (wC g2) 7 0), .int t0] [] h0 hK2 (stab_hp hap.symm) (c_L_act g2 fu t0 S2 h138) rfl rfl dL_law_138 rfl (Nat.le_of_ble_eq_true rfl) ⟨rfl, rfl, (Nat.le_of_ble_eq_true rfl), (Nat.le_of_ble_eq_true rfl)⟩ ⟨by show ((cn + 5) + 5) ≤ 648415; omega, by show 6 * ((cn + 5) + 5) ≤ 7156452; omega⟩ ?_
    refine q_swap ?_
    show LQ X (AL X) 8 ((cn + 5) + 5) (pW2 g g2 S123 S138) [(7, .int r123), (6, .int t0), (0, .ref b), (1, .ref (wA (wC g) 7 0)), (2, .ref (wA (wC g2) 7 0)), (5, .int x5)] 141 [.int r138]
    refine l_iload (pc' := 143) h0 0 dL_law_141 rfl rfl ?_
    refine l_ic_ne (pt := 200) (pf := 146) h0 dL_law_143 rfl rfl h (fun c143 h => ?_) (fun c143 h => ?_)
    · refine l_sub (L' := [(0, .ref b), (1, .ref (wA (wC g) 7 0)), (2, .ref (wA (wC g2) 7 0)), (5, .int x5), (6, .int t0)]) [2, 3, 4, 5, 1] rfl ?_
      exact w_L_law_200 h0 hK hK2 hap hX fu hE K66 cK kK66 ((cn + 5) + 5) (by omega) x5 t0 S123 S138 h
    · refine l_sub (L' := [(0, .ref b), (1, .ref (wA (wC g) 7 0)), (2, .ref (wA (wC g2) 7 0)), (5, .int x5), (6, .int t0)]) [2, 3, 4, 5, 1] rfl ?_
      exact w_L_law_146 h0 hK hK2 hap hX fu hE K66 cK kK66 ((cn + 5) + 5) (by omega) x5 t0 S123 S138 h
set_option maxRecDepth 20000 in
theorem w_L_law_66 {g g2 : GC} {X : MX} {b : Nat} {r : Int32} {S' S2' : Mem}  {xs : Nat → Int32} {Ln : Nat} (h0 : LX RL cL_law 8 room_1 X) (hK : KW g (AL X) X) (hK2 : KW g2 (AL X) X) (hap : aptC g g2) (hX : KX b Ln xs X) (fu : Nat) (hE : EL g g2 r S' S2' X) : ∀ (n : Nat) (cn : Nat), cn + (n * 680 + 622) ≤ 648415 → ∀ (x4 : Int32) (x5 : Int32) (S : Mem) (S2 : Mem), f_L_law_66 fu xs Ln n x4 x5 S S2 = some (r, S', S2') → LQ X (AL X) 8 cn (pW2 g g2 S S2) [(0, .ref b), (1, .ref (wA (wC g) 7 0)), (2, .ref (wA (wC g2) 7 0)), (4, .int x4), (5, .int x5)] 66 [] := by
  intro n
  induction n with
  | zero =>
    intro cn hc x4 x5 S S2 h
    exact nomatch (show none = _ from h)
  | succ n ih =>
    intro cn hc x4 x5 S S2 h
    rw [f_L_law_66] at h
    refine l_iload (pc' := 68) h0 4 dL_law_66 rfl rfl ?_
    refine l_bipush (pc' := 70) h0 dL_law_68 kb_64 rfl ?_
    refine l_ic_ge (pt := 265) (pf := 73) h0 dL_law_70 rfl rfl h (fun c70 h => ?_) (fun c70 h => ?_)
    · refine l_sub (L' := [(1, .ref (wA (wC g) 7 0)), (2, .ref (wA (wC g2) 7 0)), (4, .int x4)]) [1, 2, 3] rfl ?_
      exact w_L_law_265 h0 hK hK2 hap hX fu hE cn (by omega) x4 S S2 h
    · refine l_iload (pc' := 75) h0 3 dL_law_73 rfl rfl ?_
      refine l_if_eq (pt := 265) (pf := 78) h0 dL_law_75 rfl rfl h (fun c75 h => ?_) (fun c75 h => ?_)
      · refine l_sub (L' := [(1, .ref (wA (wC g) 7 0)), (2, .ref (wA (wC g2) 7 0)), (4, .int x4)]) [1, 2, 3] rfl ?_
        exact w_L_law_265 h0 hK hK2 hap hX fu hE cn (by omega) x4 S S2 h
      · refine l_iload (pc' := 80) h0 4 dL_law_78 rfl rfl ?_
        refine l_bipush (pc' := 82) h0 dL_law_80 kb_16 rfl ?_
        refine l_ic_ge (pt := 112) (pf := 85) h0 dL_law_82 rfl rfl h (fun c82 h => ?_) (fun c82 h => ?_)
        · refine l_aload_n (pc' := 113) h0 0 dL_law_112 rfl rfl rfl ?_
          refine l_iload (pc' := 115) h0 4 dL_law_113 rfl rfl ?_
          obtain ⟨r115, h115, h⟩ := b1_some h
          refine s_cell (pc' := 118) (n := 2) vl_403 vl_404 vl_405 vl_27 ⟨by decide +kernel, by decide +kernel, by decide +kernel⟩ [.ref b, .int x5] [] h0 hX (c_L_cell xs Ln x5 h115) rfl rfl dL_law_115 rfl (Nat.le_of_ble_eq_true rfl) ⟨rfl, rfl, (Nat.le_of_ble_eq_true rfl), (Nat.le_of_ble_eq_true rfl)⟩ ⟨by show cn ≤ 648415; omega, by show 6 * cn ≤ 7156452; omega⟩ ?_
          show LQ X (AL X) 8 cn (pW2 g g2 S S2) [(0, .ref b), (1, .ref (wA (wC g) 7 0)), (2, .ref (wA (wC g2) 7 0)), (4, .int x4), (5, .int x5)] 118 [.int r115]
          refine l_sub (L' := [(0, .ref b), (1, .ref (wA (wC g) 7 0)), (2, .ref (wA (wC g2) 7 0)), (5, .int x5)]) [0, 1, 2, 4] rfl ?_
          exact w_L_law_118 h0 hK hK2 hap hX fu hE (f_L_law_66 fu xs Ln n) (n * 680 + 622) ih cn (by omega) x5 r115 S S2 h
        · refine l_aload_n (pc' := 86) h0 0 dL_law_85 rfl rfl rfl ?_
          refine l_iload (pc' := 88) h0 4 dL_law_86 rfl rfl ?_
          obtain ⟨r88, h88, h⟩ := b1_some h
          refine s_cell (pc' := 91) (n := 2) vl_403 vl_404 vl_405 vl_27 ⟨by decide +kernel, by decide +kernel, by decide +kernel⟩ [.ref b, .int x5] [] h0 hX (c_L_cell xs Ln x5 h88) rfl rfl dL_law_88 rfl (Nat.le_of_ble_eq_true rfl) ⟨rfl, rfl, (Nat.le_of_ble_eq_true rfl), (Nat.le_of_ble_eq_true rfl)⟩ ⟨by show cn ≤ 648415; omega, by show 6 * cn ≤ 7156452; omega⟩ ?_
          show LQ X (AL X) 8 cn (pW2 g g2 S S2) [(0, .ref b), (1, .ref (wA (wC g) 7 0)), (2, .ref (wA (wC g2) 7 0)), (4, .int x4), (5, .int x5)] 91 [.int r88]
          refine l_bipush (pc' := 93) h0 dL_law_91 kb_32 rfl ?_
          refine l_idiv (pc' := 94) h0 dL_law_93 rfl h (fun h => ?_)
          refine l_bipush (pc' := 96) h0 dL_law_94 kb_32 rfl ?_
          refine l_imul (pc' := 97) h0 dL_law_96 rfl ?_
          refine l_aload_n (pc' := 98) h0 0 dL_law_97 rfl rfl rfl ?_
          refine l_iload (pc' := 100) h0 4 dL_law_98 rfl rfl ?_
          obtain ⟨r100, h100, h⟩ := b1_some h
          refine s_cell (pc' := 103) (n := 2) vl_403 vl_404 vl_405 vl_27 ⟨by decide +kernel, by decide +kernel, by decide +kernel⟩ [.ref b, .int x5] [.int ((r88 / 32) * 32)] h0 hX (c_L_cell xs Ln x5 h100) rfl rfl dL_law_100 rfl (Nat.le_of_ble_eq_true rfl) ⟨rfl, rfl, (Nat.le_of_ble_eq_true rfl), (Nat.le_of_ble_eq_true rfl)⟩ ⟨by show cn ≤ 648415; omega, by show 6 * cn ≤ 7156452; omega⟩ ?_
          show LQ X (AL X) 8 cn (pW2 g g2 S S2) [(0, .ref b), (1, .ref (wA (wC g) 7 0)), (2, .ref (wA (wC g2) 7 0)), (4, .int x4), (5, .int x5)] 103 [.int r100, .int ((r88 / 32) * 32)]
          refine l_bipush (pc' := 105) h0 dL_law_103 kb_18 rfl ?_
          obtain ⟨r105, h105, h⟩ := b1_some h
          refine q_callS (n := 2) (pc' := 108) vl_406 vl_407 vl_408 vl_27 ⟨by decide +kernel, by decide +kernel, by decide +kernel⟩ [.int r100, .int 18] [.int ((r88 / 32) * 32)] h0 hK (stab_hp hap) (c_L_low g fu r100 18 S h105) rfl rfl dL_law_105 rfl (Nat.le_of_ble_eq_true rfl) ⟨rfl, rfl, (Nat.le_of_ble_eq_true rfl), (Nat.le_of_ble_eq_true rfl)⟩ ⟨by show cn ≤ 648415; omega, by show 6 * cn ≤ 7156452; omega⟩ ?_
          show LQ X (AL X) 8 cn (pW2 g g2 S S2) [(0, .ref b), (1, .ref (wA (wC g) 7 0)), (2, .ref (wA (wC g2) 7 0)), (4, .int x4), (5, .int x5)] 108 [.int r105, .int ((r88 / 32) * 32)]
          refine l_iadd (pc' := 109) h0 dL_law_108 rfl ?_
          refine l_goto (pc' := 118) h0 dL_law_109 rfl ?_
          refine l_sub (L' := [(0, .ref b), (1, .ref (wA (wC g) 7 0)), (2, .ref (wA (wC g2) 7 0)), (5, .int x5)]) [0, 1, 2, 4] rfl ?_
          exact w_L_law_118 h0 hK hK2 hap hX fu hE (f_L_law_66 fu xs Ln n) (n * 680 + 622) ih cn (by omega) x5 (((r88 / 32) * 32) + r105) S S2 h
set_option maxRecDepth 20000 in
theorem w_L_law_61 {g g2 : GC} {X : MX} {b : Nat} {r : Int32} {S' S2' : Mem}  {xs : Nat → Int32} {Ln : Nat} (h0 : LX RL cL_law 8 room_1 X) (hK : KW g (AL X) X) (hK2 : KW g2 (AL X) X) (hap : aptC g g2) (hX : KX b Ln xs X) (fu : Nat) (hE : EL g g2 r S' S2' X) : ∀ (cn : Nat), cn + (44822) ≤ 648415 → ∀ (t0 : Int32) (S : Mem) (S2 : Mem), f_L_law_61 fu xs Ln t0 S S2 = some (r, S', S2') → LQ X (AL X) 8 cn (pW2 g g2 S S2) [(0, .ref b), (1, .ref (wA (wC g) 7 0)), (2, .ref (wA (wC g2) 7 0))] 61 [.int t0] := by
  intro cn hc t0 S S2 h
  rw [f_L_law_61] at h
  refine l_istore (pc' := 63) (L' := [(4, .int t0), (0, .ref b), (1, .ref (wA (wC g) 7 0)), (2, .ref (wA (wC g2) 7 0))]) h0 dL_law_61 (Nat.le_of_ble_eq_true rfl) rfl rfl ?_
  refine l_iconst (pc' := 64) h0 dL_law_63 ki_1 rfl ?_
  refine l_istore (pc' := 66) (L' := [(5, .int 1), (4, .int t0), (0, .ref b), (1, .ref (wA (wC g) 7 0)), (2, .ref (wA (wC g2) 7 0))]) h0 dL_law_64 (Nat.le_of_ble_eq_true rfl) rfl rfl ?_
  refine l_sub (L' := [(0, .ref b), (1, .ref (wA (wC g) 7 0)), (2, .ref (wA (wC g2) 7 0)), (4, .int t0), (5, .int 1)]) [2, 3, 4, 1, 0] rfl ?_
  exact w_L_law_66 h0 hK hK2 hap hX fu hE 65 cn (by omega) t0 1 S S2 h
set_option maxRecDepth 20000 in
theorem w_L_law_60 {g g2 : GC} {X : MX} {b : Nat} {r : Int32} {S' S2' : Mem}  {xs : Nat → Int32} {Ln : Nat} (h0 : LX RL cL_law 8 room_1 X) (hK : KW g (AL X) X) (hK2 : KW g2 (AL X) X) (hap : aptC g g2) (hX : KX b Ln xs X) (fu : Nat) (hE : EL g g2 r S' S2' X) : ∀ (cn : Nat), cn + (44822) ≤ 648415 → ∀ (S : Mem) (S2 : Mem), f_L_law_60 fu xs Ln S S2 = some (r, S', S2') → LQ X (AL X) 8 cn (pW2 g g2 S S2) [(0, .ref b), (1, .ref (wA (wC g) 7 0)), (2, .ref (wA (wC g2) 7 0))] 60 [] := by
  intro cn hc S S2 h
  rw [f_L_law_60] at h
  refine l_iconst (pc' := 61) h0 dL_law_60 ki_0 rfl ?_
  exact w_L_law_61 h0 hK hK2 hap hX fu hE cn (by omega) 0 S S2 h
set_option maxRecDepth 20000 in
theorem w_L_law {g g2 : GC} {X : MX} {b : Nat} {r : Int32} {S' S2' : Mem} {xs : Nat → Int32} {Ln : Nat} (h0 : LX RL cL_law 8 room_1 X) (hK : KW g (AL X) X) (hK2 : KW g2 (AL X) X) (hap : aptC g g2) (hX : KX b Ln xs X) (S S2 : Mem) (fu : Nat) (hE : EL g g2 r S' S2' X) : f_L_law fu xs Ln S S2 = some (r, S', S2') → LQ X (AL X) 8 400 (pW2 g g2 S S2) [(2, .ref (wA (wC g2) 7 0)), (1, .ref (wA (wC g) 7 0)), (0, .ref b)] 16 [] := by
  intro h
  rw [f_L_law] at h
  refine l_iconst (pc' := 17) h0 dL_law_16 ki_2 rfl ?_
  refine l_aload_n (pc' := 18) h0 2 dL_law_17 rfl rfl rfl ?_
  refine l_iconst (pc' := 19) h0 dL_law_18 ki_0 rfl ?_
  obtain ⟨r19, h19, h⟩ := b1_some h
  refine s_cell (pc' := 22) (n := 2) vl_403 vl_404 vl_405 vl_27 ⟨by decide +kernel, by decide +kernel, by decide +kernel⟩ [.ref b, .int 0] [.int 2] h0 hX (c_L_cell xs Ln 0 h19) rfl rfl dL_law_19 rfl (Nat.le_of_ble_eq_true rfl) ⟨rfl, rfl, (Nat.le_of_ble_eq_true rfl), (Nat.le_of_ble_eq_true rfl)⟩ ⟨by show 400 ≤ 648415; omega, by show 6 * 400 ≤ 7156452; omega⟩ ?_
  show LQ X (AL X) 8 400 (pW2 g g2 S S2) [(2, .ref (wA (wC g2) 7 0)), (1, .ref (wA (wC g) 7 0)), (0, .ref b)] 22 [.int r19, .int 2]
  refine l_iconst (pc' := 23) h0 dL_law_22 ki_3 rfl ?_
  obtain ⟨r23, h23, h⟩ := b1_some h
  refine q_callS (n := 2) (pc' := 26) vl_406 vl_407 vl_408 vl_27 ⟨by decide +kernel, by decide +kernel, by decide +kernel⟩ [.int r19, .int 3] [.int 2] h0 hK (stab_hp hap) (c_L_low g fu r19 3 S h23) rfl rfl dL_law_23 rfl (Nat.le_of_ble_eq_true rfl) ⟨rfl, rfl, (Nat.le_of_ble_eq_true rfl), (Nat.le_of_ble_eq_true rfl)⟩ ⟨by show 400 ≤ 648415; omega, by show 6 * 400 ≤ 7156452; omega⟩ ?_
  show LQ X (AL X) 8 400 (pW2 g g2 S S2) [(2, .ref (wA (wC g2) 7 0)), (1, .ref (wA (wC g) 7 0)), (0, .ref b)] 26 [.int r23, .int 2]
  refine l_iadd (pc' := 27) h0 dL_law_26 rfl ?_
  refine l_istore_n (pc' := 28) (L' := [(3, .int (2 + r23)), (2, .ref (wA (wC g2) 7 0)), (1, .ref (wA (wC g) 7 0)), (0, .ref b)]) h0 dL_law_27 rfl (Nat.le_of_ble_eq_true rfl) rfl rfl ?_
  refine l_aload_n (pc' := 29) h0 2 dL_law_28 rfl rfl rfl ?_
  refine l_bipush (pc' := 31) h0 dL_law_29 kb_8 rfl ?_
  refine l_iload_n (pc' := 32) h0 0 dL_law_31 rfl rfl rfl ?_
  refine l_bipush (pc' := 34) h0 dL_law_32 kb_60 rfl ?_
  refine l_iconst (pc' := 35) h0 dL_law_34 ki_0 rfl ?_
  refine l_iconst (pc' := 36) h0 dL_law_35 ki_0 rfl ?_
  obtain ⟨r36, S36, h36, h⟩ := b2_some h
  refine q_call1H (n := 6) (pc' := 39) vl_410 vl_411 vl_27 vl_412 ⟨by decide +kernel, by decide +kernel, by decide +kernel⟩ [.ref (wA (wC g) 7 0), .int 8, .int (2 + r23), .int 60, .int 0, .int 0] [] h0 hK (stab_hp hap) (c_L_does g fu 8 (2 + r23) 60 0 0 S h36) rfl rfl dL_law_36 rfl (Nat.le_of_ble_eq_true rfl) ⟨rfl, rfl, (Nat.le_of_ble_eq_true rfl), (Nat.le_of_ble_eq_true rfl)⟩ ⟨by show (400 + 5) ≤ 648415; omega, by show 6 * (400 + 5) ≤ 7156452; omega⟩ ?_
  show LQ X (AL X) 8 (400 + 5) (pW2 g g2 S36 S2) [(3, .int (2 + r23)), (2, .ref (wA (wC g2) 7 0)), (1, .ref (wA (wC g) 7 0)), (0, .ref b)] 39 [.int r36]
  refine l_if_ne (pt := 60) (pf := 42) h0 dL_law_39 rfl rfl h (fun c39 h => ?_) (fun c39 h => ?_)
  · refine l_sub (L' := [(0, .ref b), (1, .ref (wA (wC g) 7 0)), (2, .ref (wA (wC g2) 7 0))]) [3, 2, 1] rfl ?_
    exact w_L_law_60 h0 hK hK2 hap hX fu hE (400 + 5) (by omega) S36 S2 h
  · refine l_aload_n (pc' := 43) h0 1 dL_law_42 rfl rfl rfl ?_
    refine l_bipush (pc' := 45) h0 dL_law_43 kb_8 rfl ?_
    refine l_iload_n (pc' := 46) h0 0 dL_law_45 rfl rfl rfl ?_
    refine l_bipush (pc' := 48) h0 dL_law_46 kb_60 rfl ?_
    refine l_iconst (pc' := 49) h0 dL_law_48 ki_0 rfl ?_
    refine l_iconst (pc' := 50) h0 dL_law_49 ki_0 rfl ?_
    obtain ⟨r50, S50, h50, h⟩ := b2_some h
    refine q_swap ?_
    refine q_call1H (n := 6) (pc' := 53) vl_410 vl_411 vl_27 vl_412 ⟨by decide +kernel, by decide +kernel, by decide +kernel⟩ [.ref (wA (wC g2) 7 0), .int 8, .int (2 + r23), .int 60, .int 0, .int 0] [] h0 hK2 (stab_hp hap.symm) (c_L_does g2 fu 8 (2 + r23) 60 0 0 S2 h50) rfl rfl dL_law_50 rfl (Nat.le_of_ble_eq_true rfl) ⟨rfl, rfl, (Nat.le_of_ble_eq_true rfl), (Nat.le_of_ble_eq_true rfl)⟩ ⟨by show ((400 + 5) + 5) ≤ 648415; omega, by show 6 * ((400 + 5) + 5) ≤ 7156452; omega⟩ ?_
    refine q_swap ?_
    show LQ X (AL X) 8 ((400 + 5) + 5) (pW2 g g2 S36 S50) [(3, .int (2 + r23)), (2, .ref (wA (wC g2) 7 0)), (1, .ref (wA (wC g) 7 0)), (0, .ref b)] 53 [.int r50]
    refine l_if_ne (pt := 60) (pf := 56) h0 dL_law_53 rfl rfl h (fun c53 h => ?_) (fun c53 h => ?_)
    · refine l_sub (L' := [(0, .ref b), (1, .ref (wA (wC g) 7 0)), (2, .ref (wA (wC g2) 7 0))]) [3, 2, 1] rfl ?_
      exact w_L_law_60 h0 hK hK2 hap hX fu hE ((400 + 5) + 5) (by omega) S36 S50 h
    · refine l_iconst (pc' := 57) h0 dL_law_56 ki_1 rfl ?_
      refine l_goto (pc' := 61) h0 dL_law_57 rfl ?_
      refine l_sub (L' := [(0, .ref b), (1, .ref (wA (wC g) 7 0)), (2, .ref (wA (wC g2) 7 0))]) [3, 2, 1] rfl ?_
      exact w_L_law_61 h0 hK hK2 hap hX fu hE ((400 + 5) + 5) (by omega) 1 S36 S50 h
