theorem w_L_areAlike_184 {g g2 : GC} {X : MX} {r : Int32} {S' S2' : Mem} (h0 : LX RL cL_areAlike 4 rl_areAlike X) (hK : KW g (D2 g g2 X) X) (hK2 : KW g2 (D2 g g2 X) X) (hap : aptC g g2) (fu : Nat) (hE : E2 (some .boolean) r g g2 S' S2' 74 X) : ∀ (cn : Nat), cn + (0) ≤ 74 → ∀ (x2 : Int32) (S : Mem) (S2 : Mem), f_L_areAlike_184 fu x2 S S2 = some (r, S', S2') → LQ X (D2 g g2 X) 4 cn (pW2 g g2 S S2) [(2, .int x2)] 184 [] := by
  intro cn hc x2 S S2 h
  rw [f_L_areAlike_184] at h
  refine l_iload_n (pc' := 185) h0 0 dL_areAlike_184 rfl rfl rfl ?_
  exact q_zret2 h0 hE dL_areAlike_185 (by omega) h
theorem w_L_areAlike_177 {g g2 : GC} {X : MX} {r : Int32} {S' S2' : Mem} (h0 : LX RL cL_areAlike 4 rl_areAlike X) (hK : KW g (D2 g g2 X) X) (hK2 : KW g2 (D2 g g2 X) X) (hap : aptC g g2) (fu : Nat) (hE : E2 (some .boolean) r g g2 S' S2' 74 X) (K78 : Int32 → Int32 → Mem → Mem → Option (Int32 × Mem × Mem)) (cK : Nat) (kK78 : ∀ (cn : Nat), cn + cK ≤ 74 → ∀ (x2 : Int32) (x3 : Int32) (S : Mem) (S2 : Mem), K78 x2 x3 S S2 = some (r, S', S2') → LQ X (D2 g g2 X) 4 cn (pW2 g g2 S S2) [(0, .ref (wA (wC g) 7 0)), (1, .ref (wA (wC g2) 7 0)), (2, .int x2), (3, .int x3)] 78 []) : ∀ (cn : Nat), cn + (0 + cK) ≤ 74 → ∀ (x3 : Int32) (t0 : Int32) (S : Mem) (S2 : Mem), f_L_areAlike_177 fu K78 x3 t0 S S2 = some (r, S', S2') → LQ X (D2 g g2 X) 4 cn (pW2 g g2 S S2) [(0, .ref (wA (wC g) 7 0)), (1, .ref (wA (wC g2) 7 0)), (3, .int x3)] 177 [.int t0] := by
  intro cn hc x3 t0 S S2 h
  rw [f_L_areAlike_177] at h
  refine l_istore_n (pc' := 178) (L' := [(2, .int t0), (0, .ref (wA (wC g) 7 0)), (1, .ref (wA (wC g2) 7 0)), (3, .int x3)]) h0 dL_areAlike_177 rfl (Nat.le_of_ble_eq_true rfl) rfl rfl ?_
  refine l_iinc (pc' := 181) (L' := [(3, .int (x3 + 1)), (2, .int t0), (0, .ref (wA (wC g) 7 0)), (1, .ref (wA (wC g2) 7 0))]) h0 3 dL_areAlike_178 rfl ki_1 (Nat.le_of_ble_eq_true rfl) rfl rfl ?_
  refine l_goto (pc' := 78) h0 dL_areAlike_181 rfl ?_
  refine l_sub (L' := [(0, .ref (wA (wC g) 7 0)), (1, .ref (wA (wC g2) 7 0)), (2, .int t0), (3, .int (x3 + 1))]) [2, 3, 1, 0] rfl ?_
  exact kK78 cn (by omega) t0 (x3 + 1) S S2 h
theorem w_L_areAlike_176 {g g2 : GC} {X : MX} {r : Int32} {S' S2' : Mem} (h0 : LX RL cL_areAlike 4 rl_areAlike X) (hK : KW g (D2 g g2 X) X) (hK2 : KW g2 (D2 g g2 X) X) (hap : aptC g g2) (fu : Nat) (hE : E2 (some .boolean) r g g2 S' S2' 74 X) (K78 : Int32 → Int32 → Mem → Mem → Option (Int32 × Mem × Mem)) (cK : Nat) (kK78 : ∀ (cn : Nat), cn + cK ≤ 74 → ∀ (x2 : Int32) (x3 : Int32) (S : Mem) (S2 : Mem), K78 x2 x3 S S2 = some (r, S', S2') → LQ X (D2 g g2 X) 4 cn (pW2 g g2 S S2) [(0, .ref (wA (wC g) 7 0)), (1, .ref (wA (wC g2) 7 0)), (2, .int x2), (3, .int x3)] 78 []) : ∀ (cn : Nat), cn + (0 + cK) ≤ 74 → ∀ (x3 : Int32) (S : Mem) (S2 : Mem), f_L_areAlike_176 fu K78 x3 S S2 = some (r, S', S2') → LQ X (D2 g g2 X) 4 cn (pW2 g g2 S S2) [(0, .ref (wA (wC g) 7 0)), (1, .ref (wA (wC g2) 7 0)), (3, .int x3)] 176 [] := by
  intro cn hc x3 S S2 h
  rw [f_L_areAlike_176] at h
  refine l_iconst (pc' := 177) h0 dL_areAlike_176 ki_0 rfl ?_
  exact w_L_areAlike_177 h0 hK hK2 hap fu hE K78 cK kK78 cn (by omega) x3 0 S S2 h
theorem w_L_areAlike_78 {g g2 : GC} {X : MX} {r : Int32} {S' S2' : Mem} (h0 : LX RL cL_areAlike 4 rl_areAlike X) (hK : KW g (D2 g g2 X) X) (hK2 : KW g2 (D2 g g2 X) X) (hap : aptC g g2) (fu : Nat) (hE : E2 (some .boolean) r g g2 S' S2' 74 X) : ∀ (n : Nat) (cn : Nat), cn + (n * 10 + 0) ≤ 74 → ∀ (x2 : Int32) (x3 : Int32) (S : Mem) (S2 : Mem), f_L_areAlike_78 fu n x2 x3 S S2 = some (r, S', S2') → LQ X (D2 g g2 X) 4 cn (pW2 g g2 S S2) [(0, .ref (wA (wC g) 7 0)), (1, .ref (wA (wC g2) 7 0)), (2, .int x2), (3, .int x3)] 78 [] := by
  intro n
  induction n with
  | zero =>
    intro cn hc x2 x3 S S2 h
    exact nomatch (show none = _ from h)
  | succ n ih =>
    intro cn hc x2 x3 S S2 h
    rw [f_L_areAlike_78] at h
    refine l_iload_n (pc' := 79) h0 3 dL_areAlike_78 rfl rfl rfl ?_
    refine l_aload_n (pc' := 80) h0 0 dL_areAlike_79 rfl rfl rfl ?_
    obtain ⟨r80, h80, h⟩ := b1_some h
    refine q_callV (n := 0) (pc' := 83) vl_399 vl_400 vl_401 vl_402 vl_28 ⟨by decide +kernel, by decide +kernel, by decide +kernel⟩ [] [.int x3] h0 hK (stab_hp hap) (c_X7_junctions g fu S h80) rfl rfl dL_areAlike_80 rfl (Nat.le_of_ble_eq_true rfl) ⟨rfl, rfl, (Nat.le_of_ble_eq_true rfl), (Nat.le_of_ble_eq_true rfl)⟩ ⟨by show cn ≤ 74; omega, by show 6 * cn ≤ 6 * 74; omega⟩ ?_
    show LQ X (D2 g g2 X) 4 cn (pW2 g g2 S S2) [(0, .ref (wA (wC g) 7 0)), (1, .ref (wA (wC g2) 7 0)), (2, .int x2), (3, .int x3)] 83 [.int r80, .int x3]
    refine l_ic_ge (pt := 184) (pf := 86) h0 dL_areAlike_83 rfl rfl h (fun c83 h => ?_) (fun c83 h => ?_)
    · refine l_sub (L' := [(2, .int x2)]) [2] rfl ?_
      exact w_L_areAlike_184 h0 hK hK2 hap fu hE cn (by omega) x2 S S2 h
    · refine l_iload_n (pc' := 87) h0 2 dL_areAlike_86 rfl rfl rfl ?_
      refine l_if_eq (pt := 184) (pf := 90) h0 dL_areAlike_87 rfl rfl h (fun c87 h => ?_) (fun c87 h => ?_)
      · refine l_sub (L' := [(2, .int x2)]) [2] rfl ?_
        exact w_L_areAlike_184 h0 hK hK2 hap fu hE cn (by omega) x2 S S2 h
      · refine l_aload_n (pc' := 91) h0 0 dL_areAlike_90 rfl rfl rfl ?_
        refine l_iload_n (pc' := 92) h0 3 dL_areAlike_91 rfl rfl rfl ?_
        obtain ⟨r92, h92, h⟩ := b1_some h
        refine q_callV (n := 1) (pc' := 95) vl_761 vl_762 vl_763 vl_764 vl_28 ⟨by decide +kernel, by decide +kernel, by decide +kernel⟩ [.int x3] [] h0 hK (stab_hp hap) (c_X7_hasPlan g fu x3 S h92) rfl rfl dL_areAlike_92 rfl (Nat.le_of_ble_eq_true rfl) ⟨rfl, rfl, (Nat.le_of_ble_eq_true rfl), (Nat.le_of_ble_eq_true rfl)⟩ ⟨by show cn ≤ 74; omega, by show 6 * cn ≤ 6 * 74; omega⟩ ?_
        show LQ X (D2 g g2 X) 4 cn (pW2 g g2 S S2) [(0, .ref (wA (wC g) 7 0)), (1, .ref (wA (wC g2) 7 0)), (2, .int x2), (3, .int x3)] 95 [.int r92]
        refine l_aload_n (pc' := 96) h0 1 dL_areAlike_95 rfl rfl rfl ?_
        refine l_iload_n (pc' := 97) h0 3 dL_areAlike_96 rfl rfl rfl ?_
        obtain ⟨r97, h97, h⟩ := b1_some h
        refine q_swap ?_
        refine q_callV (n := 1) (pc' := 100) vl_761 vl_762 vl_763 vl_764 vl_28 ⟨by decide +kernel, by decide +kernel, by decide +kernel⟩ [.int x3] [.int r92] h0 hK2 (stab_hp hap.symm) (c_X7_hasPlan g2 fu x3 S2 h97) rfl rfl dL_areAlike_97 rfl (Nat.le_of_ble_eq_true rfl) ⟨rfl, rfl, (Nat.le_of_ble_eq_true rfl), (Nat.le_of_ble_eq_true rfl)⟩ ⟨by show cn ≤ 74; omega, by show 6 * cn ≤ 6 * 74; omega⟩ ?_
        refine q_swap ?_
        show LQ X (D2 g g2 X) 4 cn (pW2 g g2 S S2) [(0, .ref (wA (wC g) 7 0)), (1, .ref (wA (wC g2) 7 0)), (2, .int x2), (3, .int x3)] 100 [.int r97, .int r92]
        refine l_ic_ne (pt := 176) (pf := 103) h0 dL_areAlike_100 rfl rfl h (fun c100 h => ?_) (fun c100 h => ?_)
        · refine l_sub (L' := [(0, .ref (wA (wC g) 7 0)), (1, .ref (wA (wC g2) 7 0)), (3, .int x3)]) [0, 1, 3] rfl ?_
          exact w_L_areAlike_176 h0 hK hK2 hap fu hE (f_L_areAlike_78 fu n) (n * 10 + 0) ih cn (by omega) x3 S S2 h
        · refine l_aload_n (pc' := 104) h0 0 dL_areAlike_103 rfl rfl rfl ?_
          refine l_iload_n (pc' := 105) h0 3 dL_areAlike_104 rfl rfl rfl ?_
          obtain ⟨r105, h105, h⟩ := b1_some h
          refine q_callV (n := 1) (pc' := 108) vl_765 vl_766 vl_767 vl_768 vl_28 ⟨by decide +kernel, by decide +kernel, by decide +kernel⟩ [.int x3] [] h0 hK (stab_hp hap) (c_X7_offset g fu x3 S h105) rfl rfl dL_areAlike_105 rfl (Nat.le_of_ble_eq_true rfl) ⟨rfl, rfl, (Nat.le_of_ble_eq_true rfl), (Nat.le_of_ble_eq_true rfl)⟩ ⟨by show cn ≤ 74; omega, by show 6 * cn ≤ 6 * 74; omega⟩ ?_
          show LQ X (D2 g g2 X) 4 cn (pW2 g g2 S S2) [(0, .ref (wA (wC g) 7 0)), (1, .ref (wA (wC g2) 7 0)), (2, .int x2), (3, .int x3)] 108 [.int r105]
          refine l_aload_n (pc' := 109) h0 1 dL_areAlike_108 rfl rfl rfl ?_
          refine l_iload_n (pc' := 110) h0 3 dL_areAlike_109 rfl rfl rfl ?_
          obtain ⟨r110, h110, h⟩ := b1_some h
          refine q_swap ?_
          refine q_callV (n := 1) (pc' := 113) vl_765 vl_766 vl_767 vl_768 vl_28 ⟨by decide +kernel, by decide +kernel, by decide +kernel⟩ [.int x3] [.int r105] h0 hK2 (stab_hp hap.symm) (c_X7_offset g2 fu x3 S2 h110) rfl rfl dL_areAlike_110 rfl (Nat.le_of_ble_eq_true rfl) ⟨rfl, rfl, (Nat.le_of_ble_eq_true rfl), (Nat.le_of_ble_eq_true rfl)⟩ ⟨by show cn ≤ 74; omega, by show 6 * cn ≤ 6 * 74; omega⟩ ?_
          refine q_swap ?_
          show LQ X (D2 g g2 X) 4 cn (pW2 g g2 S S2) [(0, .ref (wA (wC g) 7 0)), (1, .ref (wA (wC g2) 7 0)), (2, .int x2), (3, .int x3)] 113 [.int r110, .int r105]
          refine l_ic_ne (pt := 176) (pf := 116) h0 dL_areAlike_113 rfl rfl h (fun c113 h => ?_) (fun c113 h => ?_)
          · refine l_sub (L' := [(0, .ref (wA (wC g) 7 0)), (1, .ref (wA (wC g2) 7 0)), (3, .int x3)]) [0, 1, 3] rfl ?_
            exact w_L_areAlike_176 h0 hK hK2 hap fu hE (f_L_areAlike_78 fu n) (n * 10 + 0) ih cn (by omega) x3 S S2 h
          · refine l_aload_n (pc' := 117) h0 0 dL_areAlike_116 rfl rfl rfl ?_
            refine l_iload_n (pc' := 118) h0 3 dL_areAlike_117 rfl rfl rfl ?_
            obtain ⟨r118, h118, h⟩ := b1_some h
            refine q_callV (n := 1) (pc' := 121) vl_769 vl_770 vl_771 vl_772 vl_28 ⟨by decide +kernel, by decide +kernel, by decide +kernel⟩ [.int x3] [] h0 hK (stab_hp hap) (c_X7_queue g fu x3 S h118) rfl rfl dL_areAlike_118 rfl (Nat.le_of_ble_eq_true rfl) ⟨rfl, rfl, (Nat.le_of_ble_eq_true rfl), (Nat.le_of_ble_eq_true rfl)⟩ ⟨by show cn ≤ 74; omega, by show 6 * cn ≤ 6 * 74; omega⟩ ?_
            show LQ X (D2 g g2 X) 4 cn (pW2 g g2 S S2) [(0, .ref (wA (wC g) 7 0)), (1, .ref (wA (wC g2) 7 0)), (2, .int x2), (3, .int x3)] 121 [.int r118]
            refine l_aload_n (pc' := 122) h0 1 dL_areAlike_121 rfl rfl rfl ?_
            refine l_iload_n (pc' := 123) h0 3 dL_areAlike_122 rfl rfl rfl ?_
            obtain ⟨r123, h123, h⟩ := b1_some h
            refine q_swap ?_
            refine q_callV (n := 1) (pc' := 126) vl_769 vl_770 vl_771 vl_772 vl_28 ⟨by decide +kernel, by decide +kernel, by decide +kernel⟩ [.int x3] [.int r118] h0 hK2 (stab_hp hap.symm) (c_X7_queue g2 fu x3 S2 h123) rfl rfl dL_areAlike_123 rfl (Nat.le_of_ble_eq_true rfl) ⟨rfl, rfl, (Nat.le_of_ble_eq_true rfl), (Nat.le_of_ble_eq_true rfl)⟩ ⟨by show cn ≤ 74; omega, by show 6 * cn ≤ 6 * 74; omega⟩ ?_
            refine q_swap ?_
            show LQ X (D2 g g2 X) 4 cn (pW2 g g2 S S2) [(0, .ref (wA (wC g) 7 0)), (1, .ref (wA (wC g2) 7 0)), (2, .int x2), (3, .int x3)] 126 [.int r123, .int r118]
            refine l_ic_ne (pt := 176) (pf := 129) h0 dL_areAlike_126 rfl rfl h (fun c126 h => ?_) (fun c126 h => ?_)
            · refine l_sub (L' := [(0, .ref (wA (wC g) 7 0)), (1, .ref (wA (wC g2) 7 0)), (3, .int x3)]) [0, 1, 3] rfl ?_
              exact w_L_areAlike_176 h0 hK hK2 hap fu hE (f_L_areAlike_78 fu n) (n * 10 + 0) ih cn (by omega) x3 S S2 h
            · refine l_aload_n (pc' := 130) h0 0 dL_areAlike_129 rfl rfl rfl ?_
              refine l_iload_n (pc' := 131) h0 3 dL_areAlike_130 rfl rfl rfl ?_
              obtain ⟨r131, h131, h⟩ := b1_some h
              refine q_call1H (n := 2) (pc' := 134) vl_773 vl_774 vl_27 vl_775 ⟨by decide +kernel, by decide +kernel, by decide +kernel⟩ [.ref (wA (wC g) 7 0), .int x3] [] h0 hK (stab_hp hap) (c_L_phaseNow g fu x3 S h131) rfl rfl dL_areAlike_131 rfl (Nat.le_of_ble_eq_true rfl) ⟨rfl, rfl, (Nat.le_of_ble_eq_true rfl), (Nat.le_of_ble_eq_true rfl)⟩ ⟨by show (cn + 2) ≤ 74; omega, by show 6 * (cn + 2) ≤ 6 * 74; omega⟩ ?_
              show LQ X (D2 g g2 X) 4 (cn + 2) (pW2 g g2 S S2) [(0, .ref (wA (wC g) 7 0)), (1, .ref (wA (wC g2) 7 0)), (2, .int x2), (3, .int x3)] 134 [.int r131]
              refine l_aload_n (pc' := 135) h0 1 dL_areAlike_134 rfl rfl rfl ?_
              refine l_iload_n (pc' := 136) h0 3 dL_areAlike_135 rfl rfl rfl ?_
              obtain ⟨r136, h136, h⟩ := b1_some h
              refine q_swap ?_
              refine q_call1H (n := 2) (pc' := 139) vl_773 vl_774 vl_27 vl_775 ⟨by decide +kernel, by decide +kernel, by decide +kernel⟩ [.ref (wA (wC g2) 7 0), .int x3] [.int r131] h0 hK2 (stab_hp hap.symm) (c_L_phaseNow g2 fu x3 S2 h136) rfl rfl dL_areAlike_136 rfl (Nat.le_of_ble_eq_true rfl) ⟨rfl, rfl, (Nat.le_of_ble_eq_true rfl), (Nat.le_of_ble_eq_true rfl)⟩ ⟨by show ((cn + 2) + 2) ≤ 74; omega, by show 6 * ((cn + 2) + 2) ≤ 6 * 74; omega⟩ ?_
              refine q_swap ?_
              show LQ X (D2 g g2 X) 4 ((cn + 2) + 2) (pW2 g g2 S S2) [(0, .ref (wA (wC g) 7 0)), (1, .ref (wA (wC g2) 7 0)), (2, .int x2), (3, .int x3)] 139 [.int r136, .int r131]
              refine l_ic_ne (pt := 176) (pf := 142) h0 dL_areAlike_139 rfl rfl h (fun c139 h => ?_) (fun c139 h => ?_)
              · refine l_sub (L' := [(0, .ref (wA (wC g) 7 0)), (1, .ref (wA (wC g2) 7 0)), (3, .int x3)]) [0, 1, 3] rfl ?_
                exact w_L_areAlike_176 h0 hK hK2 hap fu hE (f_L_areAlike_78 fu n) (n * 10 + 0) ih ((cn + 2) + 2) (by omega) x3 S S2 h
              · refine l_aload_n (pc' := 143) h0 0 dL_areAlike_142 rfl rfl rfl ?_
                refine l_iload_n (pc' := 144) h0 3 dL_areAlike_143 rfl rfl rfl ?_
                refine l_iconst (pc' := 145) h0 dL_areAlike_144 ki_0 rfl ?_
                obtain ⟨r145, h145, h⟩ := b1_some h
                refine q_call1H (n := 3) (pc' := 148) vl_785 vl_786 vl_27 vl_787 ⟨by decide +kernel, by decide +kernel, by decide +kernel⟩ [.ref (wA (wC g) 7 0), .int x3, .int 0] [] h0 hK (stab_hp hap) (c_L_green g fu x3 0 S h145) rfl rfl dL_areAlike_145 rfl (Nat.le_of_ble_eq_true rfl) ⟨rfl, rfl, (Nat.le_of_ble_eq_true rfl), (Nat.le_of_ble_eq_true rfl)⟩ ⟨by show (((cn + 2) + 2) + 3) ≤ 74; omega, by show 6 * (((cn + 2) + 2) + 3) ≤ 6 * 74; omega⟩ ?_
                show LQ X (D2 g g2 X) 4 (((cn + 2) + 2) + 3) (pW2 g g2 S S2) [(0, .ref (wA (wC g) 7 0)), (1, .ref (wA (wC g2) 7 0)), (2, .int x2), (3, .int x3)] 148 [.int r145]
                refine l_aload_n (pc' := 149) h0 1 dL_areAlike_148 rfl rfl rfl ?_
                refine l_iload_n (pc' := 150) h0 3 dL_areAlike_149 rfl rfl rfl ?_
                refine l_iconst (pc' := 151) h0 dL_areAlike_150 ki_0 rfl ?_
                obtain ⟨r151, h151, h⟩ := b1_some h
                refine q_swap ?_
                refine q_call1H (n := 3) (pc' := 154) vl_785 vl_786 vl_27 vl_787 ⟨by decide +kernel, by decide +kernel, by decide +kernel⟩ [.ref (wA (wC g2) 7 0), .int x3, .int 0] [.int r145] h0 hK2 (stab_hp hap.symm) (c_L_green g2 fu x3 0 S2 h151) rfl rfl dL_areAlike_151 rfl (Nat.le_of_ble_eq_true rfl) ⟨rfl, rfl, (Nat.le_of_ble_eq_true rfl), (Nat.le_of_ble_eq_true rfl)⟩ ⟨by show ((((cn + 2) + 2) + 3) + 3) ≤ 74; omega, by show 6 * ((((cn + 2) + 2) + 3) + 3) ≤ 6 * 74; omega⟩ ?_
                refine q_swap ?_
                show LQ X (D2 g g2 X) 4 ((((cn + 2) + 2) + 3) + 3) (pW2 g g2 S S2) [(0, .ref (wA (wC g) 7 0)), (1, .ref (wA (wC g2) 7 0)), (2, .int x2), (3, .int x3)] 154 [.int r151, .int r145]
                refine l_ic_ne (pt := 176) (pf := 157) h0 dL_areAlike_154 rfl rfl h (fun c154 h => ?_) (fun c154 h => ?_)
                · refine l_sub (L' := [(0, .ref (wA (wC g) 7 0)), (1, .ref (wA (wC g2) 7 0)), (3, .int x3)]) [0, 1, 3] rfl ?_
                  exact w_L_areAlike_176 h0 hK hK2 hap fu hE (f_L_areAlike_78 fu n) (n * 10 + 0) ih ((((cn + 2) + 2) + 3) + 3) (by omega) x3 S S2 h
                · refine l_aload_n (pc' := 158) h0 0 dL_areAlike_157 rfl rfl rfl ?_
                  refine l_iload_n (pc' := 159) h0 3 dL_areAlike_158 rfl rfl rfl ?_
                  refine l_iconst (pc' := 160) h0 dL_areAlike_159 ki_0 rfl ?_
                  obtain ⟨r160, h160, h⟩ := b1_some h
                  refine q_callV (n := 2) (pc' := 163) vl_797 vl_798 vl_799 vl_800 vl_28 ⟨by decide +kernel, by decide +kernel, by decide +kernel⟩ [.int x3, .int 0] [] h0 hK (stab_hp hap) (c_X7_clearing g fu x3 0 S h160) rfl rfl dL_areAlike_160 rfl (Nat.le_of_ble_eq_true rfl) ⟨rfl, rfl, (Nat.le_of_ble_eq_true rfl), (Nat.le_of_ble_eq_true rfl)⟩ ⟨by show ((((cn + 2) + 2) + 3) + 3) ≤ 74; omega, by show 6 * ((((cn + 2) + 2) + 3) + 3) ≤ 6 * 74; omega⟩ ?_
                  show LQ X (D2 g g2 X) 4 ((((cn + 2) + 2) + 3) + 3) (pW2 g g2 S S2) [(0, .ref (wA (wC g) 7 0)), (1, .ref (wA (wC g2) 7 0)), (2, .int x2), (3, .int x3)] 163 [.int r160]
                  refine l_aload_n (pc' := 164) h0 1 dL_areAlike_163 rfl rfl rfl ?_
                  refine l_iload_n (pc' := 165) h0 3 dL_areAlike_164 rfl rfl rfl ?_
                  refine l_iconst (pc' := 166) h0 dL_areAlike_165 ki_0 rfl ?_
                  obtain ⟨r166, h166, h⟩ := b1_some h
                  refine q_swap ?_
                  refine q_callV (n := 2) (pc' := 169) vl_797 vl_798 vl_799 vl_800 vl_28 ⟨by decide +kernel, by decide +kernel, by decide +kernel⟩ [.int x3, .int 0] [.int r160] h0 hK2 (stab_hp hap.symm) (c_X7_clearing g2 fu x3 0 S2 h166) rfl rfl dL_areAlike_166 rfl (Nat.le_of_ble_eq_true rfl) ⟨rfl, rfl, (Nat.le_of_ble_eq_true rfl), (Nat.le_of_ble_eq_true rfl)⟩ ⟨by show ((((cn + 2) + 2) + 3) + 3) ≤ 74; omega, by show 6 * ((((cn + 2) + 2) + 3) + 3) ≤ 6 * 74; omega⟩ ?_
                  refine q_swap ?_
                  show LQ X (D2 g g2 X) 4 ((((cn + 2) + 2) + 3) + 3) (pW2 g g2 S S2) [(0, .ref (wA (wC g) 7 0)), (1, .ref (wA (wC g2) 7 0)), (2, .int x2), (3, .int x3)] 169 [.int r166, .int r160]
                  refine l_ic_ne (pt := 176) (pf := 172) h0 dL_areAlike_169 rfl rfl h (fun c169 h => ?_) (fun c169 h => ?_)
                  · refine l_sub (L' := [(0, .ref (wA (wC g) 7 0)), (1, .ref (wA (wC g2) 7 0)), (3, .int x3)]) [0, 1, 3] rfl ?_
                    exact w_L_areAlike_176 h0 hK hK2 hap fu hE (f_L_areAlike_78 fu n) (n * 10 + 0) ih ((((cn + 2) + 2) + 3) + 3) (by omega) x3 S S2 h
                  · refine l_iconst (pc' := 173) h0 dL_areAlike_172 ki_1 rfl ?_
                    refine l_goto (pc' := 177) h0 dL_areAlike_173 rfl ?_
                    refine l_sub (L' := [(0, .ref (wA (wC g) 7 0)), (1, .ref (wA (wC g2) 7 0)), (3, .int x3)]) [0, 1, 3] rfl ?_
                    exact w_L_areAlike_177 h0 hK hK2 hap fu hE (f_L_areAlike_78 fu n) (n * 10 + 0) ih ((((cn + 2) + 2) + 3) + 3) (by omega) x3 1 S S2 h
theorem w_L_areAlike_75 {g g2 : GC} {X : MX} {r : Int32} {S' S2' : Mem} (h0 : LX RL cL_areAlike 4 rl_areAlike X) (hK : KW g (D2 g g2 X) X) (hK2 : KW g2 (D2 g g2 X) X) (hap : aptC g g2) (fu : Nat) (hE : E2 (some .boolean) r g g2 S' S2' 74 X) : ∀ (cn : Nat), cn + (70) ≤ 74 → ∀ (t0 : Int32) (S : Mem) (S2 : Mem), f_L_areAlike_75 fu t0 S S2 = some (r, S', S2') → LQ X (D2 g g2 X) 4 cn (pW2 g g2 S S2) [(0, .ref (wA (wC g) 7 0)), (1, .ref (wA (wC g2) 7 0))] 75 [.int t0] := by
  intro cn hc t0 S S2 h
  rw [f_L_areAlike_75] at h
  refine l_istore_n (pc' := 76) (L' := [(2, .int t0), (0, .ref (wA (wC g) 7 0)), (1, .ref (wA (wC g2) 7 0))]) h0 dL_areAlike_75 rfl (Nat.le_of_ble_eq_true rfl) rfl rfl ?_
  refine l_iconst (pc' := 77) h0 dL_areAlike_76 ki_0 rfl ?_
  refine l_istore_n (pc' := 78) (L' := [(3, .int 0), (2, .int t0), (0, .ref (wA (wC g) 7 0)), (1, .ref (wA (wC g2) 7 0))]) h0 dL_areAlike_77 rfl (Nat.le_of_ble_eq_true rfl) rfl rfl ?_
  refine l_sub (L' := [(0, .ref (wA (wC g) 7 0)), (1, .ref (wA (wC g2) 7 0)), (2, .int t0), (3, .int 0)]) [2, 3, 1, 0] rfl ?_
  exact w_L_areAlike_78 h0 hK hK2 hap fu hE 7 cn (by omega) t0 0 S S2 h
theorem w_L_areAlike_74 {g g2 : GC} {X : MX} {r : Int32} {S' S2' : Mem} (h0 : LX RL cL_areAlike 4 rl_areAlike X) (hK : KW g (D2 g g2 X) X) (hK2 : KW g2 (D2 g g2 X) X) (hap : aptC g g2) (fu : Nat) (hE : E2 (some .boolean) r g g2 S' S2' 74 X) : ∀ (cn : Nat), cn + (70) ≤ 74 → ∀ (S : Mem) (S2 : Mem), f_L_areAlike_74 fu S S2 = some (r, S', S2') → LQ X (D2 g g2 X) 4 cn (pW2 g g2 S S2) [(0, .ref (wA (wC g) 7 0)), (1, .ref (wA (wC g2) 7 0))] 74 [] := by
  intro cn hc S S2 h
  rw [f_L_areAlike_74] at h
  refine l_iconst (pc' := 75) h0 dL_areAlike_74 ki_0 rfl ?_
  exact w_L_areAlike_75 h0 hK hK2 hap fu hE cn (by omega) 0 S S2 h
theorem c_L_areAlike (g g2 : GC) (fu : Nat) (S : Mem) (S2 : Mem) {r : Int32} {S' S2' : Mem} (h : f_L_areAlike fu S S2 = some (r, S', S2')) : ct2 yL_areAlike (.code yL_areAlike cL_areAlike 4 (some .boolean)) rl_areAlike 74 g g2 [.ref (wA (wC g) 7 0), .ref (wA (wC g2) 7 0)] S S2 r S' S2' := by
  refine ct2_of (own := RL) (L := [(0, .ref (wA (wC g) 7 0)), (1, .ref (wA (wC g2) 7 0))]) (by decide +kernel) rfl (Nat.le_of_ble_eq_true rfl) rfl (fun X h0 hK hK2 hap hE => ?_)
  have hc : 0 + 74 ≤ 74 := (Nat.le_of_ble_eq_true rfl)
  rw [f_L_areAlike] at h
  refine l_aload_n (pc' := 1) h0 0 dL_areAlike_0 rfl rfl rfl ?_
  obtain ⟨r1, h1, h⟩ := b1_some h
  refine q_callV (n := 0) (pc' := 4) vl_399 vl_400 vl_401 vl_402 vl_28 ⟨by decide +kernel, by decide +kernel, by decide +kernel⟩ [] [] h0 hK (stab_hp hap) (c_X7_junctions g fu S h1) rfl rfl dL_areAlike_1 rfl (Nat.le_of_ble_eq_true rfl) ⟨rfl, rfl, (Nat.le_of_ble_eq_true rfl), (Nat.le_of_ble_eq_true rfl)⟩ ⟨by show 0 ≤ 74; omega, by show 6 * 0 ≤ 6 * 74; omega⟩ ?_
  show LQ X (D2 g g2 X) 4 0 (pW2 g g2 S S2) [(0, .ref (wA (wC g) 7 0)), (1, .ref (wA (wC g2) 7 0))] 4 [.int r1]
  refine l_aload_n (pc' := 5) h0 1 dL_areAlike_4 rfl rfl rfl ?_
  obtain ⟨r5, h5, h⟩ := b1_some h
  refine q_swap ?_
  refine q_callV (n := 0) (pc' := 8) vl_399 vl_400 vl_401 vl_402 vl_28 ⟨by decide +kernel, by decide +kernel, by decide +kernel⟩ [] [.int r1] h0 hK2 (stab_hp hap.symm) (c_X7_junctions g2 fu S2 h5) rfl rfl dL_areAlike_5 rfl (Nat.le_of_ble_eq_true rfl) ⟨rfl, rfl, (Nat.le_of_ble_eq_true rfl), (Nat.le_of_ble_eq_true rfl)⟩ ⟨by show 0 ≤ 74; omega, by show 6 * 0 ≤ 6 * 74; omega⟩ ?_
  refine q_swap ?_
  show LQ X (D2 g g2 X) 4 0 (pW2 g g2 S S2) [(0, .ref (wA (wC g) 7 0)), (1, .ref (wA (wC g2) 7 0))] 8 [.int r5, .int r1]
  refine l_ic_ne (pt := 74) (pf := 11) h0 dL_areAlike_8 rfl rfl h (fun c8 h => ?_) (fun c8 h => ?_)
  · exact w_L_areAlike_74 h0 hK hK2 hap fu hE 0 (by omega) S S2 h
  · refine l_aload_n (pc' := 12) h0 0 dL_areAlike_11 rfl rfl rfl ?_
    obtain ⟨r12, h12, h⟩ := b1_some h
    refine q_callV (n := 0) (pc' := 15) vl_734 vl_735 vl_736 vl_737 vl_28 ⟨by decide +kernel, by decide +kernel, by decide +kernel⟩ [] [] h0 hK (stab_hp hap) (c_X7_clock g fu S h12) rfl rfl dL_areAlike_12 rfl (Nat.le_of_ble_eq_true rfl) ⟨rfl, rfl, (Nat.le_of_ble_eq_true rfl), (Nat.le_of_ble_eq_true rfl)⟩ ⟨by show 0 ≤ 74; omega, by show 6 * 0 ≤ 6 * 74; omega⟩ ?_
    show LQ X (D2 g g2 X) 4 0 (pW2 g g2 S S2) [(0, .ref (wA (wC g) 7 0)), (1, .ref (wA (wC g2) 7 0))] 15 [.int r12]
    refine l_aload_n (pc' := 16) h0 1 dL_areAlike_15 rfl rfl rfl ?_
    obtain ⟨r16, h16, h⟩ := b1_some h
    refine q_swap ?_
    refine q_callV (n := 0) (pc' := 19) vl_734 vl_735 vl_736 vl_737 vl_28 ⟨by decide +kernel, by decide +kernel, by decide +kernel⟩ [] [.int r12] h0 hK2 (stab_hp hap.symm) (c_X7_clock g2 fu S2 h16) rfl rfl dL_areAlike_16 rfl (Nat.le_of_ble_eq_true rfl) ⟨rfl, rfl, (Nat.le_of_ble_eq_true rfl), (Nat.le_of_ble_eq_true rfl)⟩ ⟨by show 0 ≤ 74; omega, by show 6 * 0 ≤ 6 * 74; omega⟩ ?_
    refine q_swap ?_
    show LQ X (D2 g g2 X) 4 0 (pW2 g g2 S S2) [(0, .ref (wA (wC g) 7 0)), (1, .ref (wA (wC g2) 7 0))] 19 [.int r16, .int r12]
    refine l_ic_ne (pt := 74) (pf := 22) h0 dL_areAlike_19 rfl rfl h (fun c19 h => ?_) (fun c19 h => ?_)
    · exact w_L_areAlike_74 h0 hK hK2 hap fu hE 0 (by omega) S S2 h
    · refine l_aload_n (pc' := 23) h0 0 dL_areAlike_22 rfl rfl rfl ?_
      obtain ⟨r23, h23, h⟩ := b1_some h
      refine q_callV (n := 0) (pc' := 26) vl_741 vl_742 vl_743 vl_744 vl_28 ⟨by decide +kernel, by decide +kernel, by decide +kernel⟩ [] [] h0 hK (stab_hp hap) (c_X7_come g fu S h23) rfl rfl dL_areAlike_23 rfl (Nat.le_of_ble_eq_true rfl) ⟨rfl, rfl, (Nat.le_of_ble_eq_true rfl), (Nat.le_of_ble_eq_true rfl)⟩ ⟨by show 0 ≤ 74; omega, by show 6 * 0 ≤ 6 * 74; omega⟩ ?_
      show LQ X (D2 g g2 X) 4 0 (pW2 g g2 S S2) [(0, .ref (wA (wC g) 7 0)), (1, .ref (wA (wC g2) 7 0))] 26 [.int r23]
      refine l_aload_n (pc' := 27) h0 1 dL_areAlike_26 rfl rfl rfl ?_
      obtain ⟨r27, h27, h⟩ := b1_some h
      refine q_swap ?_
      refine q_callV (n := 0) (pc' := 30) vl_741 vl_742 vl_743 vl_744 vl_28 ⟨by decide +kernel, by decide +kernel, by decide +kernel⟩ [] [.int r23] h0 hK2 (stab_hp hap.symm) (c_X7_come g2 fu S2 h27) rfl rfl dL_areAlike_27 rfl (Nat.le_of_ble_eq_true rfl) ⟨rfl, rfl, (Nat.le_of_ble_eq_true rfl), (Nat.le_of_ble_eq_true rfl)⟩ ⟨by show 0 ≤ 74; omega, by show 6 * 0 ≤ 6 * 74; omega⟩ ?_
      refine q_swap ?_
      show LQ X (D2 g g2 X) 4 0 (pW2 g g2 S S2) [(0, .ref (wA (wC g) 7 0)), (1, .ref (wA (wC g2) 7 0))] 30 [.int r27, .int r23]
      refine l_ic_ne (pt := 74) (pf := 33) h0 dL_areAlike_30 rfl rfl h (fun c30 h => ?_) (fun c30 h => ?_)
      · exact w_L_areAlike_74 h0 hK hK2 hap fu hE 0 (by omega) S S2 h
      · refine l_aload_n (pc' := 34) h0 0 dL_areAlike_33 rfl rfl rfl ?_
        obtain ⟨r34, h34, h⟩ := b1_some h
        refine q_callV (n := 0) (pc' := 37) vl_745 vl_746 vl_747 vl_748 vl_28 ⟨by decide +kernel, by decide +kernel, by decide +kernel⟩ [] [] h0 hK (stab_hp hap) (c_X7_through g fu S h34) rfl rfl dL_areAlike_34 rfl (Nat.le_of_ble_eq_true rfl) ⟨rfl, rfl, (Nat.le_of_ble_eq_true rfl), (Nat.le_of_ble_eq_true rfl)⟩ ⟨by show 0 ≤ 74; omega, by show 6 * 0 ≤ 6 * 74; omega⟩ ?_
        show LQ X (D2 g g2 X) 4 0 (pW2 g g2 S S2) [(0, .ref (wA (wC g) 7 0)), (1, .ref (wA (wC g2) 7 0))] 37 [.int r34]
        refine l_aload_n (pc' := 38) h0 1 dL_areAlike_37 rfl rfl rfl ?_
        obtain ⟨r38, h38, h⟩ := b1_some h
        refine q_swap ?_
        refine q_callV (n := 0) (pc' := 41) vl_745 vl_746 vl_747 vl_748 vl_28 ⟨by decide +kernel, by decide +kernel, by decide +kernel⟩ [] [.int r34] h0 hK2 (stab_hp hap.symm) (c_X7_through g2 fu S2 h38) rfl rfl dL_areAlike_38 rfl (Nat.le_of_ble_eq_true rfl) ⟨rfl, rfl, (Nat.le_of_ble_eq_true rfl), (Nat.le_of_ble_eq_true rfl)⟩ ⟨by show 0 ≤ 74; omega, by show 6 * 0 ≤ 6 * 74; omega⟩ ?_
        refine q_swap ?_
        show LQ X (D2 g g2 X) 4 0 (pW2 g g2 S S2) [(0, .ref (wA (wC g) 7 0)), (1, .ref (wA (wC g2) 7 0))] 41 [.int r38, .int r34]
        refine l_ic_ne (pt := 74) (pf := 44) h0 dL_areAlike_41 rfl rfl h (fun c41 h => ?_) (fun c41 h => ?_)
        · exact w_L_areAlike_74 h0 hK hK2 hap fu hE 0 (by omega) S S2 h
        · refine l_aload_n (pc' := 45) h0 0 dL_areAlike_44 rfl rfl rfl ?_
          refine l_iconst (pc' := 46) h0 dL_areAlike_45 ki_1 rfl ?_
          obtain ⟨r46, S46, h46, h⟩ := b2_some h
          refine q_call1H (n := 2) (pc' := 49) vl_749 vl_750 vl_27 vl_751 ⟨by decide +kernel, by decide +kernel, by decide +kernel⟩ [.ref (wA (wC g) 7 0), .int 1] [] h0 hK (stab_hp hap) (c_L_band g fu 1 S h46) rfl rfl dL_areAlike_46 rfl (Nat.le_of_ble_eq_true rfl) ⟨rfl, rfl, (Nat.le_of_ble_eq_true rfl), (Nat.le_of_ble_eq_true rfl)⟩ ⟨by show (0 + 1) ≤ 74; omega, by show 6 * (0 + 1) ≤ 6 * 74; omega⟩ ?_
          show LQ X (D2 g g2 X) 4 (0 + 1) (pW2 g g2 S46 S2) [(0, .ref (wA (wC g) 7 0)), (1, .ref (wA (wC g2) 7 0))] 49 [.int r46]
          refine l_aload_n (pc' := 50) h0 1 dL_areAlike_49 rfl rfl rfl ?_
          refine l_iconst (pc' := 51) h0 dL_areAlike_50 ki_1 rfl ?_
          obtain ⟨r51, S51, h51, h⟩ := b2_some h
          refine q_swap ?_
          refine q_call1H (n := 2) (pc' := 54) vl_749 vl_750 vl_27 vl_751 ⟨by decide +kernel, by decide +kernel, by decide +kernel⟩ [.ref (wA (wC g2) 7 0), .int 1] [.int r46] h0 hK2 (stab_hp hap.symm) (c_L_band g2 fu 1 S2 h51) rfl rfl dL_areAlike_51 rfl (Nat.le_of_ble_eq_true rfl) ⟨rfl, rfl, (Nat.le_of_ble_eq_true rfl), (Nat.le_of_ble_eq_true rfl)⟩ ⟨by show ((0 + 1) + 1) ≤ 74; omega, by show 6 * ((0 + 1) + 1) ≤ 6 * 74; omega⟩ ?_
          refine q_swap ?_
          show LQ X (D2 g g2 X) 4 ((0 + 1) + 1) (pW2 g g2 S46 S51) [(0, .ref (wA (wC g) 7 0)), (1, .ref (wA (wC g2) 7 0))] 54 [.int r51, .int r46]
          refine l_ic_ne (pt := 74) (pf := 57) h0 dL_areAlike_54 rfl rfl h (fun c54 h => ?_) (fun c54 h => ?_)
          · exact w_L_areAlike_74 h0 hK hK2 hap fu hE ((0 + 1) + 1) (by omega) S46 S51 h
          · refine l_aload_n (pc' := 58) h0 0 dL_areAlike_57 rfl rfl rfl ?_
            refine l_iconst (pc' := 59) h0 dL_areAlike_58 ki_0 rfl ?_
            obtain ⟨r59, S59, h59, h⟩ := b2_some h
            refine q_call1H (n := 2) (pc' := 62) vl_749 vl_750 vl_27 vl_751 ⟨by decide +kernel, by decide +kernel, by decide +kernel⟩ [.ref (wA (wC g) 7 0), .int 0] [] h0 hK (stab_hp hap) (c_L_band g fu 0 S46 h59) rfl rfl dL_areAlike_59 rfl (Nat.le_of_ble_eq_true rfl) ⟨rfl, rfl, (Nat.le_of_ble_eq_true rfl), (Nat.le_of_ble_eq_true rfl)⟩ ⟨by show (((0 + 1) + 1) + 1) ≤ 74; omega, by show 6 * (((0 + 1) + 1) + 1) ≤ 6 * 74; omega⟩ ?_
            show LQ X (D2 g g2 X) 4 (((0 + 1) + 1) + 1) (pW2 g g2 S59 S51) [(0, .ref (wA (wC g) 7 0)), (1, .ref (wA (wC g2) 7 0))] 62 [.int r59]
            refine l_aload_n (pc' := 63) h0 1 dL_areAlike_62 rfl rfl rfl ?_
            refine l_iconst (pc' := 64) h0 dL_areAlike_63 ki_0 rfl ?_
            obtain ⟨r64, S64, h64, h⟩ := b2_some h
            refine q_swap ?_
            refine q_call1H (n := 2) (pc' := 67) vl_749 vl_750 vl_27 vl_751 ⟨by decide +kernel, by decide +kernel, by decide +kernel⟩ [.ref (wA (wC g2) 7 0), .int 0] [.int r59] h0 hK2 (stab_hp hap.symm) (c_L_band g2 fu 0 S51 h64) rfl rfl dL_areAlike_64 rfl (Nat.le_of_ble_eq_true rfl) ⟨rfl, rfl, (Nat.le_of_ble_eq_true rfl), (Nat.le_of_ble_eq_true rfl)⟩ ⟨by show ((((0 + 1) + 1) + 1) + 1) ≤ 74; omega, by show 6 * ((((0 + 1) + 1) + 1) + 1) ≤ 6 * 74; omega⟩ ?_
            refine q_swap ?_
            show LQ X (D2 g g2 X) 4 ((((0 + 1) + 1) + 1) + 1) (pW2 g g2 S59 S64) [(0, .ref (wA (wC g) 7 0)), (1, .ref (wA (wC g2) 7 0))] 67 [.int r64, .int r59]
            refine l_ic_ne (pt := 74) (pf := 70) h0 dL_areAlike_67 rfl rfl h (fun c67 h => ?_) (fun c67 h => ?_)
            · exact w_L_areAlike_74 h0 hK hK2 hap fu hE ((((0 + 1) + 1) + 1) + 1) (by omega) S59 S64 h
            · refine l_iconst (pc' := 71) h0 dL_areAlike_70 ki_1 rfl ?_
              refine l_goto (pc' := 75) h0 dL_areAlike_71 rfl ?_
              exact w_L_areAlike_75 h0 hK hK2 hap fu hE ((((0 + 1) + 1) + 1) + 1) (by omega) 1 S59 S64 h
theorem w_L_isCalledSo_180 {g g2 : GC} {X : MX} {r : Int32} {S' S2' : Mem} (h0 : LX RL cL_isCalledSo 9 rl_isCalledSo X) (hK : KW g (D2 g g2 X) X) (hK2 : KW g2 (D2 g g2 X) X) (hap : aptC g g2) (fu : Nat) (x2 : Int32) (x3 : Int32) (hE : E2 (some .boolean) r g g2 S' S2' 34 X) : ∀ (cn : Nat), cn + (0) ≤ 34 → ∀ (t0 : Int32) (S : Mem) (S2 : Mem), f_L_isCalledSo_180 fu x2 x3 t0 S S2 = some (r, S', S2') → LQ X (D2 g g2 X) 9 cn (pW2 g g2 S S2) [] 180 [.int t0] := by
  intro cn hc t0 S S2 h
  rw [f_L_isCalledSo_180] at h
  exact q_zret2 h0 hE dL_isCalledSo_180 (by omega) h
theorem w_L_isCalledSo_179 {g g2 : GC} {X : MX} {r : Int32} {S' S2' : Mem} (h0 : LX RL cL_isCalledSo 9 rl_isCalledSo X) (hK : KW g (D2 g g2 X) X) (hK2 : KW g2 (D2 g g2 X) X) (hap : aptC g g2) (fu : Nat) (x2 : Int32) (x3 : Int32) (hE : E2 (some .boolean) r g g2 S' S2' 34 X) : ∀ (cn : Nat), cn + (0) ≤ 34 → ∀ (S : Mem) (S2 : Mem), f_L_isCalledSo_179 fu x2 x3 S S2 = some (r, S', S2') → LQ X (D2 g g2 X) 9 cn (pW2 g g2 S S2) [] 179 [] := by
  intro cn hc S S2 h
  rw [f_L_isCalledSo_179] at h
  refine l_iconst (pc' := 180) h0 dL_isCalledSo_179 ki_0 rfl ?_
  exact w_L_isCalledSo_180 h0 hK hK2 hap fu x2 x3 hE cn (by omega) 0 S S2 h
theorem w_L_isCalledSo_175 {g g2 : GC} {X : MX} {r : Int32} {S' S2' : Mem} (h0 : LX RL cL_isCalledSo 9 rl_isCalledSo X) (hK : KW g (D2 g g2 X) X) (hK2 : KW g2 (D2 g g2 X) X) (hap : aptC g g2) (fu : Nat) (x2 : Int32) (x3 : Int32) (hE : E2 (some .boolean) r g g2 S' S2' 34 X) : ∀ (cn : Nat), cn + (0) ≤ 34 → ∀ (S : Mem) (S2 : Mem), f_L_isCalledSo_175 fu x2 x3 S S2 = some (r, S', S2') → LQ X (D2 g g2 X) 9 cn (pW2 g g2 S S2) [] 175 [] := by
  intro cn hc S S2 h
  rw [f_L_isCalledSo_175] at h
  refine l_iconst (pc' := 176) h0 dL_isCalledSo_175 ki_1 rfl ?_
  refine l_goto (pc' := 180) h0 dL_isCalledSo_176 rfl ?_
  exact w_L_isCalledSo_180 h0 hK hK2 hap fu x2 x3 hE cn (by omega) 1 S S2 h
theorem w_L_isCalledSo_96 {g g2 : GC} {X : MX} {r : Int32} {S' S2' : Mem} (h0 : LX RL cL_isCalledSo 9 rl_isCalledSo X) (hK : KW g (D2 g g2 X) X) (hK2 : KW g2 (D2 g g2 X) X) (hap : aptC g g2) (fu : Nat) (x2 : Int32) (x3 : Int32) (hE : E2 (some .boolean) r g g2 S' S2' 34 X) : ∀ (cn : Nat), cn + (10) ≤ 34 → ∀ (t0 : Int32) (S : Mem) (S2 : Mem), f_L_isCalledSo_96 fu x2 x3 t0 S S2 = some (r, S', S2') → LQ X (D2 g g2 X) 9 cn (pW2 g g2 S S2) [(0, .ref (wA (wC g) 7 0)), (1, .ref (wA (wC g2) 7 0))] 96 [.int t0] := by
  intro cn hc t0 S S2 h
  rw [f_L_isCalledSo_96] at h
  refine l_istore (pc' := 98) (L' := [(6, .int t0), (0, .ref (wA (wC g) 7 0)), (1, .ref (wA (wC g2) 7 0))]) h0 dL_isCalledSo_96 (Nat.le_of_ble_eq_true rfl) rfl rfl ?_
  refine l_aload_n (pc' := 99) h0 1 dL_isCalledSo_98 rfl rfl rfl ?_
  obtain ⟨r99, h99, h⟩ := b1_some h
  refine q_callV (n := 0) (pc' := 102) vl_734 vl_735 vl_736 vl_737 vl_28 ⟨by decide +kernel, by decide +kernel, by decide +kernel⟩ [] [] h0 hK (stab_hp hap) (c_X7_clock g fu S h99) rfl rfl dL_isCalledSo_99 rfl (Nat.le_of_ble_eq_true rfl) ⟨rfl, rfl, (Nat.le_of_ble_eq_true rfl), (Nat.le_of_ble_eq_true rfl)⟩ ⟨by show cn ≤ 34; omega, by show 6 * cn ≤ 6 * 34; omega⟩ ?_
  show LQ X (D2 g g2 X) 9 cn (pW2 g g2 S S2) [(6, .int t0), (0, .ref (wA (wC g) 7 0)), (1, .ref (wA (wC g2) 7 0))] 102 [.int r99]
  refine l_istore (pc' := 104) (L' := [(7, .int r99), (6, .int t0), (0, .ref (wA (wC g) 7 0)), (1, .ref (wA (wC g2) 7 0))]) h0 dL_isCalledSo_102 (Nat.le_of_ble_eq_true rfl) rfl rfl ?_
  refine l_aload_n (pc' := 105) h0 2 dL_isCalledSo_104 rfl rfl rfl ?_
  refine l_iconst (pc' := 106) h0 dL_isCalledSo_105 ki_5 rfl ?_
  refine l_iconst (pc' := 107) h0 dL_isCalledSo_106 ki_1 rfl ?_
  refine l_iconst (pc' := 108) h0 dL_isCalledSo_107 ki_0 rfl ?_
  refine l_iconst (pc' := 109) h0 dL_isCalledSo_108 ki_0 rfl ?_
  refine l_iconst (pc' := 110) h0 dL_isCalledSo_109 ki_0 rfl ?_
  obtain ⟨r110, S110, h110, h⟩ := b2_some h
  refine q_call1H (n := 6) (pc' := 113) vl_410 vl_411 vl_27 vl_412 ⟨by decide +kernel, by decide +kernel, by decide +kernel⟩ [.ref (wA (wC g) 7 0), .int 5, .int 1, .int 0, .int 0, .int 0] [] h0 hK (stab_hp hap) (c_L_does g fu 5 1 0 0 0 S h110) rfl rfl dL_isCalledSo_110 rfl (Nat.le_of_ble_eq_true rfl) ⟨rfl, rfl, (Nat.le_of_ble_eq_true rfl), (Nat.le_of_ble_eq_true rfl)⟩ ⟨by show (cn + 5) ≤ 34; omega, by show 6 * (cn + 5) ≤ 6 * 34; omega⟩ ?_
  show LQ X (D2 g g2 X) 9 (cn + 5) (pW2 g g2 S110 S2) [(7, .int r99), (6, .int t0), (0, .ref (wA (wC g) 7 0)), (1, .ref (wA (wC g2) 7 0))] 113 [.int r110]
  refine l_istore (pc' := 115) (L' := [(8, .int r110), (7, .int r99), (6, .int t0), (0, .ref (wA (wC g) 7 0)), (1, .ref (wA (wC g2) 7 0))]) h0 dL_isCalledSo_113 (Nat.le_of_ble_eq_true rfl) rfl rfl ?_
  refine l_iload (pc' := 117) h0 2 dL_isCalledSo_115 rfl rfl ?_
  refine l_if_eq (pt := 179) (pf := 120) h0 dL_isCalledSo_117 rfl rfl h (fun c117 h => ?_) (fun c117 h => ?_)
  · refine l_sub (L' := []) [] rfl ?_
    exact w_L_isCalledSo_179 h0 hK hK2 hap fu x2 x3 hE (cn + 5) (by omega) S110 S2 h
  · refine l_aload_n (pc' := 121) h0 4 dL_isCalledSo_120 rfl rfl rfl ?_
    refine l_iconst (pc' := 122) h0 dL_isCalledSo_121 ki_5 rfl ?_
    refine l_iconst (pc' := 123) h0 dL_isCalledSo_122 ki_1 rfl ?_
    refine l_iconst (pc' := 124) h0 dL_isCalledSo_123 ki_0 rfl ?_
    refine l_iconst (pc' := 125) h0 dL_isCalledSo_124 ki_0 rfl ?_
    refine l_iconst (pc' := 126) h0 dL_isCalledSo_125 ki_0 rfl ?_
    obtain ⟨r126, S126, h126, h⟩ := b2_some h
    refine q_swap ?_
    refine q_call1H (n := 6) (pc' := 129) vl_410 vl_411 vl_27 vl_412 ⟨by decide +kernel, by decide +kernel, by decide +kernel⟩ [.ref (wA (wC g2) 7 0), .int 5, .int 1, .int 0, .int 0, .int 0] [] h0 hK2 (stab_hp hap.symm) (c_L_does g2 fu 5 1 0 0 0 S2 h126) rfl rfl dL_isCalledSo_126 rfl (Nat.le_of_ble_eq_true rfl) ⟨rfl, rfl, (Nat.le_of_ble_eq_true rfl), (Nat.le_of_ble_eq_true rfl)⟩ ⟨by show ((cn + 5) + 5) ≤ 34; omega, by show 6 * ((cn + 5) + 5) ≤ 6 * 34; omega⟩ ?_
    refine q_swap ?_
    show LQ X (D2 g g2 X) 9 ((cn + 5) + 5) (pW2 g g2 S110 S126) [(8, .int r110), (7, .int r99), (6, .int t0), (0, .ref (wA (wC g) 7 0)), (1, .ref (wA (wC g2) 7 0))] 129 [.int r126]
    refine l_iload (pc' := 131) h0 0 dL_isCalledSo_129 rfl rfl ?_
    refine l_ic_ne (pt := 179) (pf := 134) h0 dL_isCalledSo_131 rfl rfl h (fun c131 h => ?_) (fun c131 h => ?_)
    · refine l_sub (L' := []) [] rfl ?_
      exact w_L_isCalledSo_179 h0 hK hK2 hap fu x2 x3 hE ((cn + 5) + 5) (by omega) S110 S126 h
    · refine l_iload (pc' := 136) h0 0 dL_isCalledSo_134 rfl rfl ?_
      refine l_ldc (pc' := 138) h0 vl_730 dL_isCalledSo_136 rfl ?_
      refine l_ic_ne (pt := 153) (pf := 141) h0 dL_isCalledSo_138 rfl rfl h (fun c138 h => ?_) (fun c138 h => ?_)
      · refine l_iload (pc' := 155) h0 0 dL_isCalledSo_153 rfl rfl ?_
        refine l_if_lt (pt := 179) (pf := 158) h0 dL_isCalledSo_155 rfl rfl h (fun c155 h => ?_) (fun c155 h => ?_)
        · refine l_sub (L' := []) [] rfl ?_
          exact w_L_isCalledSo_179 h0 hK hK2 hap fu x2 x3 hE ((cn + 5) + 5) (by omega) S110 S126 h
        · refine l_iload (pc' := 160) h0 0 dL_isCalledSo_158 rfl rfl ?_
          refine l_iconst (pc' := 161) h0 dL_isCalledSo_160 ki_1 rfl ?_
          refine l_ic_gt (pt := 179) (pf := 164) h0 dL_isCalledSo_161 rfl rfl h (fun c161 h => ?_) (fun c161 h => ?_)
          · refine l_sub (L' := []) [] rfl ?_
            exact w_L_isCalledSo_179 h0 hK hK2 hap fu x2 x3 hE ((cn + 5) + 5) (by omega) S110 S126 h
          · refine l_aload_n (pc' := 165) h0 3 dL_isCalledSo_164 rfl rfl rfl ?_
            obtain ⟨r165, h165, h⟩ := b1_some h
            refine q_callV (n := 0) (pc' := 168) vl_734 vl_735 vl_736 vl_737 vl_28 ⟨by decide +kernel, by decide +kernel, by decide +kernel⟩ [] [] h0 hK (stab_hp hap) (c_X7_clock g fu S110 h165) rfl rfl dL_isCalledSo_165 rfl (Nat.le_of_ble_eq_true rfl) ⟨rfl, rfl, (Nat.le_of_ble_eq_true rfl), (Nat.le_of_ble_eq_true rfl)⟩ ⟨by show ((cn + 5) + 5) ≤ 34; omega, by show 6 * ((cn + 5) + 5) ≤ 6 * 34; omega⟩ ?_
            show LQ X (D2 g g2 X) 9 ((cn + 5) + 5) (pW2 g g2 S110 S126) [(8, .int r110), (7, .int r99), (6, .int t0), (0, .ref (wA (wC g) 7 0)), (1, .ref (wA (wC g2) 7 0))] 168 [.int r165]
            refine l_iload (pc' := 170) h0 1 dL_isCalledSo_168 rfl rfl ?_
            refine l_iconst (pc' := 171) h0 dL_isCalledSo_170 ki_1 rfl ?_
            refine l_iadd (pc' := 172) h0 dL_isCalledSo_171 rfl ?_
            refine l_ic_ne (pt := 179) (pf := 175) h0 dL_isCalledSo_172 rfl rfl h (fun c172 h => ?_) (fun c172 h => ?_)
            · refine l_sub (L' := []) [] rfl ?_
              exact w_L_isCalledSo_179 h0 hK hK2 hap fu x2 x3 hE ((cn + 5) + 5) (by omega) S110 S126 h
            · refine l_sub (L' := []) [] rfl ?_
              exact w_L_isCalledSo_175 h0 hK hK2 hap fu x2 x3 hE ((cn + 5) + 5) (by omega) S110 S126 h
      · refine l_aload_n (pc' := 142) h0 3 dL_isCalledSo_141 rfl rfl rfl ?_
        obtain ⟨r142, h142, h⟩ := b1_some h
        refine q_callV (n := 0) (pc' := 145) vl_734 vl_735 vl_736 vl_737 vl_28 ⟨by decide +kernel, by decide +kernel, by decide +kernel⟩ [] [] h0 hK (stab_hp hap) (c_X7_clock g fu S110 h142) rfl rfl dL_isCalledSo_142 rfl (Nat.le_of_ble_eq_true rfl) ⟨rfl, rfl, (Nat.le_of_ble_eq_true rfl), (Nat.le_of_ble_eq_true rfl)⟩ ⟨by show ((cn + 5) + 5) ≤ 34; omega, by show 6 * ((cn + 5) + 5) ≤ 6 * 34; omega⟩ ?_
        show LQ X (D2 g g2 X) 9 ((cn + 5) + 5) (pW2 g g2 S110 S126) [(8, .int r110), (7, .int r99), (6, .int t0), (0, .ref (wA (wC g) 7 0)), (1, .ref (wA (wC g2) 7 0))] 145 [.int r142]
        refine l_iload (pc' := 147) h0 1 dL_isCalledSo_145 rfl rfl ?_
        refine l_ic_ne (pt := 179) (pf := 150) h0 dL_isCalledSo_147 rfl rfl h (fun c147 h => ?_) (fun c147 h => ?_)
        · refine l_sub (L' := []) [] rfl ?_
          exact w_L_isCalledSo_179 h0 hK hK2 hap fu x2 x3 hE ((cn + 5) + 5) (by omega) S110 S126 h
        · refine l_goto (pc' := 175) h0 dL_isCalledSo_150 rfl ?_
          refine l_sub (L' := []) [] rfl ?_
          exact w_L_isCalledSo_175 h0 hK hK2 hap fu x2 x3 hE ((cn + 5) + 5) (by omega) S110 S126 h
theorem w_L_isCalledSo_95 {g g2 : GC} {X : MX} {r : Int32} {S' S2' : Mem} (h0 : LX RL cL_isCalledSo 9 rl_isCalledSo X) (hK : KW g (D2 g g2 X) X) (hK2 : KW g2 (D2 g g2 X) X) (hap : aptC g g2) (fu : Nat) (x2 : Int32) (x3 : Int32) (hE : E2 (some .boolean) r g g2 S' S2' 34 X) : ∀ (cn : Nat), cn + (10) ≤ 34 → ∀ (S : Mem) (S2 : Mem), f_L_isCalledSo_95 fu x2 x3 S S2 = some (r, S', S2') → LQ X (D2 g g2 X) 9 cn (pW2 g g2 S S2) [(0, .ref (wA (wC g) 7 0)), (1, .ref (wA (wC g2) 7 0))] 95 [] := by
  intro cn hc S S2 h
  rw [f_L_isCalledSo_95] at h
  refine l_iconst (pc' := 96) h0 dL_isCalledSo_95 ki_0 rfl ?_
  exact w_L_isCalledSo_96 h0 hK hK2 hap fu x2 x3 hE cn (by omega) 0 S S2 h
theorem w_L_isCalledSo_91 {g g2 : GC} {X : MX} {r : Int32} {S' S2' : Mem} (h0 : LX RL cL_isCalledSo 9 rl_isCalledSo X) (hK : KW g (D2 g g2 X) X) (hK2 : KW g2 (D2 g g2 X) X) (hap : aptC g g2) (fu : Nat) (x2 : Int32) (x3 : Int32) (hE : E2 (some .boolean) r g g2 S' S2' 34 X) : ∀ (cn : Nat), cn + (10) ≤ 34 → ∀ (S : Mem) (S2 : Mem), f_L_isCalledSo_91 fu x2 x3 S S2 = some (r, S', S2') → LQ X (D2 g g2 X) 9 cn (pW2 g g2 S S2) [(0, .ref (wA (wC g) 7 0)), (1, .ref (wA (wC g2) 7 0))] 91 [] := by
  intro cn hc S S2 h
  rw [f_L_isCalledSo_91] at h
  refine l_iconst (pc' := 92) h0 dL_isCalledSo_91 ki_1 rfl ?_
  refine l_goto (pc' := 96) h0 dL_isCalledSo_92 rfl ?_
  exact w_L_isCalledSo_96 h0 hK hK2 hap fu x2 x3 hE cn (by omega) 1 S S2 h
theorem c_L_isCalledSo (g g2 : GC) (fu : Nat) (x2 : Int32) (x3 : Int32) (S : Mem) (S2 : Mem) {r : Int32} {S' S2' : Mem} (h : f_L_isCalledSo fu x2 x3 S S2 = some (r, S', S2')) : ct2 yL_isCalledSo (.code yL_isCalledSo cL_isCalledSo 9 (some .boolean)) rl_isCalledSo 34 g g2 [.ref (wA (wC g) 7 0), .ref (wA (wC g2) 7 0), .int x2, .int x3] S S2 r S' S2' := by
  refine ct2_of (own := RL) (L := [(0, .ref (wA (wC g) 7 0)), (1, .ref (wA (wC g2) 7 0)), (2, .int x2), (3, .int x3)]) (by decide +kernel) rfl (Nat.le_of_ble_eq_true rfl) rfl (fun X h0 hK hK2 hap hE => ?_)
  have hc : 0 + 34 ≤ 34 := (Nat.le_of_ble_eq_true rfl)
  rw [f_L_isCalledSo] at h
  refine l_aload_n (pc' := 1) h0 0 dL_isCalledSo_0 rfl rfl rfl ?_
  refine l_iload_n (pc' := 2) h0 2 dL_isCalledSo_1 rfl rfl rfl ?_
  obtain ⟨r2, h2, h⟩ := b1_some h
  refine q_call1H (n := 2) (pc' := 5) vl_773 vl_774 vl_27 vl_775 ⟨by decide +kernel, by decide +kernel, by decide +kernel⟩ [.ref (wA (wC g) 7 0), .int x2] [] h0 hK (stab_hp hap) (c_L_phaseNow g fu x2 S h2) rfl rfl dL_isCalledSo_2 rfl (Nat.le_of_ble_eq_true rfl) ⟨rfl, rfl, (Nat.le_of_ble_eq_true rfl), (Nat.le_of_ble_eq_true rfl)⟩ ⟨by show (0 + 2) ≤ 34; omega, by show 6 * (0 + 2) ≤ 6 * 34; omega⟩ ?_
  show LQ X (D2 g g2 X) 9 (0 + 2) (pW2 g g2 S S2) [(0, .ref (wA (wC g) 7 0)), (1, .ref (wA (wC g2) 7 0)), (2, .int x2), (3, .int x3)] 5 [.int r2]
  refine l_istore (pc' := 7) (L' := [(4, .int r2), (0, .ref (wA (wC g) 7 0)), (1, .ref (wA (wC g2) 7 0)), (2, .int x2), (3, .int x3)]) h0 dL_isCalledSo_5 (Nat.le_of_ble_eq_true rfl) rfl rfl ?_
  refine l_aload_n (pc' := 8) h0 1 dL_isCalledSo_7 rfl rfl rfl ?_
  refine l_bipush (pc' := 10) h0 dL_isCalledSo_8 kb_6 rfl ?_
  refine l_iload_n (pc' := 11) h0 3 dL_isCalledSo_10 rfl rfl rfl ?_
  refine l_iload_n (pc' := 12) h0 4 dL_isCalledSo_11 rfl rfl rfl ?_
  refine l_iconst (pc' := 13) h0 dL_isCalledSo_12 ki_0 rfl ?_
  refine l_iconst (pc' := 14) h0 dL_isCalledSo_13 ki_0 rfl ?_
  obtain ⟨r14, S14, h14, h⟩ := b2_some h
  refine q_call1H (n := 6) (pc' := 17) vl_410 vl_411 vl_27 vl_412 ⟨by decide +kernel, by decide +kernel, by decide +kernel⟩ [.ref (wA (wC g) 7 0), .int 6, .int x2, .int x3, .int 0, .int 0] [] h0 hK (stab_hp hap) (c_L_does g fu 6 x2 x3 0 0 S h14) rfl rfl dL_isCalledSo_14 rfl (Nat.le_of_ble_eq_true rfl) ⟨rfl, rfl, (Nat.le_of_ble_eq_true rfl), (Nat.le_of_ble_eq_true rfl)⟩ ⟨by show ((0 + 2) + 5) ≤ 34; omega, by show 6 * ((0 + 2) + 5) ≤ 6 * 34; omega⟩ ?_
  show LQ X (D2 g g2 X) 9 ((0 + 2) + 5) (pW2 g g2 S14 S2) [(4, .int r2), (0, .ref (wA (wC g) 7 0)), (1, .ref (wA (wC g2) 7 0)), (2, .int x2), (3, .int x3)] 17 [.int r14]
  refine l_istore (pc' := 19) (L' := [(5, .int r14), (4, .int r2), (0, .ref (wA (wC g) 7 0)), (1, .ref (wA (wC g2) 7 0)), (2, .int x2), (3, .int x3)]) h0 dL_isCalledSo_17 (Nat.le_of_ble_eq_true rfl) rfl rfl ?_
  refine l_aload_n (pc' := 20) h0 3 dL_isCalledSo_19 rfl rfl rfl ?_
  refine l_bipush (pc' := 22) h0 dL_isCalledSo_20 kb_6 rfl ?_
  refine l_iload_n (pc' := 23) h0 4 dL_isCalledSo_22 rfl rfl rfl ?_
  refine l_iload_n (pc' := 24) h0 5 dL_isCalledSo_23 rfl rfl rfl ?_
  refine l_iconst (pc' := 25) h0 dL_isCalledSo_24 ki_0 rfl ?_
  refine l_iconst (pc' := 26) h0 dL_isCalledSo_25 ki_0 rfl ?_
  obtain ⟨r26, S26, h26, h⟩ := b2_some h
  refine q_swap ?_
  refine q_call1H (n := 6) (pc' := 29) vl_410 vl_411 vl_27 vl_412 ⟨by decide +kernel, by decide +kernel, by decide +kernel⟩ [.ref (wA (wC g2) 7 0), .int 6, .int x2, .int x3, .int 0, .int 0] [] h0 hK2 (stab_hp hap.symm) (c_L_does g2 fu 6 x2 x3 0 0 S2 h26) rfl rfl dL_isCalledSo_26 rfl (Nat.le_of_ble_eq_true rfl) ⟨rfl, rfl, (Nat.le_of_ble_eq_true rfl), (Nat.le_of_ble_eq_true rfl)⟩ ⟨by show (((0 + 2) + 5) + 5) ≤ 34; omega, by show 6 * (((0 + 2) + 5) + 5) ≤ 6 * 34; omega⟩ ?_
  refine q_swap ?_
  show LQ X (D2 g g2 X) 9 (((0 + 2) + 5) + 5) (pW2 g g2 S14 S26) [(5, .int r14), (4, .int r2), (0, .ref (wA (wC g) 7 0)), (1, .ref (wA (wC g2) 7 0)), (2, .int x2), (3, .int x3)] 29 [.int r26]
  refine l_iload (pc' := 31) h0 0 dL_isCalledSo_29 rfl rfl ?_
  refine l_ic_ne (pt := 95) (pf := 34) h0 dL_isCalledSo_31 rfl rfl h (fun c31 h => ?_) (fun c31 h => ?_)
  · refine l_sub (L' := [(0, .ref (wA (wC g) 7 0)), (1, .ref (wA (wC g2) 7 0))]) [2, 3] rfl ?_
    exact w_L_isCalledSo_95 h0 hK hK2 hap fu x2 x3 hE (((0 + 2) + 5) + 5) (by omega) S14 S26 h
  · refine l_iload (pc' := 36) h0 0 dL_isCalledSo_34 rfl rfl ?_
    refine l_ldc (pc' := 38) h0 vl_730 dL_isCalledSo_36 rfl ?_
    refine l_ic_eq (pt := 91) (pf := 41) h0 dL_isCalledSo_38 rfl rfl h (fun c38 h => ?_) (fun c38 h => ?_)
    · refine l_sub (L' := [(0, .ref (wA (wC g) 7 0)), (1, .ref (wA (wC g2) 7 0))]) [2, 3] rfl ?_
      exact w_L_isCalledSo_91 h0 hK hK2 hap fu x2 x3 hE (((0 + 2) + 5) + 5) (by omega) S14 S26 h
    · refine l_iload (pc' := 43) h0 0 dL_isCalledSo_41 rfl rfl ?_
      refine l_if_lt (pt := 95) (pf := 46) h0 dL_isCalledSo_43 rfl rfl h (fun c43 h => ?_) (fun c43 h => ?_)
      · refine l_sub (L' := [(0, .ref (wA (wC g) 7 0)), (1, .ref (wA (wC g2) 7 0))]) [2, 3] rfl ?_
        exact w_L_isCalledSo_95 h0 hK hK2 hap fu x2 x3 hE (((0 + 2) + 5) + 5) (by omega) S14 S26 h
      · refine l_iload (pc' := 48) h0 0 dL_isCalledSo_46 rfl rfl ?_
        refine l_iconst (pc' := 49) h0 dL_isCalledSo_48 ki_5 rfl ?_
        refine l_ic_gt (pt := 95) (pf := 52) h0 dL_isCalledSo_49 rfl rfl h (fun c49 h => ?_) (fun c49 h => ?_)
        · refine l_sub (L' := [(0, .ref (wA (wC g) 7 0)), (1, .ref (wA (wC g2) 7 0))]) [2, 3] rfl ?_
          exact w_L_isCalledSo_95 h0 hK hK2 hap fu x2 x3 hE (((0 + 2) + 5) + 5) (by omega) S14 S26 h
        · refine l_aload_n (pc' := 53) h0 2 dL_isCalledSo_52 rfl rfl rfl ?_
          refine l_iload_n (pc' := 54) h0 4 dL_isCalledSo_53 rfl rfl rfl ?_
          obtain ⟨r54, h54, h⟩ := b1_some h
          refine q_call1H (n := 2) (pc' := 57) vl_773 vl_774 vl_27 vl_775 ⟨by decide +kernel, by decide +kernel, by decide +kernel⟩ [.ref (wA (wC g) 7 0), .int x2] [] h0 hK (stab_hp hap) (c_L_phaseNow g fu x2 S14 h54) rfl rfl dL_isCalledSo_54 rfl (Nat.le_of_ble_eq_true rfl) ⟨rfl, rfl, (Nat.le_of_ble_eq_true rfl), (Nat.le_of_ble_eq_true rfl)⟩ ⟨by show ((((0 + 2) + 5) + 5) + 2) ≤ 34; omega, by show 6 * ((((0 + 2) + 5) + 5) + 2) ≤ 6 * 34; omega⟩ ?_
          show LQ X (D2 g g2 X) 9 ((((0 + 2) + 5) + 5) + 2) (pW2 g g2 S14 S26) [(5, .int r14), (4, .int r2), (0, .ref (wA (wC g) 7 0)), (1, .ref (wA (wC g2) 7 0)), (2, .int x2), (3, .int x3)] 57 [.int r54]
          refine l_iload (pc' := 59) h0 1 dL_isCalledSo_57 rfl rfl ?_
          refine l_ic_ne (pt := 95) (pf := 62) h0 dL_isCalledSo_59 rfl rfl h (fun c59 h => ?_) (fun c59 h => ?_)
          · refine l_sub (L' := [(0, .ref (wA (wC g) 7 0)), (1, .ref (wA (wC g2) 7 0))]) [2, 3] rfl ?_
            exact w_L_isCalledSo_95 h0 hK hK2 hap fu x2 x3 hE ((((0 + 2) + 5) + 5) + 2) (by omega) S14 S26 h
          · refine l_aload_n (pc' := 63) h0 2 dL_isCalledSo_62 rfl rfl rfl ?_
            refine l_bipush (pc' := 65) h0 dL_isCalledSo_63 kb_6 rfl ?_
            refine l_iload_n (pc' := 66) h0 4 dL_isCalledSo_65 rfl rfl rfl ?_
            refine l_iload_n (pc' := 67) h0 5 dL_isCalledSo_66 rfl rfl rfl ?_
            refine l_iconst (pc' := 68) h0 dL_isCalledSo_67 ki_0 rfl ?_
            refine l_iconst (pc' := 69) h0 dL_isCalledSo_68 ki_0 rfl ?_
            obtain ⟨r69, S69, h69, h⟩ := b2_some h
            refine q_call1H (n := 6) (pc' := 72) vl_410 vl_411 vl_27 vl_412 ⟨by decide +kernel, by decide +kernel, by decide +kernel⟩ [.ref (wA (wC g) 7 0), .int 6, .int x2, .int x3, .int 0, .int 0] [] h0 hK (stab_hp hap) (c_L_does g fu 6 x2 x3 0 0 S14 h69) rfl rfl dL_isCalledSo_69 rfl (Nat.le_of_ble_eq_true rfl) ⟨rfl, rfl, (Nat.le_of_ble_eq_true rfl), (Nat.le_of_ble_eq_true rfl)⟩ ⟨by show (((((0 + 2) + 5) + 5) + 2) + 5) ≤ 34; omega, by show 6 * (((((0 + 2) + 5) + 5) + 2) + 5) ≤ 6 * 34; omega⟩ ?_
            show LQ X (D2 g g2 X) 9 (((((0 + 2) + 5) + 5) + 2) + 5) (pW2 g g2 S69 S26) [(5, .int r14), (4, .int r2), (0, .ref (wA (wC g) 7 0)), (1, .ref (wA (wC g2) 7 0)), (2, .int x2), (3, .int x3)] 72 [.int r69]
            refine l_ldc (pc' := 74) h0 vl_730 dL_isCalledSo_72 rfl ?_
            refine l_ic_ne (pt := 95) (pf := 77) h0 dL_isCalledSo_74 rfl rfl h (fun c74 h => ?_) (fun c74 h => ?_)
            · refine l_sub (L' := [(0, .ref (wA (wC g) 7 0)), (1, .ref (wA (wC g2) 7 0))]) [2, 3] rfl ?_
              exact w_L_isCalledSo_95 h0 hK hK2 hap fu x2 x3 hE (((((0 + 2) + 5) + 5) + 2) + 5) (by omega) S69 S26 h
            · refine l_aload_n (pc' := 78) h0 2 dL_isCalledSo_77 rfl rfl rfl ?_
              refine l_iconst (pc' := 79) h0 dL_isCalledSo_78 ki_3 rfl ?_
              refine l_iload_n (pc' := 80) h0 4 dL_isCalledSo_79 rfl rfl rfl ?_
              refine l_iconst (pc' := 81) h0 dL_isCalledSo_80 ki_0 rfl ?_
              refine l_iconst (pc' := 82) h0 dL_isCalledSo_81 ki_0 rfl ?_
              refine l_iconst (pc' := 83) h0 dL_isCalledSo_82 ki_0 rfl ?_
              obtain ⟨r83, S83, h83, h⟩ := b2_some h
              refine q_call1H (n := 6) (pc' := 86) vl_410 vl_411 vl_27 vl_412 ⟨by decide +kernel, by decide +kernel, by decide +kernel⟩ [.ref (wA (wC g) 7 0), .int 3, .int x2, .int 0, .int 0, .int 0] [] h0 hK (stab_hp hap) (c_L_does g fu 3 x2 0 0 0 S69 h83) rfl rfl dL_isCalledSo_83 rfl (Nat.le_of_ble_eq_true rfl) ⟨rfl, rfl, (Nat.le_of_ble_eq_true rfl), (Nat.le_of_ble_eq_true rfl)⟩ ⟨by show ((((((0 + 2) + 5) + 5) + 2) + 5) + 5) ≤ 34; omega, by show 6 * ((((((0 + 2) + 5) + 5) + 2) + 5) + 5) ≤ 6 * 34; omega⟩ ?_
              show LQ X (D2 g g2 X) 9 ((((((0 + 2) + 5) + 5) + 2) + 5) + 5) (pW2 g g2 S83 S26) [(5, .int r14), (4, .int r2), (0, .ref (wA (wC g) 7 0)), (1, .ref (wA (wC g2) 7 0)), (2, .int x2), (3, .int x3)] 86 [.int r83]
              refine l_ldc (pc' := 88) h0 vl_730 dL_isCalledSo_86 rfl ?_
              refine l_ic_ne (pt := 95) (pf := 91) h0 dL_isCalledSo_88 rfl rfl h (fun c88 h => ?_) (fun c88 h => ?_)
              · refine l_sub (L' := [(0, .ref (wA (wC g) 7 0)), (1, .ref (wA (wC g2) 7 0))]) [2, 3] rfl ?_
                exact w_L_isCalledSo_95 h0 hK hK2 hap fu x2 x3 hE ((((((0 + 2) + 5) + 5) + 2) + 5) + 5) (by omega) S83 S26 h
              · refine l_sub (L' := [(0, .ref (wA (wC g) 7 0)), (1, .ref (wA (wC g2) 7 0))]) [2, 3] rfl ?_
                exact w_L_isCalledSo_91 h0 hK hK2 hap fu x2 x3 hE ((((((0 + 2) + 5) + 5) + 2) + 5) + 5) (by omega) S83 S26 h
