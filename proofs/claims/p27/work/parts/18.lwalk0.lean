/-- the machine does what f_L_low says -/
theorem c_L_low (g : GC) (fu : Nat) (x0 : Int32) (x1 : Int32) (S : Mem) {r : Int32}  (h : f_L_low fu x0 x1 S = some r) : ctN yL_low cL_low 2 (some .int) rm_L_low (wC g) [.int x0, .int x1] S (some (.int r)) S := by
  refine ct_of (own := RL) (L := [(0, .int x0), (1, .int x1)]) (by decide +kernel) rfl (Nat.le_of_ble_eq_true rfl) rfl (fun X h0 hE => ?_)
  rw [f_L_low] at h
  refine r_iload_n (pc' := 1) h0 0 dL_low_0 rfl rfl rfl ?_
  refine r_ldc (pc' := 3) h0 v_409 dL_low_1 rfl ?_
  refine r_iand (pc' := 4) h0 dL_low_3 rfl ?_
  refine r_iload_n (pc' := 5) h0 1 dL_low_4 rfl rfl rfl ?_
  refine r_irem (pc' := 6) h0 dL_low_5 rfl h (fun h => ?_)
  exact r_iretR h0 hE dL_low_6 h
theorem cx_L_link (g : GC) (fu : Nat) (x1 : Int32) (x2 : Int32) (x3 : Int32) (S : Mem) {r : Nat ⊕ Int32} {S' : Mem} (h : fx_L_link fu x1 x2 x3 S = some (r, S')) : ctX yL_link cL_link 4 (some .int) rl_link 3 (6 * 3) (wC g) [.ref (wA (wC g) 7 0), .int x1, .int x2, .int x3] S (tOf r) (oOf oI r) S' := by
  refine ctx_of (own := RL) (L := [(0, .ref (wA (wC g) 7 0)), (1, .int x1), (2, .int x2), (3, .int x3)]) (by decide +kernel) rfl (Nat.le_of_ble_eq_true rfl) rfl (fun X h0 hX hE => ?_)
  unfold fx_L_link at h
  obtain ⟨z, S2, h4, h⟩ := b2_some h
  refine r_aload_n (pc' := 1) h0 0 dL_link_0 rfl rfl rfl ?_
  refine r_iload_n (pc' := 2) h0 1 dL_link_1 rfl rfl rfl ?_
  refine r_iload_n (pc' := 3) h0 2 dL_link_2 rfl rfl rfl ?_
  refine r_iload_n (pc' := 4) h0 3 dL_link_3 rfl rfl rfl ?_
  refine gx_Vw (z := z) (n := 3) (ov := oU) (pc' := 7) (ob_7 g) vl_510 vl_511 vl_512 vl_513 vl_28 ⟨by decide +kernel, by decide +kernel, by decide +kernel⟩ [.int x1, .int x2, .int x3] [] h0 hX hE (Nat.le_of_ble_eq_true rfl) (cx_X7_setLink g fu x1 x2 x3 S h4) rfl rfl dL_link_4 rfl (Nat.le_of_ble_eq_true rfl) ⟨rfl, rfl, (Nat.le_of_ble_eq_true rfl), (Nat.le_of_ble_eq_true rfl)⟩ ⟨Nat.le_of_ble_eq_true rfl, Nat.le_of_ble_eq_true rfl⟩ ⟨Nat.le_of_ble_eq_true rfl, Nat.le_of_ble_eq_true rfl⟩ (fun E hz => ?_) (fun v hz => ?_)
  · subst hz; cases h; exact ⟨rfl, rfl⟩
  · subst hz
    have h : some (Sum.inr 0, S2) = some (r, S') := h
    show GV X (wC g) 4 3 18 S2 [(0, .ref (wA (wC g) 7 0)), (1, .int x1), (2, .int x2), (3, .int x3)] 7 []
    refine r_iconst (pc' := 8) h0 dL_link_7 ki_0 rfl ?_
    exact x_iret h0 hE dL_link_8 ⟨Nat.le_of_ble_eq_true rfl, Nat.le_of_ble_eq_true rfl⟩ (by cases h; exact ⟨rfl, rfl, rfl⟩)
theorem cx_L_begin (g : GC) (fu : Nat) (x1 : Int32) (x2 : Int32) (S : Mem) {r : Nat ⊕ Int32} {S' : Mem} (h : fx_L_begin fu x1 x2 S = some (r, S')) : ctX yL_begin cL_begin 3 (some .int) rl_begin 1 (6 * 1) (wC g) [.ref (wA (wC g) 7 0), .int x1, .int x2] S (tOf r) (oOf oI r) S' := by
  refine ctx_of (own := RL) (L := [(0, .ref (wA (wC g) 7 0)), (1, .int x1), (2, .int x2)]) (by decide +kernel) rfl (Nat.le_of_ble_eq_true rfl) rfl (fun X h0 hX hE => ?_)
  unfold fx_L_begin at h
  obtain ⟨z, S2, h4, h⟩ := b2_some h
  refine r_aload_n (pc' := 1) h0 0 dL_begin_0 rfl rfl rfl ?_
  refine r_iload_n (pc' := 2) h0 1 dL_begin_1 rfl rfl rfl ?_
  refine r_iload_n (pc' := 3) h0 2 dL_begin_2 rfl rfl rfl ?_
  refine gx_Vw (z := z) (n := 2) (ov := oU) (pc' := 6) (ob_7 g) vl_721 vl_722 vl_723 vl_724 vl_28 ⟨by decide +kernel, by decide +kernel, by decide +kernel⟩ [.int x1, .int x2] [] h0 hX hE (Nat.le_of_ble_eq_true rfl) (cx_X7_begin g fu x1 x2 S h4) rfl rfl dL_begin_3 rfl (Nat.le_of_ble_eq_true rfl) ⟨rfl, rfl, (Nat.le_of_ble_eq_true rfl), (Nat.le_of_ble_eq_true rfl)⟩ ⟨Nat.le_of_ble_eq_true rfl, Nat.le_of_ble_eq_true rfl⟩ ⟨Nat.le_of_ble_eq_true rfl, Nat.le_of_ble_eq_true rfl⟩ (fun E hz => ?_) (fun v hz => ?_)
  · subst hz; cases h; exact ⟨rfl, rfl⟩
  · subst hz
    have h : some (Sum.inr 0, S2) = some (r, S') := h
    show GV X (wC g) 3 1 6 S2 [(0, .ref (wA (wC g) 7 0)), (1, .int x1), (2, .int x2)] 6 []
    refine r_iconst (pc' := 7) h0 dL_begin_6 ki_0 rfl ?_
    exact x_iret h0 hE dL_begin_7 ⟨Nat.le_of_ble_eq_true rfl, Nat.le_of_ble_eq_true rfl⟩ (by cases h; exact ⟨rfl, rfl, rfl⟩)
theorem c_L_green (g : GC) (fu : Nat) (x1 : Int32) (x2 : Int32) (S : Mem) {r : Int32} (h : f_L_green fu x1 x2 S = some r) : ct1 yL_green (.codeWith yL_green cL_green 4 (some .int) [(0, 6, 7, 47), (0, 6, 10, 52)]) rl_green 3 g [.ref (wA (wC g) 7 0), .int x1, .int x2] S r S := by
  refine ct1_ofH (own := RL) (L := [(0, .ref (wA (wC g) 7 0)), (1, .int x1), (2, .int x2)]) (by decide +kernel) rfl (Nat.le_of_ble_eq_true rfl) rfl (fun X h0 hK hH hE => ?_)
  have hc : 0 + 3 ≤ 3 := (Nat.le_of_ble_eq_true rfl)
  rw [f_L_green] at h
  refine l_aload_n (pc' := 1) h0 0 dL_green_0 rfl rfl rfl ?_
  refine l_iload_n (pc' := 2) h0 1 dL_green_1 rfl rfl rfl ?_
  refine l_iload_n (pc' := 3) h0 2 dL_green_2 rfl rfl rfl ?_
  obtain ⟨z3, h3, h⟩ := b1_some h
  refine q_callXV (z := z3) (ov := oI) (n := 2) (pc' := 6) vl_788 vl_789 vl_790 vl_791 vl_28 ⟨by decide +kernel, by decide +kernel, by decide +kernel⟩ [.int x1, .int x2] [] h0 hK (stab_T g) (cx_X7_green g fu x1 x2 S h3) rfl rfl dL_green_3 rfl (Nat.le_of_ble_eq_true rfl) ⟨rfl, rfl, (Nat.le_of_ble_eq_true rfl), (Nat.le_of_ble_eq_true rfl)⟩ ⟨by show (0 + 3) ≤ 3; omega, by show 6 * (0 + 3) ≤ 6 * 3; omega⟩ (fun E hz => ?_) (fun v hz => ?_)
  · subst hz
    have h : (if E = 3 then some (-1) else if E = 2 then some (-2) else none : Option Int32) = some r := h
    by_cases e3 : E = 3
    · rw [if_pos e3] at h
      subst e3
      refine q_catch (E := 3) (pre := []) (suf := [⟨0, 6, 10, 52⟩]) (x := ⟨0, 6, 7, 47⟩) (pc' := 7) h0 hK hH rfl (fun q hq => nomatch hq) rfl (by decide) vl_413 vl_260 rfl (fun q9 => ?_)
      show LQ X (D1 g X) 4 (0 + 3) (pW g S) [(0, .ref (wA (wC g) 7 0)), (1, .int x1), (2, .int x2)] 7 [.ref q9]
      refine l_astore_n (pc' := 8) (L' := [(3, .ref q9), (0, .ref (wA (wC g) 7 0)), (1, .int x1), (2, .int x2)]) h0 dL_green_7 rfl (Nat.le_of_ble_eq_true rfl) rfl rfl ?_
      refine l_iconst (pc' := 9) h0 dL_green_8 ki_m1 rfl ?_
      exact q_iretR h0 hE dL_green_9 (by omega) h
    · rw [if_neg e3] at h
      by_cases e2 : E = 2
      · rw [if_pos e2] at h
        subst e2
        refine q_catch (E := 2) (pre := [⟨0, 6, 7, 47⟩]) (suf := []) (x := ⟨0, 6, 10, 52⟩) (pc' := 10) h0 hK hH rfl (fun q hq => by simp only [List.mem_cons, List.not_mem_nil, or_false] at hq; subst hq; exact ⟨by decide, "java/lang/IndexOutOfBoundsException", vl_413, by decide +kernel⟩) rfl (by decide) vl_415 vl_446 rfl (fun q9 => ?_)
        show LQ X (D1 g X) 4 (0 + 3) (pW g S) [(0, .ref (wA (wC g) 7 0)), (1, .int x1), (2, .int x2)] 10 [.ref q9]
        refine l_astore_n (pc' := 11) (L' := [(3, .ref q9), (0, .ref (wA (wC g) 7 0)), (1, .int x1), (2, .int x2)]) h0 dL_green_10 rfl (Nat.le_of_ble_eq_true rfl) rfl rfl ?_
        refine l_bipush (pc' := 13) h0 dL_green_11 kb_m2 rfl ?_
        exact q_iretR h0 hE dL_green_13 (by omega) h
      · rw [if_neg e2] at h
        cases h
  · subst hz
    have h : (some v : Option Int32) = some r := h
    show LQ X (D1 g X) 4 (0 + 3) (pW g S) [(0, .ref (wA (wC g) 7 0)), (1, .int x1), (2, .int x2)] 6 [.int v]
    exact q_iretR h0 hE dL_green_6 (by omega) h
theorem c_L_phaseNow (g : GC) (fu : Nat) (x1 : Int32) (S : Mem) {r : Int32} (h : f_L_phaseNow fu x1 S = some r) : ct1 yL_phaseNow (.codeWith yL_phaseNow cL_phaseNow 3 (some .int) [(0, 5, 6, 52)]) rl_phaseNow 2 g [.ref (wA (wC g) 7 0), .int x1] S r S := by
  refine ct1_ofH (own := RL) (L := [(0, .ref (wA (wC g) 7 0)), (1, .int x1)]) (by decide +kernel) rfl (Nat.le_of_ble_eq_true rfl) rfl (fun X h0 hK hH hE => ?_)
  have hc : 0 + 2 ≤ 2 := (Nat.le_of_ble_eq_true rfl)
  rw [f_L_phaseNow] at h
  refine l_aload_n (pc' := 1) h0 0 dL_phaseNow_0 rfl rfl rfl ?_
  refine l_iload_n (pc' := 2) h0 1 dL_phaseNow_1 rfl rfl rfl ?_
  obtain ⟨z2, h2, h⟩ := b1_some h
  refine q_callXV (z := z2) (ov := oI) (n := 1) (pc' := 5) vl_776 vl_777 vl_778 vl_779 vl_28 ⟨by decide +kernel, by decide +kernel, by decide +kernel⟩ [.int x1] [] h0 hK (stab_T g) (cx_X7_phaseNow g fu x1 S h2) rfl rfl dL_phaseNow_2 rfl (Nat.le_of_ble_eq_true rfl) ⟨rfl, rfl, (Nat.le_of_ble_eq_true rfl), (Nat.le_of_ble_eq_true rfl)⟩ ⟨by show (0 + 2) ≤ 2; omega, by show 6 * (0 + 2) ≤ 6 * 2; omega⟩ (fun E hz => ?_) (fun v hz => ?_)
  · subst hz
    have h : (if E = 2 then some (-2) else none : Option Int32) = some r := h
    by_cases e2 : E = 2
    · rw [if_pos e2] at h
      subst e2
      refine q_catch (E := 2) (pre := []) (suf := []) (x := ⟨0, 5, 6, 52⟩) (pc' := 6) h0 hK hH rfl (fun q hq => nomatch hq) rfl (by decide) vl_415 vl_446 rfl (fun q9 => ?_)
      show LQ X (D1 g X) 3 (0 + 2) (pW g S) [(0, .ref (wA (wC g) 7 0)), (1, .int x1)] 6 [.ref q9]
      refine l_astore_n (pc' := 7) (L' := [(2, .ref q9), (0, .ref (wA (wC g) 7 0)), (1, .int x1)]) h0 dL_phaseNow_6 rfl (Nat.le_of_ble_eq_true rfl) rfl rfl ?_
      refine l_bipush (pc' := 9) h0 dL_phaseNow_7 kb_m2 rfl ?_
      exact q_iretR h0 hE dL_phaseNow_9 (by omega) h
    · rw [if_neg e2] at h
      cases h
  · subst hz
    have h : (some v : Option Int32) = some r := h
    show LQ X (D1 g X) 3 (0 + 2) (pW g S) [(0, .ref (wA (wC g) 7 0)), (1, .int x1)] 5 [.int v]
    exact q_iretR h0 hE dL_phaseNow_5 (by omega) h
theorem c_L_band (g : GC) (fu : Nat) (x1 : Int32) (S : Mem) {r : Int32} {S' : Mem} (h : f_L_band fu x1 S = some (r, S')) : ct1 yL_band (.codeWith yL_band cL_band 3 (some .int) [(0, 5, 6, 52)]) rl_band 1 g [.ref (wA (wC g) 7 0), .int x1] S r S' := by
  refine ct1_ofH (own := RL) (L := [(0, .ref (wA (wC g) 7 0)), (1, .int x1)]) (by decide +kernel) rfl (Nat.le_of_ble_eq_true rfl) rfl (fun X h0 hK hH hE => ?_)
  have hc : 0 + 1 ≤ 1 := (Nat.le_of_ble_eq_true rfl)
  rw [f_L_band] at h
  refine l_aload_n (pc' := 1) h0 0 dL_band_0 rfl rfl rfl ?_
  refine l_iload_n (pc' := 2) h0 1 dL_band_1 rfl rfl rfl ?_
  obtain ⟨z2, S2, h2, h⟩ := b2_some h
  refine q_callXV (z := z2) (ov := oI) (n := 1) (pc' := 5) vl_752 vl_753 vl_754 vl_755 vl_28 ⟨by decide +kernel, by decide +kernel, by decide +kernel⟩ [.int x1] [] h0 hK (stab_T g) (cx_X7_band g fu x1 S h2) rfl rfl dL_band_2 rfl (Nat.le_of_ble_eq_true rfl) ⟨rfl, rfl, (Nat.le_of_ble_eq_true rfl), (Nat.le_of_ble_eq_true rfl)⟩ ⟨by show (0 + 1) ≤ 1; omega, by show 6 * (0 + 1) ≤ 6 * 1; omega⟩ (fun E hz => ?_) (fun v hz => ?_)
  · subst hz
    have h : (if E = 2 then some ((-2), S2) else none : Option (Int32 × Mem)) = some (r, S') := h
    by_cases e2 : E = 2
    · rw [if_pos e2] at h
      subst e2
      refine q_catch (E := 2) (pre := []) (suf := []) (x := ⟨0, 5, 6, 52⟩) (pc' := 6) h0 hK hH rfl (fun q hq => nomatch hq) rfl (by decide) vl_415 vl_446 rfl (fun q9 => ?_)
      show LQ X (D1 g X) 3 (0 + 1) (pW g S2) [(0, .ref (wA (wC g) 7 0)), (1, .int x1)] 6 [.ref q9]
      refine l_astore_n (pc' := 7) (L' := [(2, .ref q9), (0, .ref (wA (wC g) 7 0)), (1, .int x1)]) h0 dL_band_6 rfl (Nat.le_of_ble_eq_true rfl) rfl rfl ?_
      refine l_bipush (pc' := 9) h0 dL_band_7 kb_m2 rfl ?_
      exact q_iret h0 hE dL_band_9 (by omega) h
    · rw [if_neg e2] at h
      cases h
  · subst hz
    have h : (some (v, S2) : Option (Int32 × Mem)) = some (r, S') := h
    show LQ X (D1 g X) 3 (0 + 1) (pW g S2) [(0, .ref (wA (wC g) 7 0)), (1, .int x1)] 5 [.int v]
    exact q_iret h0 hE dL_band_5 (by omega) h
theorem w_L_does_129 {g : GC} {X : MX} {r : Int32} {S' : Mem} (h0 : LX RL cL_does 7 rl_does X) (hK : KW g (D1 g X) X) (hH : EH [(0, 129, 130, 47), (0, 129, 135, 50), (0, 129, 140, 52)] X) (fu : Nat) (x1 : Int32) (x2 : Int32) (x3 : Int32) (x4 : Int32) (x5 : Int32) (hE : E1 (some .int) r g S' 5 X) : ∀ (cn : Nat), cn + (0) ≤ 5 → ∀ (t0 : Int32) (S : Mem), f_L_does_129 fu x1 x2 x3 x4 x5 t0 S = some (r, S') → LQ X (D1 g X) 7 cn (pW g S) [] 129 [.int t0] := by
  intro cn hc t0 S h
  rw [f_L_does_129] at h
  exact q_iret h0 hE dL_does_129 (by omega) h
theorem c_L_does (g : GC) (fu : Nat) (x1 : Int32) (x2 : Int32) (x3 : Int32) (x4 : Int32) (x5 : Int32) (S : Mem) {r : Int32} {S' : Mem} (h : f_L_does fu x1 x2 x3 x4 x5 S = some (r, S')) : ct1 yL_does (.codeWith yL_does cL_does 7 (some .int) [(0, 129, 130, 47), (0, 129, 135, 50), (0, 129, 140, 52)]) rl_does 5 g [.ref (wA (wC g) 7 0), .int x1, .int x2, .int x3, .int x4, .int x5] S r S' := by
  refine ct1_ofH (own := RL) (L := [(0, .ref (wA (wC g) 7 0)), (1, .int x1), (2, .int x2), (3, .int x3), (4, .int x4), (5, .int x5)]) (by decide +kernel) rfl (Nat.le_of_ble_eq_true rfl) rfl (fun X h0 hK hH hE => ?_)
  have hc : 0 + 5 ≤ 5 := (Nat.le_of_ble_eq_true rfl)
  rw [f_L_does] at h
  refine l_iload_n (pc' := 1) h0 1 dL_does_0 rfl rfl rfl ?_
  refine l_if_ne (pt := 18) (pf := 4) h0 dL_does_1 rfl rfl h (fun c1 h => ?_) (fun c1 h => ?_)
  · refine l_iload_n (pc' := 19) h0 1 dL_does_18 rfl rfl rfl ?_
    refine l_iconst (pc' := 20) h0 dL_does_19 ki_1 rfl ?_
    refine l_ic_ne (pt := 36) (pf := 23) h0 dL_does_20 rfl rfl h (fun c20 h => ?_) (fun c20 h => ?_)
    · refine l_iload_n (pc' := 37) h0 1 dL_does_36 rfl rfl rfl ?_
      refine l_iconst (pc' := 38) h0 dL_does_37 ki_2 rfl ?_
      refine l_ic_ne (pt := 52) (pf := 41) h0 dL_does_38 rfl rfl h (fun c38 h => ?_) (fun c38 h => ?_)
      · refine l_iload_n (pc' := 53) h0 1 dL_does_52 rfl rfl rfl ?_
        refine l_iconst (pc' := 54) h0 dL_does_53 ki_3 rfl ?_
        refine l_ic_ne (pt := 66) (pf := 57) h0 dL_does_54 rfl rfl h (fun c54 h => ?_) (fun c54 h => ?_)
        · refine l_iload_n (pc' := 67) h0 1 dL_does_66 rfl rfl rfl ?_
          refine l_iconst (pc' := 68) h0 dL_does_67 ki_4 rfl ?_
          refine l_ic_ne (pt := 82) (pf := 71) h0 dL_does_68 rfl rfl h (fun c68 h => ?_) (fun c68 h => ?_)
          · refine l_iload_n (pc' := 83) h0 1 dL_does_82 rfl rfl rfl ?_
            refine l_iconst (pc' := 84) h0 dL_does_83 ki_5 rfl ?_
            refine l_ic_ne (pt := 95) (pf := 87) h0 dL_does_84 rfl rfl h (fun c84 h => ?_) (fun c84 h => ?_)
            · refine l_iload_n (pc' := 96) h0 1 dL_does_95 rfl rfl rfl ?_
              refine l_bipush (pc' := 98) h0 dL_does_96 kb_6 rfl ?_
              refine l_ic_ne (pt := 110) (pf := 101) h0 dL_does_98 rfl rfl h (fun c98 h => ?_) (fun c98 h => ?_)
              · refine l_iload_n (pc' := 111) h0 1 dL_does_110 rfl rfl rfl ?_
                refine l_bipush (pc' := 113) h0 dL_does_111 kb_7 rfl ?_
                refine l_ic_ne (pt := 123) (pf := 116) h0 dL_does_113 rfl rfl h (fun c113 h => ?_) (fun c113 h => ?_)
                · refine l_aload_n (pc' := 124) h0 0 dL_does_123 rfl rfl rfl ?_
                  refine l_iload_n (pc' := 125) h0 2 dL_does_124 rfl rfl rfl ?_
                  refine l_iload_n (pc' := 126) h0 3 dL_does_125 rfl rfl rfl ?_
                  obtain ⟨z126, S126, h126, h⟩ := b2_some h
                  refine q_callXS (z := z126) (ov := oI) (n := 3) (pc' := 129) vl_718 vl_719 vl_720 vl_27 ⟨by decide +kernel, by decide +kernel, by decide +kernel⟩ [.ref (wA (wC g) 7 0), .int x2, .int x3] [] h0 hK (stab_T g) (cx_L_begin g fu x2 x3 S h126) rfl rfl dL_does_126 rfl (Nat.le_of_ble_eq_true rfl) ⟨rfl, rfl, (Nat.le_of_ble_eq_true rfl), (Nat.le_of_ble_eq_true rfl)⟩ ⟨by show (0 + 1) ≤ 5; omega, by show 6 * (0 + 1) ≤ 6 * 5; omega⟩ (fun E hz => ?_) (fun v hz => ?_)
                  · subst hz
                    have h : (if E = 3 then some ((-99999), S126) else if E = 1 then some ((-99999), S126) else if E = 2 then some ((-99999), S126) else none : Option (Int32 × Mem)) = some (r, S') := h
                    by_cases e3 : E = 3
                    · rw [if_pos e3] at h
                      subst e3
                      refine q_catch (E := 3) (pre := []) (suf := [⟨0, 129, 135, 50⟩, ⟨0, 129, 140, 52⟩]) (x := ⟨0, 129, 130, 47⟩) (pc' := 130) h0 hK hH rfl (fun q hq => nomatch hq) rfl (by decide) vl_413 vl_260 rfl (fun q9 => ?_)
                      show LQ X (D1 g X) 7 (0 + 1) (pW g S126) [(0, .ref (wA (wC g) 7 0)), (1, .int x1), (2, .int x2), (3, .int x3), (4, .int x4), (5, .int x5)] 130 [.ref q9]
                      refine l_astore (pc' := 132) (L' := [(6, .ref q9), (0, .ref (wA (wC g) 7 0)), (1, .int x1), (2, .int x2), (3, .int x3), (4, .int x4), (5, .int x5)]) h0 dL_does_130 (Nat.le_of_ble_eq_true rfl) rfl rfl ?_
                      refine l_ldc (pc' := 134) h0 vl_730 dL_does_132 rfl ?_
                      exact q_iret h0 hE dL_does_134 (by omega) h
                    · rw [if_neg e3] at h
                      by_cases e1 : E = 1
                      · rw [if_pos e1] at h
                        subst e1
                        refine q_catch (E := 1) (pre := [⟨0, 129, 130, 47⟩]) (suf := [⟨0, 129, 140, 52⟩]) (x := ⟨0, 129, 135, 50⟩) (pc' := 135) h0 hK hH rfl (fun q hq => by simp only [List.mem_cons, List.not_mem_nil, or_false] at hq; subst hq; exact ⟨by decide, "java/lang/IndexOutOfBoundsException", vl_413, by decide +kernel⟩) rfl (by decide) vl_414 vl_426 rfl (fun q9 => ?_)
                        show LQ X (D1 g X) 7 (0 + 1) (pW g S126) [(0, .ref (wA (wC g) 7 0)), (1, .int x1), (2, .int x2), (3, .int x3), (4, .int x4), (5, .int x5)] 135 [.ref q9]
                        refine l_astore (pc' := 137) (L' := [(6, .ref q9), (0, .ref (wA (wC g) 7 0)), (1, .int x1), (2, .int x2), (3, .int x3), (4, .int x4), (5, .int x5)]) h0 dL_does_135 (Nat.le_of_ble_eq_true rfl) rfl rfl ?_
                        refine l_ldc (pc' := 139) h0 vl_730 dL_does_137 rfl ?_
                        exact q_iret h0 hE dL_does_139 (by omega) h
                      · rw [if_neg e1] at h
                        by_cases e2 : E = 2
                        · rw [if_pos e2] at h
                          subst e2
                          refine q_catch (E := 2) (pre := [⟨0, 129, 130, 47⟩, ⟨0, 129, 135, 50⟩]) (suf := []) (x := ⟨0, 129, 140, 52⟩) (pc' := 140) h0 hK hH rfl (fun q hq => by simp only [List.mem_cons, List.not_mem_nil, or_false] at hq; rcases hq with rfl | rfl <;> first | exact ⟨by decide, "java/lang/IndexOutOfBoundsException", vl_413, by decide +kernel⟩ | exact ⟨by decide, "java/lang/IllegalArgumentException", vl_414, by decide +kernel⟩) rfl (by decide) vl_415 vl_446 rfl (fun q9 => ?_)
                          show LQ X (D1 g X) 7 (0 + 1) (pW g S126) [(0, .ref (wA (wC g) 7 0)), (1, .int x1), (2, .int x2), (3, .int x3), (4, .int x4), (5, .int x5)] 140 [.ref q9]
                          refine l_astore (pc' := 142) (L' := [(6, .ref q9), (0, .ref (wA (wC g) 7 0)), (1, .int x1), (2, .int x2), (3, .int x3), (4, .int x4), (5, .int x5)]) h0 dL_does_140 (Nat.le_of_ble_eq_true rfl) rfl rfl ?_
                          refine l_ldc (pc' := 144) h0 vl_730 dL_does_142 rfl ?_
                          exact q_iret h0 hE dL_does_144 (by omega) h
                        · rw [if_neg e2] at h
                          cases h
                  · subst hz
                    have h : (f_L_does_129 fu x1 x2 x3 x4 x5 v S126 : Option (Int32 × Mem)) = some (r, S') := h
                    show LQ X (D1 g X) 7 (0 + 1) (pW g S126) [(0, .ref (wA (wC g) 7 0)), (1, .int x1), (2, .int x2), (3, .int x3), (4, .int x4), (5, .int x5)] 129 [.int v]
                    refine l_sub (L' := []) [] rfl ?_
                    exact w_L_does_129 h0 hK hH fu x1 x2 x3 x4 x5 hE (0 + 1) (by omega) v S126 h
                · refine l_aload_n (pc' := 117) h0 0 dL_does_116 rfl rfl rfl ?_
                  obtain ⟨z117, S117, h117, h⟩ := b2_some h
                  refine q_callXV (z := z117) (ov := oI) (n := 0) (pc' := 120) vl_629 vl_630 vl_631 vl_632 vl_28 ⟨by decide +kernel, by decide +kernel, by decide +kernel⟩ [] [] h0 hK (stab_T g) (cx_X7_improve g fu S h117) rfl rfl dL_does_117 rfl (Nat.le_of_ble_eq_true rfl) ⟨rfl, rfl, (Nat.le_of_ble_eq_true rfl), (Nat.le_of_ble_eq_true rfl)⟩ ⟨by show (0 + 2) ≤ 5; omega, by show 6 * (0 + 2) ≤ 6 * 5; omega⟩ (fun E hz => ?_) (fun v hz => ?_)
                  · subst hz
                    have h : (if E = 3 then some ((-99999), S117) else if E = 1 then some ((-99999), S117) else if E = 2 then some ((-99999), S117) else none : Option (Int32 × Mem)) = some (r, S') := h
                    by_cases e3 : E = 3
                    · rw [if_pos e3] at h
                      subst e3
                      refine q_catch (E := 3) (pre := []) (suf := [⟨0, 129, 135, 50⟩, ⟨0, 129, 140, 52⟩]) (x := ⟨0, 129, 130, 47⟩) (pc' := 130) h0 hK hH rfl (fun q hq => nomatch hq) rfl (by decide) vl_413 vl_260 rfl (fun q9 => ?_)
                      show LQ X (D1 g X) 7 (0 + 2) (pW g S117) [(0, .ref (wA (wC g) 7 0)), (1, .int x1), (2, .int x2), (3, .int x3), (4, .int x4), (5, .int x5)] 130 [.ref q9]
                      refine l_astore (pc' := 132) (L' := [(6, .ref q9), (0, .ref (wA (wC g) 7 0)), (1, .int x1), (2, .int x2), (3, .int x3), (4, .int x4), (5, .int x5)]) h0 dL_does_130 (Nat.le_of_ble_eq_true rfl) rfl rfl ?_
                      refine l_ldc (pc' := 134) h0 vl_730 dL_does_132 rfl ?_
                      exact q_iret h0 hE dL_does_134 (by omega) h
                    · rw [if_neg e3] at h
                      by_cases e1 : E = 1
                      · rw [if_pos e1] at h
                        subst e1
                        refine q_catch (E := 1) (pre := [⟨0, 129, 130, 47⟩]) (suf := [⟨0, 129, 140, 52⟩]) (x := ⟨0, 129, 135, 50⟩) (pc' := 135) h0 hK hH rfl (fun q hq => by simp only [List.mem_cons, List.not_mem_nil, or_false] at hq; subst hq; exact ⟨by decide, "java/lang/IndexOutOfBoundsException", vl_413, by decide +kernel⟩) rfl (by decide) vl_414 vl_426 rfl (fun q9 => ?_)
                        show LQ X (D1 g X) 7 (0 + 2) (pW g S117) [(0, .ref (wA (wC g) 7 0)), (1, .int x1), (2, .int x2), (3, .int x3), (4, .int x4), (5, .int x5)] 135 [.ref q9]
                        refine l_astore (pc' := 137) (L' := [(6, .ref q9), (0, .ref (wA (wC g) 7 0)), (1, .int x1), (2, .int x2), (3, .int x3), (4, .int x4), (5, .int x5)]) h0 dL_does_135 (Nat.le_of_ble_eq_true rfl) rfl rfl ?_
                        refine l_ldc (pc' := 139) h0 vl_730 dL_does_137 rfl ?_
                        exact q_iret h0 hE dL_does_139 (by omega) h
                      · rw [if_neg e1] at h
                        by_cases e2 : E = 2
                        · rw [if_pos e2] at h
                          subst e2
                          refine q_catch (E := 2) (pre := [⟨0, 129, 130, 47⟩, ⟨0, 129, 135, 50⟩]) (suf := []) (x := ⟨0, 129, 140, 52⟩) (pc' := 140) h0 hK hH rfl (fun q hq => by simp only [List.mem_cons, List.not_mem_nil, or_false] at hq; rcases hq with rfl | rfl <;> first | exact ⟨by decide, "java/lang/IndexOutOfBoundsException", vl_413, by decide +kernel⟩ | exact ⟨by decide, "java/lang/IllegalArgumentException", vl_414, by decide +kernel⟩) rfl (by decide) vl_415 vl_446 rfl (fun q9 => ?_)
                          show LQ X (D1 g X) 7 (0 + 2) (pW g S117) [(0, .ref (wA (wC g) 7 0)), (1, .int x1), (2, .int x2), (3, .int x3), (4, .int x4), (5, .int x5)] 140 [.ref q9]
                          refine l_astore (pc' := 142) (L' := [(6, .ref q9), (0, .ref (wA (wC g) 7 0)), (1, .int x1), (2, .int x2), (3, .int x3), (4, .int x4), (5, .int x5)]) h0 dL_does_140 (Nat.le_of_ble_eq_true rfl) rfl rfl ?_
                          refine l_ldc (pc' := 144) h0 vl_730 dL_does_142 rfl ?_
                          exact q_iret h0 hE dL_does_144 (by omega) h
                        · rw [if_neg e2] at h
                          cases h
                  · subst hz
                    have h : (f_L_does_129 fu x1 x2 x3 x4 x5 v S117 : Option (Int32 × Mem)) = some (r, S') := h
                    show LQ X (D1 g X) 7 (0 + 2) (pW g S117) [(0, .ref (wA (wC g) 7 0)), (1, .int x1), (2, .int x2), (3, .int x3), (4, .int x4), (5, .int x5)] 120 [.int v]
                    refine l_goto (pc' := 129) h0 dL_does_120 rfl ?_
                    refine l_sub (L' := []) [] rfl ?_
                    exact w_L_does_129 h0 hK hH fu x1 x2 x3 x4 x5 hE (0 + 2) (by omega) v S117 h
              · refine l_aload_n (pc' := 102) h0 0 dL_does_101 rfl rfl rfl ?_
                refine l_iload_n (pc' := 103) h0 2 dL_does_102 rfl rfl rfl ?_
                refine l_iload_n (pc' := 104) h0 3 dL_does_103 rfl rfl rfl ?_
                obtain ⟨z104, S104, h104, h⟩ := b2_some h
                refine q_callXV (z := z104) (ov := oI) (n := 2) (pc' := 107) vl_605 vl_606 vl_607 vl_608 vl_28 ⟨by decide +kernel, by decide +kernel, by decide +kernel⟩ [.int x2, .int x3] [] h0 hK (stab_T g) (cx_X7_callBus g fu x2 x3 S h104) rfl rfl dL_does_104 rfl (Nat.le_of_ble_eq_true rfl) ⟨rfl, rfl, (Nat.le_of_ble_eq_true rfl), (Nat.le_of_ble_eq_true rfl)⟩ ⟨by show (0 + 4) ≤ 5; omega, by show 6 * (0 + 4) ≤ 6 * 5; omega⟩ (fun E hz => ?_) (fun v hz => ?_)
                · subst hz
                  have h : (if E = 3 then some ((-99999), S104) else if E = 1 then some ((-99999), S104) else if E = 2 then some ((-99999), S104) else none : Option (Int32 × Mem)) = some (r, S') := h
                  by_cases e3 : E = 3
                  · rw [if_pos e3] at h
                    subst e3
                    refine q_catch (E := 3) (pre := []) (suf := [⟨0, 129, 135, 50⟩, ⟨0, 129, 140, 52⟩]) (x := ⟨0, 129, 130, 47⟩) (pc' := 130) h0 hK hH rfl (fun q hq => nomatch hq) rfl (by decide) vl_413 vl_260 rfl (fun q9 => ?_)
                    show LQ X (D1 g X) 7 (0 + 4) (pW g S104) [(0, .ref (wA (wC g) 7 0)), (1, .int x1), (2, .int x2), (3, .int x3), (4, .int x4), (5, .int x5)] 130 [.ref q9]
                    refine l_astore (pc' := 132) (L' := [(6, .ref q9), (0, .ref (wA (wC g) 7 0)), (1, .int x1), (2, .int x2), (3, .int x3), (4, .int x4), (5, .int x5)]) h0 dL_does_130 (Nat.le_of_ble_eq_true rfl) rfl rfl ?_
                    refine l_ldc (pc' := 134) h0 vl_730 dL_does_132 rfl ?_
                    exact q_iret h0 hE dL_does_134 (by omega) h
                  · rw [if_neg e3] at h
                    by_cases e1 : E = 1
                    · rw [if_pos e1] at h
                      subst e1
                      refine q_catch (E := 1) (pre := [⟨0, 129, 130, 47⟩]) (suf := [⟨0, 129, 140, 52⟩]) (x := ⟨0, 129, 135, 50⟩) (pc' := 135) h0 hK hH rfl (fun q hq => by simp only [List.mem_cons, List.not_mem_nil, or_false] at hq; subst hq; exact ⟨by decide, "java/lang/IndexOutOfBoundsException", vl_413, by decide +kernel⟩) rfl (by decide) vl_414 vl_426 rfl (fun q9 => ?_)
                      show LQ X (D1 g X) 7 (0 + 4) (pW g S104) [(0, .ref (wA (wC g) 7 0)), (1, .int x1), (2, .int x2), (3, .int x3), (4, .int x4), (5, .int x5)] 135 [.ref q9]
                      refine l_astore (pc' := 137) (L' := [(6, .ref q9), (0, .ref (wA (wC g) 7 0)), (1, .int x1), (2, .int x2), (3, .int x3), (4, .int x4), (5, .int x5)]) h0 dL_does_135 (Nat.le_of_ble_eq_true rfl) rfl rfl ?_
                      refine l_ldc (pc' := 139) h0 vl_730 dL_does_137 rfl ?_
                      exact q_iret h0 hE dL_does_139 (by omega) h
                    · rw [if_neg e1] at h
                      by_cases e2 : E = 2
                      · rw [if_pos e2] at h
                        subst e2
                        refine q_catch (E := 2) (pre := [⟨0, 129, 130, 47⟩, ⟨0, 129, 135, 50⟩]) (suf := []) (x := ⟨0, 129, 140, 52⟩) (pc' := 140) h0 hK hH rfl (fun q hq => by simp only [List.mem_cons, List.not_mem_nil, or_false] at hq; rcases hq with rfl | rfl <;> first | exact ⟨by decide, "java/lang/IndexOutOfBoundsException", vl_413, by decide +kernel⟩ | exact ⟨by decide, "java/lang/IllegalArgumentException", vl_414, by decide +kernel⟩) rfl (by decide) vl_415 vl_446 rfl (fun q9 => ?_)
                        show LQ X (D1 g X) 7 (0 + 4) (pW g S104) [(0, .ref (wA (wC g) 7 0)), (1, .int x1), (2, .int x2), (3, .int x3), (4, .int x4), (5, .int x5)] 140 [.ref q9]
                        refine l_astore (pc' := 142) (L' := [(6, .ref q9), (0, .ref (wA (wC g) 7 0)), (1, .int x1), (2, .int x2), (3, .int x3), (4, .int x4), (5, .int x5)]) h0 dL_does_140 (Nat.le_of_ble_eq_true rfl) rfl rfl ?_
                        refine l_ldc (pc' := 144) h0 vl_730 dL_does_142 rfl ?_
                        exact q_iret h0 hE dL_does_144 (by omega) h
                      · rw [if_neg e2] at h
                        cases h
                · subst hz
                  have h : (f_L_does_129 fu x1 x2 x3 x4 x5 v S104 : Option (Int32 × Mem)) = some (r, S') := h
                  show LQ X (D1 g X) 7 (0 + 4) (pW g S104) [(0, .ref (wA (wC g) 7 0)), (1, .int x1), (2, .int x2), (3, .int x3), (4, .int x4), (5, .int x5)] 107 [.int v]
                  refine l_goto (pc' := 129) h0 dL_does_107 rfl ?_
                  refine l_sub (L' := []) [] rfl ?_
                  exact w_L_does_129 h0 hK hH fu x1 x2 x3 x4 x5 hE (0 + 4) (by omega) v S104 h
            · refine l_aload_n (pc' := 88) h0 0 dL_does_87 rfl rfl rfl ?_
              refine l_iload_n (pc' := 89) h0 2 dL_does_88 rfl rfl rfl ?_
              obtain ⟨z89, S89, h89, h⟩ := b2_some h
              refine q_callXV (z := z89) (ov := oI) (n := 1) (pc' := 92) vl_524 vl_525 vl_526 vl_527 vl_28 ⟨by decide +kernel, by decide +kernel, by decide +kernel⟩ [.int x2] [] h0 hK (stab_T g) (cx_X7_run g fu x2 S h89) rfl rfl dL_does_89 rfl (Nat.le_of_ble_eq_true rfl) ⟨rfl, rfl, (Nat.le_of_ble_eq_true rfl), (Nat.le_of_ble_eq_true rfl)⟩ ⟨by show (0 + 2) ≤ 5; omega, by show 6 * (0 + 2) ≤ 6 * 5; omega⟩ (fun E hz => ?_) (fun v hz => ?_)
              · subst hz
                have h : (if E = 3 then some ((-99999), S89) else if E = 1 then some ((-99999), S89) else if E = 2 then some ((-99999), S89) else none : Option (Int32 × Mem)) = some (r, S') := h
                by_cases e3 : E = 3
                · rw [if_pos e3] at h
                  subst e3
                  refine q_catch (E := 3) (pre := []) (suf := [⟨0, 129, 135, 50⟩, ⟨0, 129, 140, 52⟩]) (x := ⟨0, 129, 130, 47⟩) (pc' := 130) h0 hK hH rfl (fun q hq => nomatch hq) rfl (by decide) vl_413 vl_260 rfl (fun q9 => ?_)
                  show LQ X (D1 g X) 7 (0 + 2) (pW g S89) [(0, .ref (wA (wC g) 7 0)), (1, .int x1), (2, .int x2), (3, .int x3), (4, .int x4), (5, .int x5)] 130 [.ref q9]
                  refine l_astore (pc' := 132) (L' := [(6, .ref q9), (0, .ref (wA (wC g) 7 0)), (1, .int x1), (2, .int x2), (3, .int x3), (4, .int x4), (5, .int x5)]) h0 dL_does_130 (Nat.le_of_ble_eq_true rfl) rfl rfl ?_
                  refine l_ldc (pc' := 134) h0 vl_730 dL_does_132 rfl ?_
                  exact q_iret h0 hE dL_does_134 (by omega) h
                · rw [if_neg e3] at h
                  by_cases e1 : E = 1
                  · rw [if_pos e1] at h
                    subst e1
                    refine q_catch (E := 1) (pre := [⟨0, 129, 130, 47⟩]) (suf := [⟨0, 129, 140, 52⟩]) (x := ⟨0, 129, 135, 50⟩) (pc' := 135) h0 hK hH rfl (fun q hq => by simp only [List.mem_cons, List.not_mem_nil, or_false] at hq; subst hq; exact ⟨by decide, "java/lang/IndexOutOfBoundsException", vl_413, by decide +kernel⟩) rfl (by decide) vl_414 vl_426 rfl (fun q9 => ?_)
                    show LQ X (D1 g X) 7 (0 + 2) (pW g S89) [(0, .ref (wA (wC g) 7 0)), (1, .int x1), (2, .int x2), (3, .int x3), (4, .int x4), (5, .int x5)] 135 [.ref q9]
                    refine l_astore (pc' := 137) (L' := [(6, .ref q9), (0, .ref (wA (wC g) 7 0)), (1, .int x1), (2, .int x2), (3, .int x3), (4, .int x4), (5, .int x5)]) h0 dL_does_135 (Nat.le_of_ble_eq_true rfl) rfl rfl ?_
                    refine l_ldc (pc' := 139) h0 vl_730 dL_does_137 rfl ?_
                    exact q_iret h0 hE dL_does_139 (by omega) h
                  · rw [if_neg e1] at h
                    by_cases e2 : E = 2
                    · rw [if_pos e2] at h
                      subst e2
                      refine q_catch (E := 2) (pre := [⟨0, 129, 130, 47⟩, ⟨0, 129, 135, 50⟩]) (suf := []) (x := ⟨0, 129, 140, 52⟩) (pc' := 140) h0 hK hH rfl (fun q hq => by simp only [List.mem_cons, List.not_mem_nil, or_false] at hq; rcases hq with rfl | rfl <;> first | exact ⟨by decide, "java/lang/IndexOutOfBoundsException", vl_413, by decide +kernel⟩ | exact ⟨by decide, "java/lang/IllegalArgumentException", vl_414, by decide +kernel⟩) rfl (by decide) vl_415 vl_446 rfl (fun q9 => ?_)
                      show LQ X (D1 g X) 7 (0 + 2) (pW g S89) [(0, .ref (wA (wC g) 7 0)), (1, .int x1), (2, .int x2), (3, .int x3), (4, .int x4), (5, .int x5)] 140 [.ref q9]
                      refine l_astore (pc' := 142) (L' := [(6, .ref q9), (0, .ref (wA (wC g) 7 0)), (1, .int x1), (2, .int x2), (3, .int x3), (4, .int x4), (5, .int x5)]) h0 dL_does_140 (Nat.le_of_ble_eq_true rfl) rfl rfl ?_
                      refine l_ldc (pc' := 144) h0 vl_730 dL_does_142 rfl ?_
                      exact q_iret h0 hE dL_does_144 (by omega) h
                    · rw [if_neg e2] at h
                      cases h
              · subst hz
                have h : (f_L_does_129 fu x1 x2 x3 x4 x5 v S89 : Option (Int32 × Mem)) = some (r, S') := h
                show LQ X (D1 g X) 7 (0 + 2) (pW g S89) [(0, .ref (wA (wC g) 7 0)), (1, .int x1), (2, .int x2), (3, .int x3), (4, .int x4), (5, .int x5)] 92 [.int v]
                refine l_goto (pc' := 129) h0 dL_does_92 rfl ?_
                refine l_sub (L' := []) [] rfl ?_
                exact w_L_does_129 h0 hK hH fu x1 x2 x3 x4 x5 hE (0 + 2) (by omega) v S89 h
          · refine l_aload_n (pc' := 72) h0 0 dL_does_71 rfl rfl rfl ?_
            refine l_iload_n (pc' := 73) h0 2 dL_does_72 rfl rfl rfl ?_
            refine l_iload_n (pc' := 74) h0 3 dL_does_73 rfl rfl rfl ?_
            refine l_iload (pc' := 76) h0 4 dL_does_74 rfl rfl ?_
            obtain ⟨z76, S76, h76, h⟩ := b2_some h
            refine q_callXS (z := z76) (ov := oI) (n := 4) (pc' := 79) vl_507 vl_508 vl_509 vl_27 ⟨by decide +kernel, by decide +kernel, by decide +kernel⟩ [.ref (wA (wC g) 7 0), .int x2, .int x3, .int x4] [] h0 hK (stab_T g) (cx_L_link g fu x2 x3 x4 S h76) rfl rfl dL_does_76 rfl (Nat.le_of_ble_eq_true rfl) ⟨rfl, rfl, (Nat.le_of_ble_eq_true rfl), (Nat.le_of_ble_eq_true rfl)⟩ ⟨by show (0 + 3) ≤ 5; omega, by show 6 * (0 + 3) ≤ 6 * 5; omega⟩ (fun E hz => ?_) (fun v hz => ?_)
            · subst hz
              have h : (if E = 3 then some ((-99999), S76) else if E = 1 then some ((-99999), S76) else if E = 2 then some ((-99999), S76) else none : Option (Int32 × Mem)) = some (r, S') := h
              by_cases e3 : E = 3
              · rw [if_pos e3] at h
                subst e3
                refine q_catch (E := 3) (pre := []) (suf := [⟨0, 129, 135, 50⟩, ⟨0, 129, 140, 52⟩]) (x := ⟨0, 129, 130, 47⟩) (pc' := 130) h0 hK hH rfl (fun q hq => nomatch hq) rfl (by decide) vl_413 vl_260 rfl (fun q9 => ?_)
                show LQ X (D1 g X) 7 (0 + 3) (pW g S76) [(0, .ref (wA (wC g) 7 0)), (1, .int x1), (2, .int x2), (3, .int x3), (4, .int x4), (5, .int x5)] 130 [.ref q9]
                refine l_astore (pc' := 132) (L' := [(6, .ref q9), (0, .ref (wA (wC g) 7 0)), (1, .int x1), (2, .int x2), (3, .int x3), (4, .int x4), (5, .int x5)]) h0 dL_does_130 (Nat.le_of_ble_eq_true rfl) rfl rfl ?_
                refine l_ldc (pc' := 134) h0 vl_730 dL_does_132 rfl ?_
                exact q_iret h0 hE dL_does_134 (by omega) h
              · rw [if_neg e3] at h
                by_cases e1 : E = 1
                · rw [if_pos e1] at h
                  subst e1
                  refine q_catch (E := 1) (pre := [⟨0, 129, 130, 47⟩]) (suf := [⟨0, 129, 140, 52⟩]) (x := ⟨0, 129, 135, 50⟩) (pc' := 135) h0 hK hH rfl (fun q hq => by simp only [List.mem_cons, List.not_mem_nil, or_false] at hq; subst hq; exact ⟨by decide, "java/lang/IndexOutOfBoundsException", vl_413, by decide +kernel⟩) rfl (by decide) vl_414 vl_426 rfl (fun q9 => ?_)
                  show LQ X (D1 g X) 7 (0 + 3) (pW g S76) [(0, .ref (wA (wC g) 7 0)), (1, .int x1), (2, .int x2), (3, .int x3), (4, .int x4), (5, .int x5)] 135 [.ref q9]
                  refine l_astore (pc' := 137) (L' := [(6, .ref q9), (0, .ref (wA (wC g) 7 0)), (1, .int x1), (2, .int x2), (3, .int x3), (4, .int x4), (5, .int x5)]) h0 dL_does_135 (Nat.le_of_ble_eq_true rfl) rfl rfl ?_
                  refine l_ldc (pc' := 139) h0 vl_730 dL_does_137 rfl ?_
                  exact q_iret h0 hE dL_does_139 (by omega) h
                · rw [if_neg e1] at h
                  by_cases e2 : E = 2
                  · rw [if_pos e2] at h
                    subst e2
                    refine q_catch (E := 2) (pre := [⟨0, 129, 130, 47⟩, ⟨0, 129, 135, 50⟩]) (suf := []) (x := ⟨0, 129, 140, 52⟩) (pc' := 140) h0 hK hH rfl (fun q hq => by simp only [List.mem_cons, List.not_mem_nil, or_false] at hq; rcases hq with rfl | rfl <;> first | exact ⟨by decide, "java/lang/IndexOutOfBoundsException", vl_413, by decide +kernel⟩ | exact ⟨by decide, "java/lang/IllegalArgumentException", vl_414, by decide +kernel⟩) rfl (by decide) vl_415 vl_446 rfl (fun q9 => ?_)
                    show LQ X (D1 g X) 7 (0 + 3) (pW g S76) [(0, .ref (wA (wC g) 7 0)), (1, .int x1), (2, .int x2), (3, .int x3), (4, .int x4), (5, .int x5)] 140 [.ref q9]
                    refine l_astore (pc' := 142) (L' := [(6, .ref q9), (0, .ref (wA (wC g) 7 0)), (1, .int x1), (2, .int x2), (3, .int x3), (4, .int x4), (5, .int x5)]) h0 dL_does_140 (Nat.le_of_ble_eq_true rfl) rfl rfl ?_
                    refine l_ldc (pc' := 144) h0 vl_730 dL_does_142 rfl ?_
                    exact q_iret h0 hE dL_does_144 (by omega) h
                  · rw [if_neg e2] at h
                    cases h
            · subst hz
              have h : (f_L_does_129 fu x1 x2 x3 x4 x5 v S76 : Option (Int32 × Mem)) = some (r, S') := h
              show LQ X (D1 g X) 7 (0 + 3) (pW g S76) [(0, .ref (wA (wC g) 7 0)), (1, .int x1), (2, .int x2), (3, .int x3), (4, .int x4), (5, .int x5)] 79 [.int v]
              refine l_goto (pc' := 129) h0 dL_does_79 rfl ?_
              refine l_sub (L' := []) [] rfl ?_
              exact w_L_does_129 h0 hK hH fu x1 x2 x3 x4 x5 hE (0 + 3) (by omega) v S76 h
        · refine l_aload_n (pc' := 58) h0 0 dL_does_57 rfl rfl rfl ?_
          refine l_iload_n (pc' := 59) h0 2 dL_does_58 rfl rfl rfl ?_
          refine l_iload_n (pc' := 60) h0 3 dL_does_59 rfl rfl rfl ?_
          obtain ⟨z60, S60, h60, h⟩ := b2_some h
          refine q_callXV (z := z60) (ov := oI) (n := 2) (pc' := 63) vl_502 vl_503 vl_504 vl_505 vl_28 ⟨by decide +kernel, by decide +kernel, by decide +kernel⟩ [.int x2, .int x3] [] h0 hK (stab_T g) (cx_X7_setOffset g fu x2 x3 S h60) rfl rfl dL_does_60 rfl (Nat.le_of_ble_eq_true rfl) ⟨rfl, rfl, (Nat.le_of_ble_eq_true rfl), (Nat.le_of_ble_eq_true rfl)⟩ ⟨by show (0 + 2) ≤ 5; omega, by show 6 * (0 + 2) ≤ 6 * 5; omega⟩ (fun E hz => ?_) (fun v hz => ?_)
          · subst hz
            have h : (if E = 3 then some ((-99999), S60) else if E = 1 then some ((-99999), S60) else if E = 2 then some ((-99999), S60) else none : Option (Int32 × Mem)) = some (r, S') := h
            by_cases e3 : E = 3
            · rw [if_pos e3] at h
              subst e3
              refine q_catch (E := 3) (pre := []) (suf := [⟨0, 129, 135, 50⟩, ⟨0, 129, 140, 52⟩]) (x := ⟨0, 129, 130, 47⟩) (pc' := 130) h0 hK hH rfl (fun q hq => nomatch hq) rfl (by decide) vl_413 vl_260 rfl (fun q9 => ?_)
              show LQ X (D1 g X) 7 (0 + 2) (pW g S60) [(0, .ref (wA (wC g) 7 0)), (1, .int x1), (2, .int x2), (3, .int x3), (4, .int x4), (5, .int x5)] 130 [.ref q9]
              refine l_astore (pc' := 132) (L' := [(6, .ref q9), (0, .ref (wA (wC g) 7 0)), (1, .int x1), (2, .int x2), (3, .int x3), (4, .int x4), (5, .int x5)]) h0 dL_does_130 (Nat.le_of_ble_eq_true rfl) rfl rfl ?_
              refine l_ldc (pc' := 134) h0 vl_730 dL_does_132 rfl ?_
              exact q_iret h0 hE dL_does_134 (by omega) h
            · rw [if_neg e3] at h
              by_cases e1 : E = 1
              · rw [if_pos e1] at h
                subst e1
                refine q_catch (E := 1) (pre := [⟨0, 129, 130, 47⟩]) (suf := [⟨0, 129, 140, 52⟩]) (x := ⟨0, 129, 135, 50⟩) (pc' := 135) h0 hK hH rfl (fun q hq => by simp only [List.mem_cons, List.not_mem_nil, or_false] at hq; subst hq; exact ⟨by decide, "java/lang/IndexOutOfBoundsException", vl_413, by decide +kernel⟩) rfl (by decide) vl_414 vl_426 rfl (fun q9 => ?_)
                show LQ X (D1 g X) 7 (0 + 2) (pW g S60) [(0, .ref (wA (wC g) 7 0)), (1, .int x1), (2, .int x2), (3, .int x3), (4, .int x4), (5, .int x5)] 135 [.ref q9]
                refine l_astore (pc' := 137) (L' := [(6, .ref q9), (0, .ref (wA (wC g) 7 0)), (1, .int x1), (2, .int x2), (3, .int x3), (4, .int x4), (5, .int x5)]) h0 dL_does_135 (Nat.le_of_ble_eq_true rfl) rfl rfl ?_
                refine l_ldc (pc' := 139) h0 vl_730 dL_does_137 rfl ?_
                exact q_iret h0 hE dL_does_139 (by omega) h
              · rw [if_neg e1] at h
                by_cases e2 : E = 2
                · rw [if_pos e2] at h
                  subst e2
                  refine q_catch (E := 2) (pre := [⟨0, 129, 130, 47⟩, ⟨0, 129, 135, 50⟩]) (suf := []) (x := ⟨0, 129, 140, 52⟩) (pc' := 140) h0 hK hH rfl (fun q hq => by simp only [List.mem_cons, List.not_mem_nil, or_false] at hq; rcases hq with rfl | rfl <;> first | exact ⟨by decide, "java/lang/IndexOutOfBoundsException", vl_413, by decide +kernel⟩ | exact ⟨by decide, "java/lang/IllegalArgumentException", vl_414, by decide +kernel⟩) rfl (by decide) vl_415 vl_446 rfl (fun q9 => ?_)
                  show LQ X (D1 g X) 7 (0 + 2) (pW g S60) [(0, .ref (wA (wC g) 7 0)), (1, .int x1), (2, .int x2), (3, .int x3), (4, .int x4), (5, .int x5)] 140 [.ref q9]
                  refine l_astore (pc' := 142) (L' := [(6, .ref q9), (0, .ref (wA (wC g) 7 0)), (1, .int x1), (2, .int x2), (3, .int x3), (4, .int x4), (5, .int x5)]) h0 dL_does_140 (Nat.le_of_ble_eq_true rfl) rfl rfl ?_
                  refine l_ldc (pc' := 144) h0 vl_730 dL_does_142 rfl ?_
                  exact q_iret h0 hE dL_does_144 (by omega) h
                · rw [if_neg e2] at h
                  cases h
          · subst hz
            have h : (f_L_does_129 fu x1 x2 x3 x4 x5 v S60 : Option (Int32 × Mem)) = some (r, S') := h
            show LQ X (D1 g X) 7 (0 + 2) (pW g S60) [(0, .ref (wA (wC g) 7 0)), (1, .int x1), (2, .int x2), (3, .int x3), (4, .int x4), (5, .int x5)] 63 [.int v]
            refine l_goto (pc' := 129) h0 dL_does_63 rfl ?_
            refine l_sub (L' := []) [] rfl ?_
            exact w_L_does_129 h0 hK hH fu x1 x2 x3 x4 x5 hE (0 + 2) (by omega) v S60 h
      · refine l_aload_n (pc' := 42) h0 0 dL_does_41 rfl rfl rfl ?_
        refine l_iload_n (pc' := 43) h0 2 dL_does_42 rfl rfl rfl ?_
        refine l_iload_n (pc' := 44) h0 3 dL_does_43 rfl rfl rfl ?_
        refine l_iload (pc' := 46) h0 4 dL_does_44 rfl rfl ?_
        obtain ⟨z46, S46, h46, h⟩ := b2_some h
        refine q_callXV (z := z46) (ov := oI) (n := 3) (pc' := 49) vl_489 vl_490 vl_491 vl_492 vl_28 ⟨by decide +kernel, by decide +kernel, by decide +kernel⟩ [.int x2, .int x3, .int x4] [] h0 hK (stab_T g) (cx_X7_setFlow g fu x2 x3 x4 S h46) rfl rfl dL_does_46 rfl (Nat.le_of_ble_eq_true rfl) ⟨rfl, rfl, (Nat.le_of_ble_eq_true rfl), (Nat.le_of_ble_eq_true rfl)⟩ ⟨by show (0 + 3) ≤ 5; omega, by show 6 * (0 + 3) ≤ 6 * 5; omega⟩ (fun E hz => ?_) (fun v hz => ?_)
        · subst hz
          have h : (if E = 3 then some ((-99999), S46) else if E = 1 then some ((-99999), S46) else if E = 2 then some ((-99999), S46) else none : Option (Int32 × Mem)) = some (r, S') := h
          by_cases e3 : E = 3
          · rw [if_pos e3] at h
            subst e3
            refine q_catch (E := 3) (pre := []) (suf := [⟨0, 129, 135, 50⟩, ⟨0, 129, 140, 52⟩]) (x := ⟨0, 129, 130, 47⟩) (pc' := 130) h0 hK hH rfl (fun q hq => nomatch hq) rfl (by decide) vl_413 vl_260 rfl (fun q9 => ?_)
            show LQ X (D1 g X) 7 (0 + 3) (pW g S46) [(0, .ref (wA (wC g) 7 0)), (1, .int x1), (2, .int x2), (3, .int x3), (4, .int x4), (5, .int x5)] 130 [.ref q9]
            refine l_astore (pc' := 132) (L' := [(6, .ref q9), (0, .ref (wA (wC g) 7 0)), (1, .int x1), (2, .int x2), (3, .int x3), (4, .int x4), (5, .int x5)]) h0 dL_does_130 (Nat.le_of_ble_eq_true rfl) rfl rfl ?_
            refine l_ldc (pc' := 134) h0 vl_730 dL_does_132 rfl ?_
            exact q_iret h0 hE dL_does_134 (by omega) h
          · rw [if_neg e3] at h
            by_cases e1 : E = 1
            · rw [if_pos e1] at h
              subst e1
              refine q_catch (E := 1) (pre := [⟨0, 129, 130, 47⟩]) (suf := [⟨0, 129, 140, 52⟩]) (x := ⟨0, 129, 135, 50⟩) (pc' := 135) h0 hK hH rfl (fun q hq => by simp only [List.mem_cons, List.not_mem_nil, or_false] at hq; subst hq; exact ⟨by decide, "java/lang/IndexOutOfBoundsException", vl_413, by decide +kernel⟩) rfl (by decide) vl_414 vl_426 rfl (fun q9 => ?_)
              show LQ X (D1 g X) 7 (0 + 3) (pW g S46) [(0, .ref (wA (wC g) 7 0)), (1, .int x1), (2, .int x2), (3, .int x3), (4, .int x4), (5, .int x5)] 135 [.ref q9]
              refine l_astore (pc' := 137) (L' := [(6, .ref q9), (0, .ref (wA (wC g) 7 0)), (1, .int x1), (2, .int x2), (3, .int x3), (4, .int x4), (5, .int x5)]) h0 dL_does_135 (Nat.le_of_ble_eq_true rfl) rfl rfl ?_
              refine l_ldc (pc' := 139) h0 vl_730 dL_does_137 rfl ?_
              exact q_iret h0 hE dL_does_139 (by omega) h
            · rw [if_neg e1] at h
              by_cases e2 : E = 2
              · rw [if_pos e2] at h
                subst e2
                refine q_catch (E := 2) (pre := [⟨0, 129, 130, 47⟩, ⟨0, 129, 135, 50⟩]) (suf := []) (x := ⟨0, 129, 140, 52⟩) (pc' := 140) h0 hK hH rfl (fun q hq => by simp only [List.mem_cons, List.not_mem_nil, or_false] at hq; rcases hq with rfl | rfl <;> first | exact ⟨by decide, "java/lang/IndexOutOfBoundsException", vl_413, by decide +kernel⟩ | exact ⟨by decide, "java/lang/IllegalArgumentException", vl_414, by decide +kernel⟩) rfl (by decide) vl_415 vl_446 rfl (fun q9 => ?_)
                show LQ X (D1 g X) 7 (0 + 3) (pW g S46) [(0, .ref (wA (wC g) 7 0)), (1, .int x1), (2, .int x2), (3, .int x3), (4, .int x4), (5, .int x5)] 140 [.ref q9]
                refine l_astore (pc' := 142) (L' := [(6, .ref q9), (0, .ref (wA (wC g) 7 0)), (1, .int x1), (2, .int x2), (3, .int x3), (4, .int x4), (5, .int x5)]) h0 dL_does_140 (Nat.le_of_ble_eq_true rfl) rfl rfl ?_
                refine l_ldc (pc' := 144) h0 vl_730 dL_does_142 rfl ?_
                exact q_iret h0 hE dL_does_144 (by omega) h
              · rw [if_neg e2] at h
                cases h
        · subst hz
          have h : (f_L_does_129 fu x1 x2 x3 x4 x5 v S46 : Option (Int32 × Mem)) = some (r, S') := h
          show LQ X (D1 g X) 7 (0 + 3) (pW g S46) [(0, .ref (wA (wC g) 7 0)), (1, .int x1), (2, .int x2), (3, .int x3), (4, .int x4), (5, .int x5)] 49 [.int v]
          refine l_goto (pc' := 129) h0 dL_does_49 rfl ?_
          refine l_sub (L' := []) [] rfl ?_
          exact w_L_does_129 h0 hK hH fu x1 x2 x3 x4 x5 hE (0 + 3) (by omega) v S46 h
    · refine l_aload_n (pc' := 24) h0 0 dL_does_23 rfl rfl rfl ?_
      refine l_iload_n (pc' := 25) h0 2 dL_does_24 rfl rfl rfl ?_
      refine l_iload_n (pc' := 26) h0 3 dL_does_25 rfl rfl rfl ?_
      refine l_iload (pc' := 28) h0 4 dL_does_26 rfl rfl ?_
      refine l_iload (pc' := 30) h0 5 dL_does_28 rfl rfl ?_
      obtain ⟨z30, S30, h30, h⟩ := b2_some h
      refine q_callXV (z := z30) (ov := oI) (n := 4) (pc' := 33) vl_469 vl_470 vl_471 vl_472 vl_28 ⟨by decide +kernel, by decide +kernel, by decide +kernel⟩ [.int x2, .int x3, .int x4, .int x5] [] h0 hK (stab_T g) (cx_X7_setConflict g fu x2 x3 x4 x5 S h30) rfl rfl dL_does_30 rfl (Nat.le_of_ble_eq_true rfl) ⟨rfl, rfl, (Nat.le_of_ble_eq_true rfl), (Nat.le_of_ble_eq_true rfl)⟩ ⟨by show (0 + 5) ≤ 5; omega, by show 6 * (0 + 5) ≤ 6 * 5; omega⟩ (fun E hz => ?_) (fun v hz => ?_)
      · subst hz
        have h : (if E = 3 then some ((-99999), S30) else if E = 1 then some ((-99999), S30) else if E = 2 then some ((-99999), S30) else none : Option (Int32 × Mem)) = some (r, S') := h
        by_cases e3 : E = 3
        · rw [if_pos e3] at h
          subst e3
          refine q_catch (E := 3) (pre := []) (suf := [⟨0, 129, 135, 50⟩, ⟨0, 129, 140, 52⟩]) (x := ⟨0, 129, 130, 47⟩) (pc' := 130) h0 hK hH rfl (fun q hq => nomatch hq) rfl (by decide) vl_413 vl_260 rfl (fun q9 => ?_)
          show LQ X (D1 g X) 7 (0 + 5) (pW g S30) [(0, .ref (wA (wC g) 7 0)), (1, .int x1), (2, .int x2), (3, .int x3), (4, .int x4), (5, .int x5)] 130 [.ref q9]
          refine l_astore (pc' := 132) (L' := [(6, .ref q9), (0, .ref (wA (wC g) 7 0)), (1, .int x1), (2, .int x2), (3, .int x3), (4, .int x4), (5, .int x5)]) h0 dL_does_130 (Nat.le_of_ble_eq_true rfl) rfl rfl ?_
          refine l_ldc (pc' := 134) h0 vl_730 dL_does_132 rfl ?_
          exact q_iret h0 hE dL_does_134 (by omega) h
        · rw [if_neg e3] at h
          by_cases e1 : E = 1
          · rw [if_pos e1] at h
            subst e1
            refine q_catch (E := 1) (pre := [⟨0, 129, 130, 47⟩]) (suf := [⟨0, 129, 140, 52⟩]) (x := ⟨0, 129, 135, 50⟩) (pc' := 135) h0 hK hH rfl (fun q hq => by simp only [List.mem_cons, List.not_mem_nil, or_false] at hq; subst hq; exact ⟨by decide, "java/lang/IndexOutOfBoundsException", vl_413, by decide +kernel⟩) rfl (by decide) vl_414 vl_426 rfl (fun q9 => ?_)
            show LQ X (D1 g X) 7 (0 + 5) (pW g S30) [(0, .ref (wA (wC g) 7 0)), (1, .int x1), (2, .int x2), (3, .int x3), (4, .int x4), (5, .int x5)] 135 [.ref q9]
            refine l_astore (pc' := 137) (L' := [(6, .ref q9), (0, .ref (wA (wC g) 7 0)), (1, .int x1), (2, .int x2), (3, .int x3), (4, .int x4), (5, .int x5)]) h0 dL_does_135 (Nat.le_of_ble_eq_true rfl) rfl rfl ?_
            refine l_ldc (pc' := 139) h0 vl_730 dL_does_137 rfl ?_
            exact q_iret h0 hE dL_does_139 (by omega) h
          · rw [if_neg e1] at h
            by_cases e2 : E = 2
            · rw [if_pos e2] at h
              subst e2
              refine q_catch (E := 2) (pre := [⟨0, 129, 130, 47⟩, ⟨0, 129, 135, 50⟩]) (suf := []) (x := ⟨0, 129, 140, 52⟩) (pc' := 140) h0 hK hH rfl (fun q hq => by simp only [List.mem_cons, List.not_mem_nil, or_false] at hq; rcases hq with rfl | rfl <;> first | exact ⟨by decide, "java/lang/IndexOutOfBoundsException", vl_413, by decide +kernel⟩ | exact ⟨by decide, "java/lang/IllegalArgumentException", vl_414, by decide +kernel⟩) rfl (by decide) vl_415 vl_446 rfl (fun q9 => ?_)
              show LQ X (D1 g X) 7 (0 + 5) (pW g S30) [(0, .ref (wA (wC g) 7 0)), (1, .int x1), (2, .int x2), (3, .int x3), (4, .int x4), (5, .int x5)] 140 [.ref q9]
              refine l_astore (pc' := 142) (L' := [(6, .ref q9), (0, .ref (wA (wC g) 7 0)), (1, .int x1), (2, .int x2), (3, .int x3), (4, .int x4), (5, .int x5)]) h0 dL_does_140 (Nat.le_of_ble_eq_true rfl) rfl rfl ?_
              refine l_ldc (pc' := 144) h0 vl_730 dL_does_142 rfl ?_
              exact q_iret h0 hE dL_does_144 (by omega) h
            · rw [if_neg e2] at h
              cases h
      · subst hz
        have h : (f_L_does_129 fu x1 x2 x3 x4 x5 v S30 : Option (Int32 × Mem)) = some (r, S') := h
        show LQ X (D1 g X) 7 (0 + 5) (pW g S30) [(0, .ref (wA (wC g) 7 0)), (1, .int x1), (2, .int x2), (3, .int x3), (4, .int x4), (5, .int x5)] 33 [.int v]
        refine l_goto (pc' := 129) h0 dL_does_33 rfl ?_
        refine l_sub (L' := []) [] rfl ?_
        exact w_L_does_129 h0 hK hH fu x1 x2 x3 x4 x5 hE (0 + 5) (by omega) v S30 h
  · refine l_aload_n (pc' := 5) h0 0 dL_does_4 rfl rfl rfl ?_
    refine l_iload_n (pc' := 6) h0 2 dL_does_5 rfl rfl rfl ?_
    refine l_iload_n (pc' := 7) h0 3 dL_does_6 rfl rfl rfl ?_
    refine l_iload (pc' := 9) h0 4 dL_does_7 rfl rfl ?_
    refine l_iload (pc' := 11) h0 5 dL_does_9 rfl rfl ?_
    refine l_iconst (pc' := 12) h0 dL_does_11 ki_0 rfl ?_
    obtain ⟨z12, S12, h12, h⟩ := b2_some h
    refine q_callXV (z := z12) (ov := oI) (n := 5) (pc' := 15) vl_416 vl_417 vl_418 vl_419 vl_28 ⟨by decide +kernel, by decide +kernel, by decide +kernel⟩ [.int x2, .int x3, .int x4, .int x5, .int 0] [] h0 hK (stab_T g) (cx_X7_setPhases g fu x2 x3 x4 x5 0 S h12) rfl rfl dL_does_12 rfl (Nat.le_of_ble_eq_true rfl) ⟨rfl, rfl, (Nat.le_of_ble_eq_true rfl), (Nat.le_of_ble_eq_true rfl)⟩ ⟨by show (0 + 3) ≤ 5; omega, by show 6 * (0 + 3) ≤ 6 * 5; omega⟩ (fun E hz => ?_) (fun v hz => ?_)
    · subst hz
      have h : (if E = 3 then some ((-99999), S12) else if E = 1 then some ((-99999), S12) else if E = 2 then some ((-99999), S12) else none : Option (Int32 × Mem)) = some (r, S') := h
      by_cases e3 : E = 3
      · rw [if_pos e3] at h
        subst e3
        refine q_catch (E := 3) (pre := []) (suf := [⟨0, 129, 135, 50⟩, ⟨0, 129, 140, 52⟩]) (x := ⟨0, 129, 130, 47⟩) (pc' := 130) h0 hK hH rfl (fun q hq => nomatch hq) rfl (by decide) vl_413 vl_260 rfl (fun q9 => ?_)
        show LQ X (D1 g X) 7 (0 + 3) (pW g S12) [(0, .ref (wA (wC g) 7 0)), (1, .int x1), (2, .int x2), (3, .int x3), (4, .int x4), (5, .int x5)] 130 [.ref q9]
        refine l_astore (pc' := 132) (L' := [(6, .ref q9), (0, .ref (wA (wC g) 7 0)), (1, .int x1), (2, .int x2), (3, .int x3), (4, .int x4), (5, .int x5)]) h0 dL_does_130 (Nat.le_of_ble_eq_true rfl) rfl rfl ?_
        refine l_ldc (pc' := 134) h0 vl_730 dL_does_132 rfl ?_
        exact q_iret h0 hE dL_does_134 (by omega) h
      · rw [if_neg e3] at h
        by_cases e1 : E = 1
        · rw [if_pos e1] at h
          subst e1
          refine q_catch (E := 1) (pre := [⟨0, 129, 130, 47⟩]) (suf := [⟨0, 129, 140, 52⟩]) (x := ⟨0, 129, 135, 50⟩) (pc' := 135) h0 hK hH rfl (fun q hq => by simp only [List.mem_cons, List.not_mem_nil, or_false] at hq; subst hq; exact ⟨by decide, "java/lang/IndexOutOfBoundsException", vl_413, by decide +kernel⟩) rfl (by decide) vl_414 vl_426 rfl (fun q9 => ?_)
          show LQ X (D1 g X) 7 (0 + 3) (pW g S12) [(0, .ref (wA (wC g) 7 0)), (1, .int x1), (2, .int x2), (3, .int x3), (4, .int x4), (5, .int x5)] 135 [.ref q9]
          refine l_astore (pc' := 137) (L' := [(6, .ref q9), (0, .ref (wA (wC g) 7 0)), (1, .int x1), (2, .int x2), (3, .int x3), (4, .int x4), (5, .int x5)]) h0 dL_does_135 (Nat.le_of_ble_eq_true rfl) rfl rfl ?_
          refine l_ldc (pc' := 139) h0 vl_730 dL_does_137 rfl ?_
          exact q_iret h0 hE dL_does_139 (by omega) h
        · rw [if_neg e1] at h
          by_cases e2 : E = 2
          · rw [if_pos e2] at h
            subst e2
            refine q_catch (E := 2) (pre := [⟨0, 129, 130, 47⟩, ⟨0, 129, 135, 50⟩]) (suf := []) (x := ⟨0, 129, 140, 52⟩) (pc' := 140) h0 hK hH rfl (fun q hq => by simp only [List.mem_cons, List.not_mem_nil, or_false] at hq; rcases hq with rfl | rfl <;> first | exact ⟨by decide, "java/lang/IndexOutOfBoundsException", vl_413, by decide +kernel⟩ | exact ⟨by decide, "java/lang/IllegalArgumentException", vl_414, by decide +kernel⟩) rfl (by decide) vl_415 vl_446 rfl (fun q9 => ?_)
            show LQ X (D1 g X) 7 (0 + 3) (pW g S12) [(0, .ref (wA (wC g) 7 0)), (1, .int x1), (2, .int x2), (3, .int x3), (4, .int x4), (5, .int x5)] 140 [.ref q9]
            refine l_astore (pc' := 142) (L' := [(6, .ref q9), (0, .ref (wA (wC g) 7 0)), (1, .int x1), (2, .int x2), (3, .int x3), (4, .int x4), (5, .int x5)]) h0 dL_does_140 (Nat.le_of_ble_eq_true rfl) rfl rfl ?_
            refine l_ldc (pc' := 144) h0 vl_730 dL_does_142 rfl ?_
            exact q_iret h0 hE dL_does_144 (by omega) h
          · rw [if_neg e2] at h
            cases h
    · subst hz
      have h : (f_L_does_129 fu x1 x2 x3 x4 x5 v S12 : Option (Int32 × Mem)) = some (r, S') := h
      show LQ X (D1 g X) 7 (0 + 3) (pW g S12) [(0, .ref (wA (wC g) 7 0)), (1, .int x1), (2, .int x2), (3, .int x3), (4, .int x4), (5, .int x5)] 15 [.int v]
      refine l_goto (pc' := 129) h0 dL_does_15 rfl ?_
      refine l_sub (L' := []) [] rfl ?_
      exact w_L_does_129 h0 hK hH fu x1 x2 x3 x4 x5 hE (0 + 3) (by omega) v S12 h
