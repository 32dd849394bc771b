theorem wx_X1_at_30 {g : GC} {X : MX} {r : (Nat ⊕ Nat)}  (h0 : CX RX1 cX1_at 2 rx_X1_at X (wC g)) (hX : CXX X (wC g)) (fu : Nat) (x1 : Int32) (S : Mem) (hE : ENX (some (.object "Greenwave$Junction")) (tOf r) (oOf (oR (wC g) 3) r) S 1 6 X (wC g)) : fx_X1_at_30 fu x1 S = some r → GV X (wC g) 2 0 0 S [] 30 [] := by
  intro  h
  rw [fx_X1_at_30] at h
  exact x_throw (text := "no such junction") (thAt.ok th_X1_37 (by decide +kernel)) h0 hX hE dX1_at_30 dX1_at_33 dX1_at_34 dX1_at_36 dX1_at_39 (Nat.le_of_ble_eq_true rfl) ⟨Nat.le_of_ble_eq_true rfl, Nat.le_of_ble_eq_true rfl⟩ ⟨Nat.le_of_ble_eq_true rfl, Nat.le_of_ble_eq_true rfl⟩ ⟨Nat.le_of_ble_eq_true rfl, Nat.le_of_ble_eq_true rfl⟩ (by cases h; exact ⟨rfl, rfl⟩)
/-- the machine does what fx_X1_at says -/
theorem cx_X1_at (g : GC) (fu : Nat) (x1 : Int32) (S : Mem) {r : (Nat ⊕ Nat)}  (h : fx_X1_at fu x1 S = some r) : ctX yX1_at cX1_at 2 (some (.object "Greenwave$Junction")) rx_X1_at 1 6 (wC g) [.ref (wA (wC g) 1 0), .int x1] S (tOf r) (oOf (oR (wC g) 3) r) S := by
  refine ctx_of (own := RX1) (L := [(0, .ref (wA (wC g) 1 0)), (1, .int x1)]) (by decide +kernel) rfl (Nat.le_of_ble_eq_true rfl) rfl (fun X h0 hX hE => ?_)
  rw [fx_X1_at] at h
  refine r_iload_n (pc' := 1) h0 1 dX1_at_0 rfl rfl rfl ?_
  refine r_if_lt (pt := 30) (pf := 4) h0 dX1_at_1 rfl rfl h (fun c1 h => ?_) (fun c1 h => ?_)
  · refine r_sub (L' := []) [] rfl ?_
    exact wx_X1_at_30 h0 hX fu x1 S hE h
  · refine r_iload_n (pc' := 5) h0 1 dX1_at_4 rfl rfl rfl ?_
    refine r_aload_n (pc' := 6) h0 0 dX1_at_5 rfl rfl rfl ?_
    refine gf_X1_18 (pc' := 9) h0 (Nat.le_of_ble_eq_true rfl) dX1_at_6 rfl ?_
    refine r_ic_ge (pt := 30) (pf := 12) h0 dX1_at_9 rfl rfl h (fun c9 h => ?_) (fun c9 h => ?_)
    · refine r_sub (L' := []) [] rfl ?_
      exact wx_X1_at_30 h0 hX fu x1 S hE h
    · refine r_iload_n (pc' := 13) h0 1 dX1_at_12 rfl rfl rfl ?_
      refine r_aload_n (pc' := 14) h0 0 dX1_at_13 rfl rfl rfl ?_
      refine gf_X1_11 (pc' := 17) h0 (Nat.le_of_ble_eq_true rfl) dX1_at_14 rfl ?_
      refine r_alen (pc' := 18) (v := nI 5) h0 1 (Nat.le_of_ble_eq_true rfl) rfl rfl rfl dX1_at_17 rfl ?_
      refine r_ic_ge (pt := 30) (pf := 21) h0 dX1_at_18 rfl rfl h (fun c18 h => ?_) (fun c18 h => ?_)
      · refine r_sub (L' := []) [] rfl ?_
        exact wx_X1_at_30 h0 hX fu x1 S hE h
      · refine r_aload_n (pc' := 22) h0 0 dX1_at_21 rfl rfl rfl ?_
        refine gf_X1_11 (pc' := 25) h0 (Nat.le_of_ble_eq_true rfl) dX1_at_22 rfl ?_
        refine r_iload_n (pc' := 26) h0 1 dX1_at_25 rfl rfl rfl ?_
        refine r_aald (pc' := 27) (cq := 3) h0 1 (Nat.le_of_ble_eq_true rfl) rfl rfl dX1_at_26 rfl h (fun h hj26 => ?_)
        refine r_ifnonnull (pt := 40) h0 dX1_at_27 rfl ?_
        refine r_aload_n (pc' := 41) h0 0 dX1_at_40 rfl rfl rfl ?_
        refine gf_X1_11 (pc' := 44) h0 (Nat.le_of_ble_eq_true rfl) dX1_at_41 rfl ?_
        refine r_iload_n (pc' := 45) h0 1 dX1_at_44 rfl rfl rfl ?_
        refine r_aald (pc' := 46) (cq := 3) h0 1 (Nat.le_of_ble_eq_true rfl) rfl rfl dX1_at_45 rfl h (fun h hj45 => ?_)
        exact x_aret h0 hE dX1_at_46 ⟨Nat.le_of_ble_eq_true rfl, Nat.le_of_ble_eq_true rfl⟩ (by cases h; exact ⟨rfl, rfl, rfl⟩)
/-- the machine does what fx_X1_linkFrom says -/
theorem cx_X1_linkFrom (g : GC) (fu : Nat) (x1 : Int32) (S : Mem) {r : (Nat ⊕ Nat)}  (h : fx_X1_linkFrom fu x1 S = some r) : ctX yX1_linkFrom cX1_linkFrom 3 (some (.object "Greenwave$Link")) rx_X1_linkFrom 2 12 (wC g) [.ref (wA (wC g) 1 0), .int x1] S (tOf r) (oOf (oR (wC g) 4) r) S := by
  refine ctx_of (own := RX1) (L := [(0, .ref (wA (wC g) 1 0)), (1, .int x1)]) (by decide +kernel) rfl (Nat.le_of_ble_eq_true rfl) rfl (fun X h0 hX hE => ?_)
  rw [fx_X1_linkFrom] at h
  refine r_aload_n (pc' := 1) h0 0 dX1_linkFrom_0 rfl rfl rfl ?_
  refine r_iload_n (pc' := 2) h0 1 dX1_linkFrom_1 rfl rfl rfl ?_
  refine gx_V (n := 1) (ov := (oR (wC g) 3)) (pc' := 5) (ob_1 g) v_254 v_255 v_256 v_257 v_29 ⟨by decide +kernel, by decide +kernel, by decide +kernel⟩ [.int x1] [] h0 hX hE (Nat.le_of_ble_eq_true rfl) (fun za hza => cx_X1_at g fu x1 S hza) rfl rfl dX1_linkFrom_2 rfl (Nat.le_of_ble_eq_true rfl) ⟨rfl, rfl, Nat.le_of_ble_eq_true rfl, Nat.le_of_ble_eq_true rfl⟩ ⟨Nat.le_of_ble_eq_true rfl, Nat.le_of_ble_eq_true rfl⟩ ⟨Nat.le_of_ble_eq_true rfl, Nat.le_of_ble_eq_true rfl⟩ h (fun E e => by cases e; exact ⟨rfl, rfl⟩) (fun r2 h h2 => ?_)
  show GV X (wC g) 3 1 6 S [(0, .ref (wA (wC g) 1 0)), (1, .int x1)] 5 [.ref (wA (wC g) 3 r2)]
  refine r_astore_n (pc' := 6) (L' := [(2, .ref (wA (wC g) 3 r2)), (0, .ref (wA (wC g) 1 0)), (1, .int x1)]) h0 dX1_linkFrom_5 rfl (Nat.le_of_ble_eq_true rfl) rfl rfl ?_
  refine r_aload_n (pc' := 7) h0 1 dX1_linkFrom_6 rfl rfl rfl ?_
  refine r_iload_n (pc' := 8) h0 2 dX1_linkFrom_7 rfl rfl rfl ?_
  obtain ⟨r8, h8, h⟩ := b1_some h
  refine go_V (k_X1_40 g) (st2 := [.int r8]) (pc' := 11) [.int x1] [] h0 (Nat.le_of_ble_eq_true rfl) (c_X1_isLast g fu x1 S h8) rfl rfl dX1_linkFrom_8 rfl (Nat.le_of_ble_eq_true rfl) ⟨rfl, rfl, Nat.le_of_ble_eq_true rfl, Nat.le_of_ble_eq_true rfl⟩ ⟨Nat.le_of_ble_eq_true rfl, Nat.le_of_ble_eq_true rfl⟩ rfl ?_
  refine r_if_eq (pt := 24) (pf := 14) h0 dX1_linkFrom_11 rfl rfl h (fun c11 h => ?_) (fun c11 h => ?_)
  · refine r_aload_n (pc' := 25) h0 0 dX1_linkFrom_24 rfl rfl rfl ?_
    refine gf_X1_46 (pc' := 28) h0 (bx_X1_at h2) dX1_linkFrom_25 rfl ?_
    exact x_aret h0 hE dX1_linkFrom_28 ⟨Nat.le_of_ble_eq_true rfl, Nat.le_of_ble_eq_true rfl⟩ (by cases h; exact ⟨rfl, rfl, rfl⟩)
  · exact x_throw (text := "no link behind the last junction") (thAt.ok th_X1_37 (by decide +kernel)) h0 hX hE dX1_linkFrom_14 dX1_linkFrom_17 dX1_linkFrom_18 dX1_linkFrom_20 dX1_linkFrom_23 (Nat.le_of_ble_eq_true rfl) ⟨Nat.le_of_ble_eq_true rfl, Nat.le_of_ble_eq_true rfl⟩ ⟨Nat.le_of_ble_eq_true rfl, Nat.le_of_ble_eq_true rfl⟩ ⟨Nat.le_of_ble_eq_true rfl, Nat.le_of_ble_eq_true rfl⟩ (by cases h; exact ⟨rfl, rfl⟩)
/-- the machine does what fx_X1_vehiclesOnLinkFrom says -/
theorem cx_X1_vehiclesOnLinkFrom (g : GC) (fu : Nat) (x1 : Int32) (S : Mem) {r : (Nat ⊕ Int32)}  (h : fx_X1_vehiclesOnLinkFrom fu x1 S = some r) : ctX yX1_vehiclesOnLinkFrom cX1_vehiclesOnLinkFrom 2 (some .int) rx_X1_vehiclesOnLinkFrom 3 18 (wC g) [.ref (wA (wC g) 1 0), .int x1] S (tOf r) (oOf oI r) S := by
  refine ctx_of (own := RX1) (L := [(0, .ref (wA (wC g) 1 0)), (1, .int x1)]) (by decide +kernel) rfl (Nat.le_of_ble_eq_true rfl) rfl (fun X h0 hX hE => ?_)
  rw [fx_X1_vehiclesOnLinkFrom] at h
  refine r_aload_n (pc' := 1) h0 0 dX1_vehiclesOnLinkFrom_0 rfl rfl rfl ?_
  refine r_iload_n (pc' := 2) h0 1 dX1_vehiclesOnLinkFrom_1 rfl rfl rfl ?_
  refine gx_V (n := 1) (ov := (oR (wC g) 4)) (pc' := 5) (ob_1 g) v_596 v_515 v_516 v_517 v_29 ⟨by decide +kernel, by decide +kernel, by decide +kernel⟩ [.int x1] [] h0 hX hE (Nat.le_of_ble_eq_true rfl) (fun za hza => cx_X1_linkFrom g fu x1 S hza) rfl rfl dX1_vehiclesOnLinkFrom_2 rfl (Nat.le_of_ble_eq_true rfl) ⟨rfl, rfl, Nat.le_of_ble_eq_true rfl, Nat.le_of_ble_eq_true rfl⟩ ⟨Nat.le_of_ble_eq_true rfl, Nat.le_of_ble_eq_true rfl⟩ ⟨Nat.le_of_ble_eq_true rfl, Nat.le_of_ble_eq_true rfl⟩ h (fun E e => by cases e; exact ⟨rfl, rfl⟩) (fun r2 h h2 => ?_)
  show GV X (wC g) 2 2 12 S [(0, .ref (wA (wC g) 1 0)), (1, .int x1)] 5 [.ref (wA (wC g) 4 r2)]
  refine gf_X1_54 (pc' := 8) h0 (bx_X1_linkFrom h2) dX1_vehiclesOnLinkFrom_5 rfl ?_
  refine r_aload_n (pc' := 9) h0 0 dX1_vehiclesOnLinkFrom_8 rfl rfl rfl ?_
  refine r_iload_n (pc' := 10) h0 1 dX1_vehiclesOnLinkFrom_9 rfl rfl rfl ?_
  refine r_iconst (pc' := 11) h0 dX1_vehiclesOnLinkFrom_10 ki_1 rfl ?_
  refine r_iadd (pc' := 12) h0 dX1_vehiclesOnLinkFrom_11 rfl ?_
  refine gx_V (n := 1) (ov := (oR (wC g) 3)) (pc' := 15) (ob_1 g) v_254 v_255 v_256 v_257 v_29 ⟨by decide +kernel, by decide +kernel, by decide +kernel⟩ [.int (x1 + 1)] [.int (S.1 4 r2 3)] h0 hX hE (Nat.le_of_ble_eq_true rfl) (fun za hza => cx_X1_at g fu (x1 + 1) S hza) rfl rfl dX1_vehiclesOnLinkFrom_12 rfl (Nat.le_of_ble_eq_true rfl) ⟨rfl, rfl, Nat.le_of_ble_eq_true rfl, Nat.le_of_ble_eq_true rfl⟩ ⟨Nat.le_of_ble_eq_true rfl, Nat.le_of_ble_eq_true rfl⟩ ⟨Nat.le_of_ble_eq_true rfl, Nat.le_of_ble_eq_true rfl⟩ h (fun E e => by cases e; exact ⟨rfl, rfl⟩) (fun r12 h h12 => ?_)
  show GV X (wC g) 2 3 18 S [(0, .ref (wA (wC g) 1 0)), (1, .int x1)] 15 [.ref (wA (wC g) 3 r12), .int (S.1 4 r2 3)]
  refine gf_X1_59 (pc' := 18) h0 (bx_X1_at h12) dX1_vehiclesOnLinkFrom_15 rfl ?_
  refine r_iadd (pc' := 19) h0 dX1_vehiclesOnLinkFrom_18 rfl ?_
  exact x_iret h0 hE dX1_vehiclesOnLinkFrom_19 ⟨Nat.le_of_ble_eq_true rfl, Nat.le_of_ble_eq_true rfl⟩ (by cases h; exact ⟨rfl, rfl, rfl⟩)
/-- the machine does what fx_X7_checkPlans says -/
theorem cx_X7_checkPlans (g : GC) (fu : Nat) (S : Mem) {r : (Nat ⊕ Unit)}  (h : fx_X7_checkPlans fu S = some r) : ctX yX7_checkPlans cX7_checkPlans 1 none rx_X7_checkPlans 1 6 (wC g) [.ref (wA (wC g) 7 0)] S (tOf r) (oOf oU r) S := by
  refine ctx_of (own := RX7) (L := [(0, .ref (wA (wC g) 7 0))]) (by decide +kernel) rfl (Nat.le_of_ble_eq_true rfl) rfl (fun X h0 hX hE => ?_)
  rw [fx_X7_checkPlans] at h
  refine r_aload_n (pc' := 1) h0 0 dX7_checkPlans_0 rfl rfl rfl ?_
  refine gf_X7_10 (pc' := 4) h0 (Nat.le_of_ble_eq_true rfl) dX7_checkPlans_1 rfl ?_
  obtain ⟨r4, h4, h⟩ := b1_some h
  refine go_V (k_X7_220 g) (st2 := [.int r4]) (pc' := 7) [] [] h0 (Nat.le_of_ble_eq_true rfl) (c_X1_isPlanned g fu S h4) rfl rfl dX7_checkPlans_4 rfl (Nat.le_of_ble_eq_true rfl) ⟨rfl, rfl, Nat.le_of_ble_eq_true rfl, Nat.le_of_ble_eq_true rfl⟩ ⟨Nat.le_of_ble_eq_true rfl, Nat.le_of_ble_eq_true rfl⟩ rfl ?_
  refine r_if_ne (pt := 20) (pf := 10) h0 dX7_checkPlans_7 rfl rfl h (fun c7 h => ?_) (fun c7 h => ?_)
  · exact x_vret h0 hE dX7_checkPlans_20 ⟨Nat.le_of_ble_eq_true rfl, Nat.le_of_ble_eq_true rfl⟩ (by cases h; exact ⟨rfl, rfl, rfl⟩)
  · exact x_throw (text := "a junction has no plan") (thAt.ok th_X7_72 (by decide +kernel)) h0 hX hE dX7_checkPlans_10 dX7_checkPlans_13 dX7_checkPlans_14 dX7_checkPlans_16 dX7_checkPlans_19 (Nat.le_of_ble_eq_true rfl) ⟨Nat.le_of_ble_eq_true rfl, Nat.le_of_ble_eq_true rfl⟩ ⟨Nat.le_of_ble_eq_true rfl, Nat.le_of_ble_eq_true rfl⟩ ⟨Nat.le_of_ble_eq_true rfl, Nat.le_of_ble_eq_true rfl⟩ (by cases h; exact ⟨rfl, rfl⟩)
/-- the machine does what fx_X7_band says -/
theorem cx_X7_band (g : GC) (fu : Nat) (x1 : Int32) (S : Mem) {r : (Nat ⊕ Int32)} {S' : Mem} (h : fx_X7_band fu x1 S = some (r, S')) : ctX yX7_band cX7_band 2 (some .int) rx_X7_band 1 6 (wC g) [.ref (wA (wC g) 7 0), .int x1] S (tOf r) (oOf oI r) S' := by
  refine ctx_of (own := RX7) (L := [(0, .ref (wA (wC g) 7 0)), (1, .int x1)]) (by decide +kernel) rfl (Nat.le_of_ble_eq_true rfl) rfl (fun X h0 hX hE => ?_)
  rw [fx_X7_band] at h
  refine r_aload_n (pc' := 1) h0 0 dX7_band_0 rfl rfl rfl ?_
  refine gx_V (n := 0) (ov := oU) (pc' := 4) (ob_7 g) v_529 v_531 v_10 v_532 v_28 ⟨by decide +kernel, by decide +kernel, by decide +kernel⟩ [] [] h0 hX hE (Nat.le_of_ble_eq_true rfl) (fun za hza => cx_X7_checkPlans g fu S hza) rfl rfl dX7_band_1 rfl (Nat.le_of_ble_eq_true rfl) ⟨rfl, rfl, Nat.le_of_ble_eq_true rfl, Nat.le_of_ble_eq_true rfl⟩ ⟨Nat.le_of_ble_eq_true rfl, Nat.le_of_ble_eq_true rfl⟩ ⟨Nat.le_of_ble_eq_true rfl, Nat.le_of_ble_eq_true rfl⟩ h (fun E e => by cases e; exact ⟨rfl, rfl⟩) (fun r1 h h1 => ?_)
  show GV X (wC g) 2 1 6 S [(0, .ref (wA (wC g) 7 0)), (1, .int x1)] 4 []
  refine r_aload_n (pc' := 5) h0 0 dX7_band_4 rfl rfl rfl ?_
  refine gf_X7_21 (pc' := 8) h0 (Nat.le_of_ble_eq_true rfl) dX7_band_5 rfl ?_
  refine r_iload_n (pc' := 9) h0 1 dX7_band_8 rfl rfl rfl ?_
  obtain ⟨r9, S9, h9, h⟩ := b2_some h
  refine go_V (k_X7_168 g) (st2 := [.int r9]) (pc' := 12) [.int x1] [] h0 (Nat.le_of_ble_eq_true rfl) (c_X0_width g fu x1 S h9) rfl rfl dX7_band_9 rfl (Nat.le_of_ble_eq_true rfl) ⟨rfl, rfl, Nat.le_of_ble_eq_true rfl, Nat.le_of_ble_eq_true rfl⟩ ⟨Nat.le_of_ble_eq_true rfl, Nat.le_of_ble_eq_true rfl⟩ rfl ?_
  exact x_iret h0 hE dX7_band_12 ⟨Nat.le_of_ble_eq_true rfl, Nat.le_of_ble_eq_true rfl⟩ (by cases h; exact ⟨rfl, rfl, rfl⟩)
theorem wx_X7_begin_20 {g : GC} {X : MX} {r : (Nat ⊕ Unit)} {S' : Mem} (h0 : CX RX7 cX7_begin 3 rx_X7_begin X (wC g)) (hX : CXX X (wC g)) (fu : Nat) (x1 : Int32) (x2 : Int32) (hE : ENX none (tOf r) (oOf oU r) S' 1 6 X (wC g)) : ∀ (S : Mem), fx_X7_begin_20 fu x1 x2 S = some (r, S') → GV X (wC g) 3 0 0 S [] 20 [] := by
  intro S h
  rw [fx_X7_begin_20] at h
  exact x_throw (text := "junctions or cycle out of range") (thAt.ok th_X7_44 (by decide +kernel)) h0 hX hE dX7_begin_20 dX7_begin_23 dX7_begin_24 dX7_begin_26 dX7_begin_29 (Nat.le_of_ble_eq_true rfl) ⟨Nat.le_of_ble_eq_true rfl, Nat.le_of_ble_eq_true rfl⟩ ⟨Nat.le_of_ble_eq_true rfl, Nat.le_of_ble_eq_true rfl⟩ ⟨Nat.le_of_ble_eq_true rfl, Nat.le_of_ble_eq_true rfl⟩ (by cases h; exact ⟨rfl, rfl⟩)
/-- the machine does what fx_X7_begin says -/
theorem cx_X7_begin (g : GC) (fu : Nat) (x1 : Int32) (x2 : Int32) (S : Mem) {r : (Nat ⊕ Unit)} {S' : Mem} (h : fx_X7_begin fu x1 x2 S = some (r, S')) : ctX yX7_begin cX7_begin 3 none rx_X7_begin 1 6 (wC g) [.ref (wA (wC g) 7 0), .int x1, .int x2] S (tOf r) (oOf oU r) S' := by
  refine ctx_of (own := RX7) (L := [(0, .ref (wA (wC g) 7 0)), (1, .int x1), (2, .int x2)]) (by decide +kernel) rfl (Nat.le_of_ble_eq_true rfl) rfl (fun X h0 hX hE => ?_)
  rw [fx_X7_begin] at h
  refine r_iload_n (pc' := 1) h0 1 dX7_begin_0 rfl rfl rfl ?_
  refine r_iconst (pc' := 2) h0 dX7_begin_1 ki_2 rfl ?_
  refine r_iconst (pc' := 3) h0 dX7_begin_2 ki_5 rfl ?_
  obtain ⟨r3, h3, h⟩ := b1_some h
  refine go_S (k_X7_36 g) (st2 := [.int r3]) (pc' := 6) [.int x1, .int 2, .int 5] [] h0 (c_X7_isOutside g fu x1 2 5 S h3) rfl rfl dX7_begin_3 rfl (Nat.le_of_ble_eq_true rfl) ⟨rfl, rfl, Nat.le_of_ble_eq_true rfl, Nat.le_of_ble_eq_true rfl⟩ ⟨Nat.le_of_ble_eq_true rfl, Nat.le_of_ble_eq_true rfl⟩ rfl ?_
  refine r_if_ne (pt := 20) (pf := 9) h0 dX7_begin_6 rfl rfl h (fun c6 h => ?_) (fun c6 h => ?_)
  · refine r_sub (L' := []) [] rfl ?_
    exact wx_X7_begin_20 h0 hX fu x1 x2 hE S h
  · refine r_iload_n (pc' := 10) h0 2 dX7_begin_9 rfl rfl rfl ?_
    refine r_bipush (pc' := 12) h0 dX7_begin_10 kb_30 rfl ?_
    refine r_bipush (pc' := 14) h0 dX7_begin_12 kb_90 rfl ?_
    obtain ⟨r14, h14, h⟩ := b1_some h
    refine go_S (k_X7_36 g) (st2 := [.int r14]) (pc' := 17) [.int x2, .int 30, .int 90] [] h0 (c_X7_isOutside g fu x2 30 90 S h14) rfl rfl dX7_begin_14 rfl (Nat.le_of_ble_eq_true rfl) ⟨rfl, rfl, Nat.le_of_ble_eq_true rfl, Nat.le_of_ble_eq_true rfl⟩ ⟨Nat.le_of_ble_eq_true rfl, Nat.le_of_ble_eq_true rfl⟩ rfl ?_
    refine r_if_eq (pt := 30) (pf := 20) h0 dX7_begin_17 rfl rfl h (fun c17 h => ?_) (fun c17 h => ?_)
    · refine r_aload_n (pc' := 31) h0 0 dX7_begin_30 rfl rfl rfl ?_
      refine gf_X7_10 (pc' := 34) h0 (Nat.le_of_ble_eq_true rfl) dX7_begin_31 rfl ?_
      refine r_iload_n (pc' := 35) h0 1 dX7_begin_34 rfl rfl rfl ?_
      refine r_iload_n (pc' := 36) h0 2 dX7_begin_35 rfl rfl rfl ?_
      obtain ⟨r36, S36, h36, h⟩ := b2_some h
      refine go_V (k_X7_32 g) (st2 := []) (pc' := 39) [.int x1, .int x2] [] h0 (Nat.le_of_ble_eq_true rfl) (c_X1_reset g fu x1 x2 S h36) rfl rfl dX7_begin_36 rfl (Nat.le_of_ble_eq_true rfl) ⟨rfl, rfl, Nat.le_of_ble_eq_true rfl, Nat.le_of_ble_eq_true rfl⟩ ⟨Nat.le_of_ble_eq_true rfl, Nat.le_of_ble_eq_true rfl⟩ rfl ?_
      refine r_aload_n (pc' := 40) h0 0 dX7_begin_39 rfl rfl rfl ?_
      refine gf_X7_28 (pc' := 43) h0 (Nat.le_of_ble_eq_true rfl) dX7_begin_40 rfl ?_
      obtain ⟨r43, S43, h43, h⟩ := b2_some h
      refine go_V (k_X7_47 g) (st2 := []) (pc' := 46) [] [] h0 (Nat.le_of_ble_eq_true rfl) (c_X6_reset g fu S36 h43) rfl rfl dX7_begin_43 rfl (Nat.le_of_ble_eq_true rfl) ⟨rfl, rfl, Nat.le_of_ble_eq_true rfl, Nat.le_of_ble_eq_true rfl⟩ ⟨Nat.le_of_ble_eq_true rfl, Nat.le_of_ble_eq_true rfl⟩ rfl ?_
      exact x_vret h0 hE dX7_begin_46 ⟨Nat.le_of_ble_eq_true rfl, Nat.le_of_ble_eq_true rfl⟩ (by cases h; exact ⟨rfl, rfl, rfl⟩)
    · refine r_sub (L' := []) [] rfl ?_
      exact wx_X7_begin_20 h0 hX fu x1 x2 hE S h
theorem wx_X7_checkMovement_9 {g : GC} {X : MX} {r : (Nat ⊕ Unit)}  (h0 : CX RX7 cX7_checkMovement 1 rx_X7_checkMovement X (wC g)) (hX : CXX X (wC g)) (fu : Nat) (x0 : Int32) (S : Mem) (hE : ENX none (tOf r) (oOf oU r) S 1 6 X (wC g)) : fx_X7_checkMovement_9 fu x0 S = some r → GV X (wC g) 1 0 0 S [] 9 [] := by
  intro  h
  rw [fx_X7_checkMovement_9] at h
  exact x_throw (text := "no such movement") (thAt.ok th_X7_231 (by decide +kernel)) h0 hX hE dX7_checkMovement_9 dX7_checkMovement_12 dX7_checkMovement_13 dX7_checkMovement_15 dX7_checkMovement_18 (Nat.le_of_ble_eq_true rfl) ⟨Nat.le_of_ble_eq_true rfl, Nat.le_of_ble_eq_true rfl⟩ ⟨Nat.le_of_ble_eq_true rfl, Nat.le_of_ble_eq_true rfl⟩ ⟨Nat.le_of_ble_eq_true rfl, Nat.le_of_ble_eq_true rfl⟩ (by cases h; exact ⟨rfl, rfl⟩)
/-- the machine does what fx_X7_checkMovement says -/
theorem cx_X7_checkMovement (g : GC) (fu : Nat) (x0 : Int32) (S : Mem) {r : (Nat ⊕ Unit)}  (h : fx_X7_checkMovement fu x0 S = some r) : ctX yX7_checkMovement cX7_checkMovement 1 none rx_X7_checkMovement 1 6 (wC g) [.int x0] S (tOf r) (oOf oU r) S := by
  refine ctx_of (own := RX7) (L := [(0, .int x0)]) (by decide +kernel) rfl (Nat.le_of_ble_eq_true rfl) rfl (fun X h0 hX hE => ?_)
  rw [fx_X7_checkMovement] at h
  refine r_iload_n (pc' := 1) h0 0 dX7_checkMovement_0 rfl rfl rfl ?_
  refine r_if_lt (pt := 9) (pf := 4) h0 dX7_checkMovement_1 rfl rfl h (fun c1 h => ?_) (fun c1 h => ?_)
  · refine r_sub (L' := []) [] rfl ?_
    exact wx_X7_checkMovement_9 h0 hX fu x0 S hE h
  · refine r_iload_n (pc' := 5) h0 0 dX7_checkMovement_4 rfl rfl rfl ?_
    refine r_iconst (pc' := 6) h0 dX7_checkMovement_5 ki_4 rfl ?_
    refine r_ic_lt (pt := 19) (pf := 9) h0 dX7_checkMovement_6 rfl rfl h (fun c6 h => ?_) (fun c6 h => ?_)
    · exact x_vret h0 hE dX7_checkMovement_19 ⟨Nat.le_of_ble_eq_true rfl, Nat.le_of_ble_eq_true rfl⟩ (by cases h; exact ⟨rfl, rfl, rfl⟩)
    · refine r_sub (L' := []) [] rfl ?_
      exact wx_X7_checkMovement_9 h0 hX fu x0 S hE h
/-- the machine does what fx_X7_callBus says -/
theorem cx_X7_callBus (g : GC) (fu : Nat) (x1 : Int32) (x2 : Int32) (S : Mem) {r : (Nat ⊕ Int32)} {S' : Mem} (h : fx_X7_callBus fu x1 x2 S = some (r, S')) : ctX yX7_callBus cX7_callBus 4 (some .int) rx_X7_callBus 4 24 (wC g) [.ref (wA (wC g) 7 0), .int x1, .int x2] S (tOf r) (oOf oI r) S' := by
  refine ctx_of (own := RX7) (L := [(0, .ref (wA (wC g) 7 0)), (1, .int x1), (2, .int x2)]) (by decide +kernel) rfl (Nat.le_of_ble_eq_true rfl) rfl (fun X h0 hX hE => ?_)
  rw [fx_X7_callBus] at h
  refine r_aload_n (pc' := 1) h0 0 dX7_callBus_0 rfl rfl rfl ?_
  refine gf_X7_10 (pc' := 4) h0 (Nat.le_of_ble_eq_true rfl) dX7_callBus_1 rfl ?_
  refine r_iload_n (pc' := 5) h0 1 dX7_callBus_4 rfl rfl rfl ?_
  refine gx_V (n := 1) (ov := (oR (wC g) 3)) (pc' := 8) (ob_1 g) v_420 v_255 v_256 v_257 v_29 ⟨by decide +kernel, by decide +kernel, by decide +kernel⟩ [.int x1] [] h0 hX hE (Nat.le_of_ble_eq_true rfl) (fun za hza => cx_X1_at g fu x1 S hza) rfl rfl dX7_callBus_5 rfl (Nat.le_of_ble_eq_true rfl) ⟨rfl, rfl, Nat.le_of_ble_eq_true rfl, Nat.le_of_ble_eq_true rfl⟩ ⟨Nat.le_of_ble_eq_true rfl, Nat.le_of_ble_eq_true rfl⟩ ⟨Nat.le_of_ble_eq_true rfl, Nat.le_of_ble_eq_true rfl⟩ h (fun E e => by cases e; exact ⟨rfl, rfl⟩) (fun r5 h h5 => ?_)
  show GV X (wC g) 4 1 6 S [(0, .ref (wA (wC g) 7 0)), (1, .int x1), (2, .int x2)] 8 [.ref (wA (wC g) 3 r5)]
  refine r_astore_n (pc' := 9) (L' := [(3, .ref (wA (wC g) 3 r5)), (0, .ref (wA (wC g) 7 0)), (1, .int x1), (2, .int x2)]) h0 dX7_callBus_8 rfl (Nat.le_of_ble_eq_true rfl) rfl rfl ?_
  refine r_iload_n (pc' := 10) h0 3 dX7_callBus_9 rfl rfl rfl ?_
  refine gx_S (n := 1) (ov := oU) (pc' := 13) v_473 v_474 v_475 v_28 ⟨by decide +kernel, by decide +kernel, by decide +kernel⟩ [.int x2] [] h0 hX hE (fun za hza => cx_X7_checkMovement g fu x2 S hza) rfl rfl dX7_callBus_10 rfl (Nat.le_of_ble_eq_true rfl) ⟨rfl, rfl, Nat.le_of_ble_eq_true rfl, Nat.le_of_ble_eq_true rfl⟩ ⟨Nat.le_of_ble_eq_true rfl, Nat.le_of_ble_eq_true rfl⟩ ⟨Nat.le_of_ble_eq_true rfl, Nat.le_of_ble_eq_true rfl⟩ h (fun E e => by cases e; exact ⟨rfl, rfl⟩) (fun r10 h h10 => ?_)
  show GV X (wC g) 4 2 12 S [(3, .ref (wA (wC g) 3 r5)), (0, .ref (wA (wC g) 7 0)), (1, .int x1), (2, .int x2)] 13 []
  refine r_aload_n (pc' := 14) h0 1 dX7_callBus_13 rfl rfl rfl ?_
  refine gx_V (n := 0) (ov := oU) (pc' := 17) (ob_7 g) v_529 v_531 v_10 v_532 v_28 ⟨by decide +kernel, by decide +kernel, by decide +kernel⟩ [] [] h0 hX hE (Nat.le_of_ble_eq_true rfl) (fun za hza => cx_X7_checkPlans g fu S hza) rfl rfl dX7_callBus_14 rfl (Nat.le_of_ble_eq_true rfl) ⟨rfl, rfl, Nat.le_of_ble_eq_true rfl, Nat.le_of_ble_eq_true rfl⟩ ⟨Nat.le_of_ble_eq_true rfl, Nat.le_of_ble_eq_true rfl⟩ ⟨Nat.le_of_ble_eq_true rfl, Nat.le_of_ble_eq_true rfl⟩ h (fun E e => by cases e; exact ⟨rfl, rfl⟩) (fun r14 h h14 => ?_)
  show GV X (wC g) 4 3 18 S [(3, .ref (wA (wC g) 3 r5)), (0, .ref (wA (wC g) 7 0)), (1, .int x1), (2, .int x2)] 17 []
  refine r_aload_n (pc' := 18) h0 0 dX7_callBus_17 rfl rfl rfl ?_
  refine r_iload_n (pc' := 19) h0 3 dX7_callBus_18 rfl rfl rfl ?_
  obtain ⟨r19, h19, h⟩ := b1_some h
  refine go_V (k_X7_187 g) (st2 := [.int r19]) (pc' := 22) [.int x2] [] h0 (bx_X1_at h5) (c_X3_lowestPhaseWith g fu r5 (bx_X1_at h5) x2 S h19) rfl rfl dX7_callBus_19 rfl (Nat.le_of_ble_eq_true rfl) ⟨rfl, rfl, Nat.le_of_ble_eq_true rfl, Nat.le_of_ble_eq_true rfl⟩ ⟨Nat.le_of_ble_eq_true rfl, Nat.le_of_ble_eq_true rfl⟩ rfl ?_
  refine r_iconst (pc' := 23) h0 dX7_callBus_22 ki_m1 rfl ?_
  refine r_ic_ne (pt := 36) (pf := 26) h0 dX7_callBus_23 rfl rfl h (fun c23 h => ?_) (fun c23 h => ?_)
  · refine r_aload_n (pc' := 37) h0 0 dX7_callBus_36 rfl rfl rfl ?_
    refine r_aload_n (pc' := 38) h0 1 dX7_callBus_37 rfl rfl rfl ?_
    refine gf_X7_28 (pc' := 41) h0 (Nat.le_of_ble_eq_true rfl) dX7_callBus_38 rfl ?_
    refine gf_X7_179 (pc' := 44) h0 (Nat.le_of_ble_eq_true rfl) dX7_callBus_41 rfl ?_
    obtain ⟨r44, h44, h⟩ := b1_some h
    refine go_V (k_X7_192 g) (st2 := [.int r44]) (pc' := 47) [.int (S.1 6 0 1)] [] h0 (bx_X1_at h5) (c_X3_hasBusIn g fu r5 (bx_X1_at h5) (S.1 6 0 1) S h44) rfl rfl dX7_callBus_44 rfl (Nat.le_of_ble_eq_true rfl) ⟨rfl, rfl, Nat.le_of_ble_eq_true rfl, Nat.le_of_ble_eq_true rfl⟩ ⟨Nat.le_of_ble_eq_true rfl, Nat.le_of_ble_eq_true rfl⟩ rfl ?_
    refine r_if_eq (pt := 60) (pf := 50) h0 dX7_callBus_47 rfl rfl h (fun c47 h => ?_) (fun c47 h => ?_)
    · refine r_aload_n (pc' := 61) h0 1 dX7_callBus_60 rfl rfl rfl ?_
      refine gf_X7_28 (pc' := 64) h0 (Nat.le_of_ble_eq_true rfl) dX7_callBus_61 rfl ?_
      refine r_iconst (pc' := 65) h0 dX7_callBus_64 ki_1 rfl ?_
      refine pf_X7_197 (pc' := 68) h0 (Nat.le_of_ble_eq_true rfl) dX7_callBus_65 rfl rfl ?_
      refine r_aload_n (pc' := 69) h0 0 dX7_callBus_68 rfl rfl rfl ?_
      refine r_aload_n (pc' := 70) h0 1 dX7_callBus_69 rfl rfl rfl ?_
      refine gf_X7_28 (pc' := 73) h0 (Nat.le_of_ble_eq_true rfl) dX7_callBus_70 rfl ?_
      refine gf_X7_179 (pc' := 76) h0 (Nat.le_of_ble_eq_true rfl) dX7_callBus_73 rfl ?_
      refine r_iload_n (pc' := 77) h0 3 dX7_callBus_76 rfl rfl rfl ?_
      obtain ⟨r77, S77, h77, h⟩ := b2_some h
      refine go_V (k_X7_200 g) (st2 := [.int r77]) (pc' := 80) [.int ((wI S 6 0 5 1).1 6 0 1), .int x2] [] h0 (bx_X1_at h5) (c_X3_takeBus g fu r5 (bx_X1_at h5) ((wI S 6 0 5 1).1 6 0 1) x2 (wI S 6 0 5 1) h77) rfl rfl dX7_callBus_77 rfl (Nat.le_of_ble_eq_true rfl) ⟨rfl, rfl, Nat.le_of_ble_eq_true rfl, Nat.le_of_ble_eq_true rfl⟩ ⟨Nat.le_of_ble_eq_true rfl, Nat.le_of_ble_eq_true rfl⟩ rfl ?_
      exact x_iret h0 hE dX7_callBus_80 ⟨Nat.le_of_ble_eq_true rfl, Nat.le_of_ble_eq_true rfl⟩ (by cases h; exact ⟨rfl, rfl, rfl⟩)
    · exact x_throw (text := "a bus has called in this cycle") (thAt.ok th_X7_72 (by decide +kernel)) h0 hX hE dX7_callBus_50 dX7_callBus_53 dX7_callBus_54 dX7_callBus_56 dX7_callBus_59 (Nat.le_of_ble_eq_true rfl) ⟨Nat.le_of_ble_eq_true rfl, Nat.le_of_ble_eq_true rfl⟩ ⟨Nat.le_of_ble_eq_true rfl, Nat.le_of_ble_eq_true rfl⟩ ⟨Nat.le_of_ble_eq_true rfl, Nat.le_of_ble_eq_true rfl⟩ (by cases h; exact ⟨rfl, rfl⟩)
  · exact x_throw (text := "no phase has the movement") (thAt.ok th_X7_72 (by decide +kernel)) h0 hX hE dX7_callBus_26 dX7_callBus_29 dX7_callBus_30 dX7_callBus_32 dX7_callBus_35 (Nat.le_of_ble_eq_true rfl) ⟨Nat.le_of_ble_eq_true rfl, Nat.le_of_ble_eq_true rfl⟩ ⟨Nat.le_of_ble_eq_true rfl, Nat.le_of_ble_eq_true rfl⟩ ⟨Nat.le_of_ble_eq_true rfl, Nat.le_of_ble_eq_true rfl⟩ (by cases h; exact ⟨rfl, rfl⟩)
theorem wx_X7_checkPhase_12 {g : GC} {X : MX} {r : (Nat ⊕ Unit)}  (h0 : CX RX7 cX7_checkPhase 2 rx_X7_checkPhase X (wC g)) (hX : CXX X (wC g)) (fu : Nat) (i0 : Nat) (hi0 : i0 < 5) (x1 : Int32) (S : Mem) (hE : ENX none (tOf r) (oOf oU r) S 1 6 X (wC g)) : fx_X7_checkPhase_12 fu i0 x1 S = some r → GV X (wC g) 2 0 0 S [] 12 [] := by
  intro  h
  rw [fx_X7_checkPhase_12] at h
  exact x_throw (text := "no such phase") (thAt.ok th_X7_231 (by decide +kernel)) h0 hX hE dX7_checkPhase_12 dX7_checkPhase_15 dX7_checkPhase_16 dX7_checkPhase_18 dX7_checkPhase_21 (Nat.le_of_ble_eq_true rfl) ⟨Nat.le_of_ble_eq_true rfl, Nat.le_of_ble_eq_true rfl⟩ ⟨Nat.le_of_ble_eq_true rfl, Nat.le_of_ble_eq_true rfl⟩ ⟨Nat.le_of_ble_eq_true rfl, Nat.le_of_ble_eq_true rfl⟩ (by cases h; exact ⟨rfl, rfl⟩)
/-- the machine does what fx_X7_checkPhase says -/
theorem cx_X7_checkPhase (g : GC) (fu : Nat) (i0 : Nat) (hi0 : i0 < 5) (x1 : Int32) (S : Mem) {r : (Nat ⊕ Unit)}  (h : fx_X7_checkPhase fu i0 x1 S = some r) : ctX yX7_checkPhase cX7_checkPhase 2 none rx_X7_checkPhase 1 6 (wC g) [.ref (wA (wC g) 3 i0), .int x1] S (tOf r) (oOf oU r) S := by
  refine ctx_of (own := RX7) (L := [(0, .ref (wA (wC g) 3 i0)), (1, .int x1)]) (by decide +kernel) rfl (Nat.le_of_ble_eq_true rfl) rfl (fun X h0 hX hE => ?_)
  rw [fx_X7_checkPhase] at h
  refine r_iload_n (pc' := 1) h0 1 dX7_checkPhase_0 rfl rfl rfl ?_
  refine r_if_lt (pt := 12) (pf := 4) h0 dX7_checkPhase_1 rfl rfl h (fun c1 h => ?_) (fun c1 h => ?_)
  · refine r_sub (L' := []) [] rfl ?_
    exact wx_X7_checkPhase_12 h0 hX fu i0 hi0 x1 S hE h
  · refine r_iload_n (pc' := 5) h0 1 dX7_checkPhase_4 rfl rfl rfl ?_
    refine r_aload_n (pc' := 6) h0 0 dX7_checkPhase_5 rfl rfl rfl ?_
    refine gf_X7_91 (pc' := 9) h0 hi0 dX7_checkPhase_6 rfl ?_
    refine r_ic_lt (pt := 22) (pf := 12) h0 dX7_checkPhase_9 rfl rfl h (fun c9 h => ?_) (fun c9 h => ?_)
    · exact x_vret h0 hE dX7_checkPhase_22 ⟨Nat.le_of_ble_eq_true rfl, Nat.le_of_ble_eq_true rfl⟩ (by cases h; exact ⟨rfl, rfl, rfl⟩)
    · refine r_sub (L' := []) [] rfl ?_
      exact wx_X7_checkPhase_12 h0 hX fu i0 hi0 x1 S hE h
/-- the machine does what fx_X7_checkPlan says -/
theorem cx_X7_checkPlan (g : GC) (fu : Nat) (i0 : Nat) (hi0 : i0 < 5) (S : Mem) {r : (Nat ⊕ Unit)}  (h : fx_X7_checkPlan fu i0 S = some r) : ctX yX7_checkPlan cX7_checkPlan 1 none rx_X7_checkPlan 1 6 (wC g) [.ref (wA (wC g) 3 i0)] S (tOf r) (oOf oU r) S := by
  refine ctx_of (own := RX7) (L := [(0, .ref (wA (wC g) 3 i0))]) (by decide +kernel) rfl (Nat.le_of_ble_eq_true rfl) rfl (fun X h0 hX hE => ?_)
  rw [fx_X7_checkPlan] at h
  refine r_aload_n (pc' := 1) h0 0 dX7_checkPlan_0 rfl rfl rfl ?_
  refine gf_X7_136 (pc' := 4) h0 hi0 dX7_checkPlan_1 rfl ?_
  refine r_if_ne (pt := 17) (pf := 7) h0 dX7_checkPlan_4 rfl rfl h (fun c4 h => ?_) (fun c4 h => ?_)
  · exact x_vret h0 hE dX7_checkPlan_17 ⟨Nat.le_of_ble_eq_true rfl, Nat.le_of_ble_eq_true rfl⟩ (by cases h; exact ⟨rfl, rfl, rfl⟩)
  · exact x_throw (text := "the junction has no plan") (thAt.ok th_X7_72 (by decide +kernel)) h0 hX hE dX7_checkPlan_7 dX7_checkPlan_10 dX7_checkPlan_11 dX7_checkPlan_13 dX7_checkPlan_16 (Nat.le_of_ble_eq_true rfl) ⟨Nat.le_of_ble_eq_true rfl, Nat.le_of_ble_eq_true rfl⟩ ⟨Nat.le_of_ble_eq_true rfl, Nat.le_of_ble_eq_true rfl⟩ ⟨Nat.le_of_ble_eq_true rfl, Nat.le_of_ble_eq_true rfl⟩ (by cases h; exact ⟨rfl, rfl⟩)
/-- the machine does what fx_X7_checkSettingUp says -/
theorem cx_X7_checkSettingUp (g : GC) (fu : Nat) (S : Mem) {r : (Nat ⊕ Unit)}  (h : fx_X7_checkSettingUp fu S = some r) : ctX yX7_checkSettingUp cX7_checkSettingUp 1 none rx_X7_checkSettingUp 1 6 (wC g) [.ref (wA (wC g) 7 0)] S (tOf r) (oOf oU r) S := by
  refine ctx_of (own := RX7) (L := [(0, .ref (wA (wC g) 7 0))]) (by decide +kernel) rfl (Nat.le_of_ble_eq_true rfl) rfl (fun X h0 hX hE => ?_)
  rw [fx_X7_checkSettingUp] at h
  refine r_aload_n (pc' := 1) h0 0 dX7_checkSettingUp_0 rfl rfl rfl ?_
  refine gf_X7_28 (pc' := 4) h0 (Nat.le_of_ble_eq_true rfl) dX7_checkSettingUp_1 rfl ?_
  refine gf_X7_197 (pc' := 7) h0 (Nat.le_of_ble_eq_true rfl) dX7_checkSettingUp_4 rfl ?_
  refine r_if_eq (pt := 20) (pf := 10) h0 dX7_checkSettingUp_7 rfl rfl h (fun c7 h => ?_) (fun c7 h => ?_)
  · exact x_vret h0 hE dX7_checkSettingUp_20 ⟨Nat.le_of_ble_eq_true rfl, Nat.le_of_ble_eq_true rfl⟩ (by cases h; exact ⟨rfl, rfl, rfl⟩)
  · exact x_throw (text := "a second has run, or a bus has called") (thAt.ok th_X7_72 (by decide +kernel)) h0 hX hE dX7_checkSettingUp_10 dX7_checkSettingUp_13 dX7_checkSettingUp_14 dX7_checkSettingUp_16 dX7_checkSettingUp_19 (Nat.le_of_ble_eq_true rfl) ⟨Nat.le_of_ble_eq_true rfl, Nat.le_of_ble_eq_true rfl⟩ ⟨Nat.le_of_ble_eq_true rfl, Nat.le_of_ble_eq_true rfl⟩ ⟨Nat.le_of_ble_eq_true rfl, Nat.le_of_ble_eq_true rfl⟩ (by cases h; exact ⟨rfl, rfl⟩)
/-- the machine does what fx_X7_green says -/
theorem cx_X7_green (g : GC) (fu : Nat) (x1 : Int32) (x2 : Int32) (S : Mem) {r : (Nat ⊕ Int32)}  (h : fx_X7_green fu x1 x2 S = some r) : ctX yX7_green cX7_green 4 (some .int) rx_X7_green 3 18 (wC g) [.ref (wA (wC g) 7 0), .int x1, .int x2] S (tOf r) (oOf oI r) S := by
  refine ctx_of (own := RX7) (L := [(0, .ref (wA (wC g) 7 0)), (1, .int x1), (2, .int x2)]) (by decide +kernel) rfl (Nat.le_of_ble_eq_true rfl) rfl (fun X h0 hX hE => ?_)
  rw [fx_X7_green] at h
  refine r_aload_n (pc' := 1) h0 0 dX7_green_0 rfl rfl rfl ?_
  refine gf_X7_10 (pc' := 4) h0 (Nat.le_of_ble_eq_true rfl) dX7_green_1 rfl ?_
  refine r_iload_n (pc' := 5) h0 1 dX7_green_4 rfl rfl rfl ?_
  refine gx_V (n := 1) (ov := (oR (wC g) 3)) (pc' := 8) (ob_1 g) v_420 v_255 v_256 v_257 v_29 ⟨by decide +kernel, by decide +kernel, by decide +kernel⟩ [.int x1] [] h0 hX hE (Nat.le_of_ble_eq_true rfl) (fun za hza => cx_X1_at g fu x1 S hza) rfl rfl dX7_green_5 rfl (Nat.le_of_ble_eq_true rfl) ⟨rfl, rfl, Nat.le_of_ble_eq_true rfl, Nat.le_of_ble_eq_true rfl⟩ ⟨Nat.le_of_ble_eq_true rfl, Nat.le_of_ble_eq_true rfl⟩ ⟨Nat.le_of_ble_eq_true rfl, Nat.le_of_ble_eq_true rfl⟩ h (fun E e => by cases e; exact ⟨rfl, rfl⟩) (fun r5 h h5 => ?_)
  show GV X (wC g) 4 1 6 S [(0, .ref (wA (wC g) 7 0)), (1, .int x1), (2, .int x2)] 8 [.ref (wA (wC g) 3 r5)]
  refine r_astore_n (pc' := 9) (L' := [(3, .ref (wA (wC g) 3 r5)), (0, .ref (wA (wC g) 7 0)), (1, .int x1), (2, .int x2)]) h0 dX7_green_8 rfl (Nat.le_of_ble_eq_true rfl) rfl rfl ?_
  refine r_aload_n (pc' := 10) h0 0 dX7_green_9 rfl rfl rfl ?_
  refine r_iload_n (pc' := 11) h0 3 dX7_green_10 rfl rfl rfl ?_
  refine gx_S (n := 2) (ov := oU) (pc' := 14) v_792 v_793 v_794 v_28 ⟨by decide +kernel, by decide +kernel, by decide +kernel⟩ [.ref (wA (wC g) 3 r5), .int x2] [] h0 hX hE (fun za hza => cx_X7_checkPhase g fu r5 (bx_X1_at h5) x2 S hza) rfl rfl dX7_green_11 rfl (Nat.le_of_ble_eq_true rfl) ⟨rfl, rfl, Nat.le_of_ble_eq_true rfl, Nat.le_of_ble_eq_true rfl⟩ ⟨Nat.le_of_ble_eq_true rfl, Nat.le_of_ble_eq_true rfl⟩ ⟨Nat.le_of_ble_eq_true rfl, Nat.le_of_ble_eq_true rfl⟩ h (fun E e => by cases e; exact ⟨rfl, rfl⟩) (fun r11 h h11 => ?_)
  show GV X (wC g) 4 2 12 S [(3, .ref (wA (wC g) 3 r5)), (0, .ref (wA (wC g) 7 0)), (1, .int x1), (2, .int x2)] 14 []
  refine r_aload_n (pc' := 15) h0 0 dX7_green_14 rfl rfl rfl ?_
  refine gx_S (n := 1) (ov := oU) (pc' := 18) v_780 v_781 v_782 v_28 ⟨by decide +kernel, by decide +kernel, by decide +kernel⟩ [.ref (wA (wC g) 3 r5)] [] h0 hX hE (fun za hza => cx_X7_checkPlan g fu r5 (bx_X1_at h5) S hza) rfl rfl dX7_green_15 rfl (Nat.le_of_ble_eq_true rfl) ⟨rfl, rfl, Nat.le_of_ble_eq_true rfl, Nat.le_of_ble_eq_true rfl⟩ ⟨Nat.le_of_ble_eq_true rfl, Nat.le_of_ble_eq_true rfl⟩ ⟨Nat.le_of_ble_eq_true rfl, Nat.le_of_ble_eq_true rfl⟩ h (fun E e => by cases e; exact ⟨rfl, rfl⟩) (fun r15 h h15 => ?_)
  show GV X (wC g) 4 3 18 S [(3, .ref (wA (wC g) 3 r5)), (0, .ref (wA (wC g) 7 0)), (1, .int x1), (2, .int x2)] 18 []
  refine r_aload_n (pc' := 19) h0 0 dX7_green_18 rfl rfl rfl ?_
  refine gf_X7_148 (pc' := 22) h0 (bx_X1_at h5) dX7_green_19 rfl ?_
  refine r_iload_n (pc' := 23) h0 3 dX7_green_22 rfl rfl rfl ?_
  obtain ⟨r23, h23, h⟩ := b1_some h
  refine go_S (k_X7_152 g) (st2 := [.int r23]) (pc' := 26) [.ref (wA (wC g) 14 r5), .int x2] [] h0 (c_X7_read g fu 14 4 r5 (ia_14 g) (bx_X1_at h5) x2 S h23) rfl rfl dX7_green_23 rfl (Nat.le_of_ble_eq_true rfl) ⟨rfl, rfl, Nat.le_of_ble_eq_true rfl, Nat.le_of_ble_eq_true rfl⟩ ⟨Nat.le_of_ble_eq_true rfl, Nat.le_of_ble_eq_true rfl⟩ rfl ?_
  exact x_iret h0 hE dX7_green_26 ⟨Nat.le_of_ble_eq_true rfl, Nat.le_of_ble_eq_true rfl⟩ (by cases h; exact ⟨rfl, rfl, rfl⟩)
/-- the machine does what fx_X7_improve says -/
theorem cx_X7_improve (g : GC) (fu : Nat) (S : Mem) {r : (Nat ⊕ Int32)} {S' : Mem} (h : fx_X7_improve fu S = some (r, S')) : ctX yX7_improve cX7_improve 1 (some .int) rx_X7_improve 2 12 (wC g) [.ref (wA (wC g) 7 0)] S (tOf r) (oOf oI r) S' := by
  refine ctx_of (own := RX7) (L := [(0, .ref (wA (wC g) 7 0))]) (by decide +kernel) rfl (Nat.le_of_ble_eq_true rfl) rfl (fun X h0 hX hE => ?_)
  rw [fx_X7_improve] at h
  refine r_aload_n (pc' := 1) h0 0 dX7_improve_0 rfl rfl rfl ?_
  refine gx_V (n := 0) (ov := oU) (pc' := 4) (ob_7 g) v_529 v_531 v_10 v_532 v_28 ⟨by decide +kernel, by decide +kernel, by decide +kernel⟩ [] [] h0 hX hE (Nat.le_of_ble_eq_true rfl) (fun za hza => cx_X7_checkPlans g fu S hza) rfl rfl dX7_improve_1 rfl (Nat.le_of_ble_eq_true rfl) ⟨rfl, rfl, Nat.le_of_ble_eq_true rfl, Nat.le_of_ble_eq_true rfl⟩ ⟨Nat.le_of_ble_eq_true rfl, Nat.le_of_ble_eq_true rfl⟩ ⟨Nat.le_of_ble_eq_true rfl, Nat.le_of_ble_eq_true rfl⟩ h (fun E e => by cases e; exact ⟨rfl, rfl⟩) (fun r1 h h1 => ?_)
  show GV X (wC g) 1 1 6 S [(0, .ref (wA (wC g) 7 0))] 4 []
  refine r_aload_n (pc' := 5) h0 0 dX7_improve_4 rfl rfl rfl ?_
  refine gx_V (n := 0) (ov := oU) (pc' := 8) (ob_7 g) v_440 v_442 v_9 v_443 v_28 ⟨by decide +kernel, by decide +kernel, by decide +kernel⟩ [] [] h0 hX hE (Nat.le_of_ble_eq_true rfl) (fun za hza => cx_X7_checkSettingUp g fu S hza) rfl rfl dX7_improve_5 rfl (Nat.le_of_ble_eq_true rfl) ⟨rfl, rfl, Nat.le_of_ble_eq_true rfl, Nat.le_of_ble_eq_true rfl⟩ ⟨Nat.le_of_ble_eq_true rfl, Nat.le_of_ble_eq_true rfl⟩ ⟨Nat.le_of_ble_eq_true rfl, Nat.le_of_ble_eq_true rfl⟩ h (fun E e => by cases e; exact ⟨rfl, rfl⟩) (fun r5 h h5 => ?_)
  show GV X (wC g) 1 2 12 S [(0, .ref (wA (wC g) 7 0))] 8 []
  refine r_aload_n (pc' := 9) h0 0 dX7_improve_8 rfl rfl rfl ?_
  refine gf_X7_21 (pc' := 12) h0 (Nat.le_of_ble_eq_true rfl) dX7_improve_9 rfl ?_
  obtain ⟨r12, S12, h12, h⟩ := b2_some h
  refine go_V (k_X7_129 g) (st2 := [.int r12]) (pc' := 15) [] [] h0 (Nat.le_of_ble_eq_true rfl) (c_X0_improveOffsets g fu S h12) rfl rfl dX7_improve_12 rfl (Nat.le_of_ble_eq_true rfl) ⟨rfl, rfl, Nat.le_of_ble_eq_true rfl, Nat.le_of_ble_eq_true rfl⟩ ⟨Nat.le_of_ble_eq_true rfl, Nat.le_of_ble_eq_true rfl⟩ rfl ?_
  exact x_iret h0 hE dX7_improve_15 ⟨Nat.le_of_ble_eq_true rfl, Nat.le_of_ble_eq_true rfl⟩ (by cases h; exact ⟨rfl, rfl, rfl⟩)
/-- the machine does what fx_X7_phaseNow says -/
theorem cx_X7_phaseNow (g : GC) (fu : Nat) (x1 : Int32) (S : Mem) {r : (Nat ⊕ Int32)}  (h : fx_X7_phaseNow fu x1 S = some r) : ctX yX7_phaseNow cX7_phaseNow 3 (some .int) rx_X7_phaseNow 2 12 (wC g) [.ref (wA (wC g) 7 0), .int x1] S (tOf r) (oOf oI r) S := by
  refine ctx_of (own := RX7) (L := [(0, .ref (wA (wC g) 7 0)), (1, .int x1)]) (by decide +kernel) rfl (Nat.le_of_ble_eq_true rfl) rfl (fun X h0 hX hE => ?_)
  rw [fx_X7_phaseNow] at h
  refine r_aload_n (pc' := 1) h0 0 dX7_phaseNow_0 rfl rfl rfl ?_
  refine gf_X7_10 (pc' := 4) h0 (Nat.le_of_ble_eq_true rfl) dX7_phaseNow_1 rfl ?_
  refine r_iload_n (pc' := 5) h0 1 dX7_phaseNow_4 rfl rfl rfl ?_
  refine gx_V (n := 1) (ov := (oR (wC g) 3)) (pc' := 8) (ob_1 g) v_420 v_255 v_256 v_257 v_29 ⟨by decide +kernel, by decide +kernel, by decide +kernel⟩ [.int x1] [] h0 hX hE (Nat.le_of_ble_eq_true rfl) (fun za hza => cx_X1_at g fu x1 S hza) rfl rfl dX7_phaseNow_5 rfl (Nat.le_of_ble_eq_true rfl) ⟨rfl, rfl, Nat.le_of_ble_eq_true rfl, Nat.le_of_ble_eq_true rfl⟩ ⟨Nat.le_of_ble_eq_true rfl, Nat.le_of_ble_eq_true rfl⟩ ⟨Nat.le_of_ble_eq_true rfl, Nat.le_of_ble_eq_true rfl⟩ h (fun E e => by cases e; exact ⟨rfl, rfl⟩) (fun r5 h h5 => ?_)
  show GV X (wC g) 3 1 6 S [(0, .ref (wA (wC g) 7 0)), (1, .int x1)] 8 [.ref (wA (wC g) 3 r5)]
  refine r_astore_n (pc' := 9) (L' := [(2, .ref (wA (wC g) 3 r5)), (0, .ref (wA (wC g) 7 0)), (1, .int x1)]) h0 dX7_phaseNow_8 rfl (Nat.le_of_ble_eq_true rfl) rfl rfl ?_
  refine r_aload_n (pc' := 10) h0 0 dX7_phaseNow_9 rfl rfl rfl ?_
  refine gx_S (n := 1) (ov := oU) (pc' := 13) v_780 v_781 v_782 v_28 ⟨by decide +kernel, by decide +kernel, by decide +kernel⟩ [.ref (wA (wC g) 3 r5)] [] h0 hX hE (fun za hza => cx_X7_checkPlan g fu r5 (bx_X1_at h5) S hza) rfl rfl dX7_phaseNow_10 rfl (Nat.le_of_ble_eq_true rfl) ⟨rfl, rfl, Nat.le_of_ble_eq_true rfl, Nat.le_of_ble_eq_true rfl⟩ ⟨Nat.le_of_ble_eq_true rfl, Nat.le_of_ble_eq_true rfl⟩ ⟨Nat.le_of_ble_eq_true rfl, Nat.le_of_ble_eq_true rfl⟩ h (fun E e => by cases e; exact ⟨rfl, rfl⟩) (fun r10 h h10 => ?_)
  show GV X (wC g) 3 2 12 S [(2, .ref (wA (wC g) 3 r5)), (0, .ref (wA (wC g) 7 0)), (1, .int x1)] 13 []
  refine r_aload_n (pc' := 14) h0 0 dX7_phaseNow_13 rfl rfl rfl ?_
  refine r_aload_n (pc' := 15) h0 1 dX7_phaseNow_14 rfl rfl rfl ?_
  refine gf_X7_28 (pc' := 18) h0 (Nat.le_of_ble_eq_true rfl) dX7_phaseNow_15 rfl ?_
  refine gf_X7_179 (pc' := 21) h0 (Nat.le_of_ble_eq_true rfl) dX7_phaseNow_18 rfl ?_
  obtain ⟨r21, h21, h⟩ := b1_some h
  refine go_V (k_X7_203 g) (st2 := [.int r21]) (pc' := 24) [.int (S.1 6 0 1)] [] h0 (bx_X1_at h5) (c_X3_phaseIn g fu r5 (bx_X1_at h5) (S.1 6 0 1) S h21) rfl rfl dX7_phaseNow_21 rfl (Nat.le_of_ble_eq_true rfl) ⟨rfl, rfl, Nat.le_of_ble_eq_true rfl, Nat.le_of_ble_eq_true rfl⟩ ⟨Nat.le_of_ble_eq_true rfl, Nat.le_of_ble_eq_true rfl⟩ rfl ?_
  exact x_iret h0 hE dX7_phaseNow_24 ⟨Nat.le_of_ble_eq_true rfl, Nat.le_of_ble_eq_true rfl⟩ (by cases h; exact ⟨rfl, rfl, rfl⟩)
/-- the machine does what fx_X7_run says -/
theorem cx_X7_run (g : GC) (fu : Nat) (x1 : Int32) (S : Mem) {r : (Nat ⊕ Int32)} {S' : Mem} (h : fx_X7_run fu x1 S = some (r, S')) : ctX yX7_run cX7_run 2 (some .int) rx_X7_run 2 12 (wC g) [.ref (wA (wC g) 7 0), .int x1] S (tOf r) (oOf oI r) S' := by
  refine ctx_of (own := RX7) (L := [(0, .ref (wA (wC g) 7 0)), (1, .int x1)]) (by decide +kernel) rfl (Nat.le_of_ble_eq_true rfl) rfl (fun X h0 hX hE => ?_)
  rw [fx_X7_run] at h
  refine r_iload_n (pc' := 1) h0 1 dX7_run_0 rfl rfl rfl ?_
  refine r_iconst (pc' := 2) h0 dX7_run_1 ki_1 rfl ?_
  refine r_sipush (pc' := 5) h0 dX7_run_2 ks_600 rfl ?_
  obtain ⟨r5, h5, h⟩ := b1_some h
  refine go_S (k_X7_36 g) (st2 := [.int r5]) (pc' := 8) [.int x1, .int 1, .int 600] [] h0 (c_X7_isOutside g fu x1 1 600 S h5) rfl rfl dX7_run_5 rfl (Nat.le_of_ble_eq_true rfl) ⟨rfl, rfl, Nat.le_of_ble_eq_true rfl, Nat.le_of_ble_eq_true rfl⟩ ⟨Nat.le_of_ble_eq_true rfl, Nat.le_of_ble_eq_true rfl⟩ rfl ?_
  refine r_if_eq (pt := 21) (pf := 11) h0 dX7_run_8 rfl rfl h (fun c8 h => ?_) (fun c8 h => ?_)
  · refine r_aload_n (pc' := 22) h0 0 dX7_run_21 rfl rfl rfl ?_
    refine gx_V (n := 0) (ov := oU) (pc' := 25) (ob_7 g) v_529 v_531 v_10 v_532 v_28 ⟨by decide +kernel, by decide +kernel, by decide +kernel⟩ [] [] h0 hX hE (Nat.le_of_ble_eq_true rfl) (fun za hza => cx_X7_checkPlans g fu S hza) rfl rfl dX7_run_22 rfl (Nat.le_of_ble_eq_true rfl) ⟨rfl, rfl, Nat.le_of_ble_eq_true rfl, Nat.le_of_ble_eq_true rfl⟩ ⟨Nat.le_of_ble_eq_true rfl, Nat.le_of_ble_eq_true rfl⟩ ⟨Nat.le_of_ble_eq_true rfl, Nat.le_of_ble_eq_true rfl⟩ h (fun E e => by cases e; exact ⟨rfl, rfl⟩) (fun r22 h h22 => ?_)
    show GV X (wC g) 2 1 6 S [(0, .ref (wA (wC g) 7 0)), (1, .int x1)] 25 []
    refine r_aload_n (pc' := 26) h0 0 dX7_run_25 rfl rfl rfl ?_
    refine gf_X7_28 (pc' := 29) h0 (Nat.le_of_ble_eq_true rfl) dX7_run_26 rfl ?_
    refine gf_X7_179 (pc' := 32) h0 (Nat.le_of_ble_eq_true rfl) dX7_run_29 rfl ?_
    refine r_iload_n (pc' := 33) h0 1 dX7_run_32 rfl rfl rfl ?_
    refine r_iadd (pc' := 34) h0 dX7_run_33 rfl ?_
    refine r_sipush (pc' := 37) h0 dX7_run_34 ks_7200 rfl ?_
    refine r_ic_le (pt := 50) (pf := 40) h0 dX7_run_37 rfl rfl h (fun c37 h => ?_) (fun c37 h => ?_)
    · refine r_aload_n (pc' := 51) h0 0 dX7_run_50 rfl rfl rfl ?_
      refine gf_X7_28 (pc' := 54) h0 (Nat.le_of_ble_eq_true rfl) dX7_run_51 rfl ?_
      refine r_iload_n (pc' := 55) h0 1 dX7_run_54 rfl rfl rfl ?_
      obtain ⟨r55, S55, h55, h⟩ := b2_some h
      refine go_V (k_X7_184 g) (st2 := [.int r55]) (pc' := 58) [.int x1] [] h0 (Nat.le_of_ble_eq_true rfl) (c_X6_pass g fu x1 S h55) rfl rfl dX7_run_55 rfl (Nat.le_of_ble_eq_true rfl) ⟨rfl, rfl, Nat.le_of_ble_eq_true rfl, Nat.le_of_ble_eq_true rfl⟩ ⟨Nat.le_of_ble_eq_true rfl, Nat.le_of_ble_eq_true rfl⟩ rfl ?_
      exact x_iret h0 hE dX7_run_58 ⟨Nat.le_of_ble_eq_true rfl, Nat.le_of_ble_eq_true rfl⟩ (by cases h; exact ⟨rfl, rfl, rfl⟩)
    · exact x_throw (text := "clock would be above 7200") (thAt.ok th_X7_72 (by decide +kernel)) h0 hX hE dX7_run_40 dX7_run_43 dX7_run_44 dX7_run_46 dX7_run_49 (Nat.le_of_ble_eq_true rfl) ⟨Nat.le_of_ble_eq_true rfl, Nat.le_of_ble_eq_true rfl⟩ ⟨Nat.le_of_ble_eq_true rfl, Nat.le_of_ble_eq_true rfl⟩ ⟨Nat.le_of_ble_eq_true rfl, Nat.le_of_ble_eq_true rfl⟩ (by cases h; exact ⟨rfl, rfl⟩)
  · exact x_throw (text := "seconds out of range") (thAt.ok th_X7_44 (by decide +kernel)) h0 hX hE dX7_run_11 dX7_run_14 dX7_run_15 dX7_run_17 dX7_run_20 (Nat.le_of_ble_eq_true rfl) ⟨Nat.le_of_ble_eq_true rfl, Nat.le_of_ble_eq_true rfl⟩ ⟨Nat.le_of_ble_eq_true rfl, Nat.le_of_ble_eq_true rfl⟩ ⟨Nat.le_of_ble_eq_true rfl, Nat.le_of_ble_eq_true rfl⟩ (by cases h; exact ⟨rfl, rfl⟩)
theorem wx_X7_setConflict_74 {g : GC} {X : MX} {r : (Nat ⊕ Int32)} {S' : Mem} (h0 : CX RX7 cX7_setConflict 7 rx_X7_setConflict X (wC g)) (hX : CXX X (wC g)) (fu : Nat) (x1 : Int32) (x2 : Int32) (x3 : Int32) (x4 : Int32) (hE : ENX (some .int) (tOf r) (oOf oI r) S' 5 30 X (wC g)) : ∀ (x5 : Nat) (hx5 : x5 < 5) (S : Mem), fx_X7_setConflict_74 fu x1 x2 x3 x4 x5 S = some (r, S') → GV X (wC g) 7 4 24 S [(2, .int x2), (3, .int x3), (4, .int x4), (5, .ref (wA (wC g) 3 x5))] 74 [] := by
  intro x5 hx5 S h
  rw [fx_X7_setConflict_74] at h
  refine r_aload (pc' := 76) h0 3 dX7_setConflict_74 rfl rfl ?_
  refine r_iload_n (pc' := 77) h0 0 dX7_setConflict_76 rfl rfl rfl ?_
  refine r_iload_n (pc' := 78) h0 1 dX7_setConflict_77 rfl rfl rfl ?_
  obtain ⟨r78, h78, h⟩ := b1_some h
  refine go_V (k_X7_73 g) (st2 := [.int r78]) (pc' := 81) [.int x2, .int x3] [] h0 hx5 (c_X3_clearanceOf g fu x5 hx5 x2 x3 S h78) rfl rfl dX7_setConflict_78 rfl (Nat.le_of_ble_eq_true rfl) ⟨rfl, rfl, Nat.le_of_ble_eq_true rfl, Nat.le_of_ble_eq_true rfl⟩ ⟨Nat.le_of_ble_eq_true rfl, Nat.le_of_ble_eq_true rfl⟩ rfl ?_
  refine r_istore (pc' := 83) (L' := [(6, .int r78), (2, .int x2), (3, .int x3), (4, .int x4), (5, .ref (wA (wC g) 3 x5))]) h0 dX7_setConflict_81 (Nat.le_of_ble_eq_true rfl) rfl rfl ?_
  refine r_aload (pc' := 85) h0 4 dX7_setConflict_83 rfl rfl ?_
  refine r_iload_n (pc' := 86) h0 1 dX7_setConflict_85 rfl rfl rfl ?_
  refine r_iload_n (pc' := 87) h0 2 dX7_setConflict_86 rfl rfl rfl ?_
  refine r_iload (pc' := 89) h0 3 dX7_setConflict_87 rfl rfl ?_
  obtain ⟨r89, S89, h89, h⟩ := b2_some h
  refine go_V (k_X7_77 g) (st2 := []) (pc' := 92) [.int x2, .int x3, .int x4] [] h0 hx5 (c_X3_changeClearance g fu x5 hx5 x2 x3 x4 S h89) rfl rfl dX7_setConflict_89 rfl (Nat.le_of_ble_eq_true rfl) ⟨rfl, rfl, Nat.le_of_ble_eq_true rfl, Nat.le_of_ble_eq_true rfl⟩ ⟨Nat.le_of_ble_eq_true rfl, Nat.le_of_ble_eq_true rfl⟩ rfl ?_
  refine r_iload (pc' := 94) h0 0 dX7_setConflict_92 rfl rfl ?_
  exact x_iret h0 hE dX7_setConflict_94 ⟨Nat.le_of_ble_eq_true rfl, Nat.le_of_ble_eq_true rfl⟩ (by cases h; exact ⟨rfl, rfl, rfl⟩)
theorem wx_X7_setConflict_34 {g : GC} {X : MX} {r : (Nat ⊕ Int32)} {S' : Mem} (h0 : CX RX7 cX7_setConflict 7 rx_X7_setConflict X (wC g)) (hX : CXX X (wC g)) (fu : Nat) (x1 : Int32) (x2 : Int32) (x3 : Int32) (x4 : Int32) (hE : ENX (some .int) (tOf r) (oOf oI r) S' 5 30 X (wC g)) : ∀ (S : Mem), fx_X7_setConflict_34 fu x1 x2 x3 x4 S = some (r, S') → GV X (wC g) 7 3 18 S [] 34 [] := by
  intro S h
  rw [fx_X7_setConflict_34] at h
  exact x_throw (text := "same movements, or clearance out of range") (thAt.ok th_X7_44 (by decide +kernel)) h0 hX hE dX7_setConflict_34 dX7_setConflict_37 dX7_setConflict_38 dX7_setConflict_40 dX7_setConflict_43 (Nat.le_of_ble_eq_true rfl) ⟨Nat.le_of_ble_eq_true rfl, Nat.le_of_ble_eq_true rfl⟩ ⟨Nat.le_of_ble_eq_true rfl, Nat.le_of_ble_eq_true rfl⟩ ⟨Nat.le_of_ble_eq_true rfl, Nat.le_of_ble_eq_true rfl⟩ (by cases h; exact ⟨rfl, rfl⟩)
/-- the machine does what fx_X7_setConflict says -/
theorem cx_X7_setConflict (g : GC) (fu : Nat) (x1 : Int32) (x2 : Int32) (x3 : Int32) (x4 : Int32) (S : Mem) {r : (Nat ⊕ Int32)} {S' : Mem} (h : fx_X7_setConflict fu x1 x2 x3 x4 S = some (r, S')) : ctX yX7_setConflict cX7_setConflict 7 (some .int) rx_X7_setConflict 5 30 (wC g) [.ref (wA (wC g) 7 0), .int x1, .int x2, .int x3, .int x4] S (tOf r) (oOf oI r) S' := by
  refine ctx_of (own := RX7) (L := [(0, .ref (wA (wC g) 7 0)), (1, .int x1), (2, .int x2), (3, .int x3), (4, .int x4)]) (by decide +kernel) rfl (Nat.le_of_ble_eq_true rfl) rfl (fun X h0 hX hE => ?_)
  rw [fx_X7_setConflict] at h
  refine r_aload_n (pc' := 1) h0 0 dX7_setConflict_0 rfl rfl rfl ?_
  refine gf_X7_10 (pc' := 4) h0 (Nat.le_of_ble_eq_true rfl) dX7_setConflict_1 rfl ?_
  refine r_iload_n (pc' := 5) h0 1 dX7_setConflict_4 rfl rfl rfl ?_
  refine gx_V (n := 1) (ov := (oR (wC g) 3)) (pc' := 8) (ob_1 g) v_420 v_255 v_256 v_257 v_29 ⟨by decide +kernel, by decide +kernel, by decide +kernel⟩ [.int x1] [] h0 hX hE (Nat.le_of_ble_eq_true rfl) (fun za hza => cx_X1_at g fu x1 S hza) rfl rfl dX7_setConflict_5 rfl (Nat.le_of_ble_eq_true rfl) ⟨rfl, rfl, Nat.le_of_ble_eq_true rfl, Nat.le_of_ble_eq_true rfl⟩ ⟨Nat.le_of_ble_eq_true rfl, Nat.le_of_ble_eq_true rfl⟩ ⟨Nat.le_of_ble_eq_true rfl, Nat.le_of_ble_eq_true rfl⟩ h (fun E e => by cases e; exact ⟨rfl, rfl⟩) (fun r5 h h5 => ?_)
  show GV X (wC g) 7 1 6 S [(0, .ref (wA (wC g) 7 0)), (1, .int x1), (2, .int x2), (3, .int x3), (4, .int x4)] 8 [.ref (wA (wC g) 3 r5)]
  refine r_astore (pc' := 10) (L' := [(5, .ref (wA (wC g) 3 r5)), (0, .ref (wA (wC g) 7 0)), (1, .int x1), (2, .int x2), (3, .int x3), (4, .int x4)]) h0 dX7_setConflict_8 (Nat.le_of_ble_eq_true rfl) rfl rfl ?_
  refine r_iload_n (pc' := 11) h0 3 dX7_setConflict_10 rfl rfl rfl ?_
  refine gx_S (n := 1) (ov := oU) (pc' := 14) v_473 v_474 v_475 v_28 ⟨by decide +kernel, by decide +kernel, by decide +kernel⟩ [.int x2] [] h0 hX hE (fun za hza => cx_X7_checkMovement g fu x2 S hza) rfl rfl dX7_setConflict_11 rfl (Nat.le_of_ble_eq_true rfl) ⟨rfl, rfl, Nat.le_of_ble_eq_true rfl, Nat.le_of_ble_eq_true rfl⟩ ⟨Nat.le_of_ble_eq_true rfl, Nat.le_of_ble_eq_true rfl⟩ ⟨Nat.le_of_ble_eq_true rfl, Nat.le_of_ble_eq_true rfl⟩ h (fun E e => by cases e; exact ⟨rfl, rfl⟩) (fun r11 h h11 => ?_)
  show GV X (wC g) 7 2 12 S [(5, .ref (wA (wC g) 3 r5)), (0, .ref (wA (wC g) 7 0)), (1, .int x1), (2, .int x2), (3, .int x3), (4, .int x4)] 14 []
  refine r_iload_n (pc' := 15) h0 4 dX7_setConflict_14 rfl rfl rfl ?_
  refine gx_S (n := 1) (ov := oU) (pc' := 18) v_473 v_474 v_475 v_28 ⟨by decide +kernel, by decide +kernel, by decide +kernel⟩ [.int x3] [] h0 hX hE (fun za hza => cx_X7_checkMovement g fu x3 S hza) rfl rfl dX7_setConflict_15 rfl (Nat.le_of_ble_eq_true rfl) ⟨rfl, rfl, Nat.le_of_ble_eq_true rfl, Nat.le_of_ble_eq_true rfl⟩ ⟨Nat.le_of_ble_eq_true rfl, Nat.le_of_ble_eq_true rfl⟩ ⟨Nat.le_of_ble_eq_true rfl, Nat.le_of_ble_eq_true rfl⟩ h (fun E e => by cases e; exact ⟨rfl, rfl⟩) (fun r15 h h15 => ?_)
  show GV X (wC g) 7 3 18 S [(5, .ref (wA (wC g) 3 r5)), (0, .ref (wA (wC g) 7 0)), (1, .int x1), (2, .int x2), (3, .int x3), (4, .int x4)] 18 []
  refine r_iload_n (pc' := 19) h0 3 dX7_setConflict_18 rfl rfl rfl ?_
  refine r_iload_n (pc' := 20) h0 4 dX7_setConflict_19 rfl rfl rfl ?_
  refine r_ic_eq (pt := 34) (pf := 23) h0 dX7_setConflict_20 rfl rfl h (fun c20 h => ?_) (fun c20 h => ?_)
  · refine r_sub (L' := []) [] rfl ?_
    exact wx_X7_setConflict_34 h0 hX fu x1 x2 x3 x4 hE S h
  · refine r_iload (pc' := 25) h0 5 dX7_setConflict_23 rfl rfl ?_
    refine r_iconst (pc' := 26) h0 dX7_setConflict_25 ki_m1 rfl ?_
    refine r_bipush (pc' := 28) h0 dX7_setConflict_26 kb_9 rfl ?_
    obtain ⟨r28, h28, h⟩ := b1_some h
    refine go_S (k_X7_36 g) (st2 := [.int r28]) (pc' := 31) [.int x4, .int (-1), .int 9] [] h0 (c_X7_isOutside g fu x4 (-1) 9 S h28) rfl rfl dX7_setConflict_28 rfl (Nat.le_of_ble_eq_true rfl) ⟨rfl, rfl, Nat.le_of_ble_eq_true rfl, Nat.le_of_ble_eq_true rfl⟩ ⟨Nat.le_of_ble_eq_true rfl, Nat.le_of_ble_eq_true rfl⟩ rfl ?_
    refine r_if_eq (pt := 44) (pf := 34) h0 dX7_setConflict_31 rfl rfl h (fun c31 h => ?_) (fun c31 h => ?_)
    · refine r_aload_n (pc' := 45) h0 1 dX7_setConflict_44 rfl rfl rfl ?_
      refine gx_V (n := 0) (ov := oU) (pc' := 48) (ob_7 g) v_440 v_442 v_9 v_443 v_28 ⟨by decide +kernel, by decide +kernel, by decide +kernel⟩ [] [] h0 hX hE (Nat.le_of_ble_eq_true rfl) (fun za hza => cx_X7_checkSettingUp g fu S hza) rfl rfl dX7_setConflict_45 rfl (Nat.le_of_ble_eq_true rfl) ⟨rfl, rfl, Nat.le_of_ble_eq_true rfl, Nat.le_of_ble_eq_true rfl⟩ ⟨Nat.le_of_ble_eq_true rfl, Nat.le_of_ble_eq_true rfl⟩ ⟨Nat.le_of_ble_eq_true rfl, Nat.le_of_ble_eq_true rfl⟩ h (fun E e => by cases e; exact ⟨rfl, rfl⟩) (fun r45 h h45 => ?_)
      show GV X (wC g) 7 4 24 S [(5, .ref (wA (wC g) 3 r5)), (0, .ref (wA (wC g) 7 0)), (1, .int x1), (2, .int x2), (3, .int x3), (4, .int x4)] 48 []
      refine r_iload (pc' := 50) h0 5 dX7_setConflict_48 rfl rfl ?_
      refine r_iconst (pc' := 51) h0 dX7_setConflict_50 ki_m1 rfl ?_
      refine r_ic_eq (pt := 74) (pf := 54) h0 dX7_setConflict_51 rfl rfl h (fun c51 h => ?_) (fun c51 h => ?_)
      · refine r_sub (L' := [(2, .int x2), (3, .int x3), (4, .int x4), (5, .ref (wA (wC g) 3 r5))]) [3, 4, 5, 0] rfl ?_
        exact wx_X7_setConflict_74 h0 hX fu x1 x2 x3 x4 hE r5 (bx_X1_at h5) S h
      · refine r_aload (pc' := 56) h0 0 dX7_setConflict_54 rfl rfl ?_
        refine r_iload_n (pc' := 57) h0 3 dX7_setConflict_56 rfl rfl rfl ?_
        refine r_iload_n (pc' := 58) h0 4 dX7_setConflict_57 rfl rfl rfl ?_
        obtain ⟨r58, h58, h⟩ := b1_some h
        refine go_V (k_X7_62 g) (st2 := [.int r58]) (pc' := 61) [.int x2, .int x3] [] h0 (bx_X1_at h5) (c_X3_haveOnePhase g fu r5 (bx_X1_at h5) x2 x3 S h58) rfl rfl dX7_setConflict_58 rfl (Nat.le_of_ble_eq_true rfl) ⟨rfl, rfl, Nat.le_of_ble_eq_true rfl, Nat.le_of_ble_eq_true rfl⟩ ⟨Nat.le_of_ble_eq_true rfl, Nat.le_of_ble_eq_true rfl⟩ rfl ?_
        refine r_if_eq (pt := 74) (pf := 64) h0 dX7_setConflict_61 rfl rfl h (fun c61 h => ?_) (fun c61 h => ?_)
        · refine r_sub (L' := [(2, .int x2), (3, .int x3), (4, .int x4), (5, .ref (wA (wC g) 3 r5))]) [3, 4, 5, 0] rfl ?_
          exact wx_X7_setConflict_74 h0 hX fu x1 x2 x3 x4 hE r5 (bx_X1_at h5) S h
        · exact x_throw (text := "conflict in a phase") (thAt.ok th_X7_72 (by decide +kernel)) h0 hX hE dX7_setConflict_64 dX7_setConflict_67 dX7_setConflict_68 dX7_setConflict_70 dX7_setConflict_73 (Nat.le_of_ble_eq_true rfl) ⟨Nat.le_of_ble_eq_true rfl, Nat.le_of_ble_eq_true rfl⟩ ⟨Nat.le_of_ble_eq_true rfl, Nat.le_of_ble_eq_true rfl⟩ ⟨Nat.le_of_ble_eq_true rfl, Nat.le_of_ble_eq_true rfl⟩ (by cases h; exact ⟨rfl, rfl⟩)
    · refine r_sub (L' := []) [] rfl ?_
      exact wx_X7_setConflict_34 h0 hX fu x1 x2 x3 x4 hE S h
/-- the machine does what fx_X7_setFlow says -/
theorem cx_X7_setFlow (g : GC) (fu : Nat) (x1 : Int32) (x2 : Int32) (x3 : Int32) (S : Mem) {r : (Nat ⊕ Int32)} {S' : Mem} (h : fx_X7_setFlow fu x1 x2 x3 S = some (r, S')) : ctX yX7_setFlow cX7_setFlow 6 (some .int) rx_X7_setFlow 3 18 (wC g) [.ref (wA (wC g) 7 0), .int x1, .int x2, .int x3] S (tOf r) (oOf oI r) S' := by
  refine ctx_of (own := RX7) (L := [(0, .ref (wA (wC g) 7 0)), (1, .int x1), (2, .int x2), (3, .int x3)]) (by decide +kernel) rfl (Nat.le_of_ble_eq_true rfl) rfl (fun X h0 hX hE => ?_)
  rw [fx_X7_setFlow] at h
  refine r_aload_n (pc' := 1) h0 0 dX7_setFlow_0 rfl rfl rfl ?_
  refine gf_X7_10 (pc' := 4) h0 (Nat.le_of_ble_eq_true rfl) dX7_setFlow_1 rfl ?_
  refine r_iload_n (pc' := 5) h0 1 dX7_setFlow_4 rfl rfl rfl ?_
  refine gx_V (n := 1) (ov := (oR (wC g) 3)) (pc' := 8) (ob_1 g) v_420 v_255 v_256 v_257 v_29 ⟨by decide +kernel, by decide +kernel, by decide +kernel⟩ [.int x1] [] h0 hX hE (Nat.le_of_ble_eq_true rfl) (fun za hza => cx_X1_at g fu x1 S hza) rfl rfl dX7_setFlow_5 rfl (Nat.le_of_ble_eq_true rfl) ⟨rfl, rfl, Nat.le_of_ble_eq_true rfl, Nat.le_of_ble_eq_true rfl⟩ ⟨Nat.le_of_ble_eq_true rfl, Nat.le_of_ble_eq_true rfl⟩ ⟨Nat.le_of_ble_eq_true rfl, Nat.le_of_ble_eq_true rfl⟩ h (fun E e => by cases e; exact ⟨rfl, rfl⟩) (fun r5 h h5 => ?_)
  show GV X (wC g) 6 1 6 S [(0, .ref (wA (wC g) 7 0)), (1, .int x1), (2, .int x2), (3, .int x3)] 8 [.ref (wA (wC g) 3 r5)]
  refine r_astore (pc' := 10) (L' := [(4, .ref (wA (wC g) 3 r5)), (0, .ref (wA (wC g) 7 0)), (1, .int x1), (2, .int x2), (3, .int x3)]) h0 dX7_setFlow_8 (Nat.le_of_ble_eq_true rfl) rfl rfl ?_
  refine r_iload_n (pc' := 11) h0 3 dX7_setFlow_10 rfl rfl rfl ?_
  refine gx_S (n := 1) (ov := oU) (pc' := 14) v_473 v_474 v_475 v_28 ⟨by decide +kernel, by decide +kernel, by decide +kernel⟩ [.int x2] [] h0 hX hE (fun za hza => cx_X7_checkMovement g fu x2 S hza) rfl rfl dX7_setFlow_11 rfl (Nat.le_of_ble_eq_true rfl) ⟨rfl, rfl, Nat.le_of_ble_eq_true rfl, Nat.le_of_ble_eq_true rfl⟩ ⟨Nat.le_of_ble_eq_true rfl, Nat.le_of_ble_eq_true rfl⟩ ⟨Nat.le_of_ble_eq_true rfl, Nat.le_of_ble_eq_true rfl⟩ h (fun E e => by cases e; exact ⟨rfl, rfl⟩) (fun r11 h h11 => ?_)
  show GV X (wC g) 6 2 12 S [(4, .ref (wA (wC g) 3 r5)), (0, .ref (wA (wC g) 7 0)), (1, .int x1), (2, .int x2), (3, .int x3)] 14 []
  refine r_iload_n (pc' := 15) h0 4 dX7_setFlow_14 rfl rfl rfl ?_
  refine r_iconst (pc' := 16) h0 dX7_setFlow_15 ki_0 rfl ?_
  refine r_sipush (pc' := 19) h0 dX7_setFlow_16 ks_1800 rfl ?_
  obtain ⟨r19, h19, h⟩ := b1_some h
  refine go_S (k_X7_36 g) (st2 := [.int r19]) (pc' := 22) [.int x3, .int 0, .int 1800] [] h0 (c_X7_isOutside g fu x3 0 1800 S h19) rfl rfl dX7_setFlow_19 rfl (Nat.le_of_ble_eq_true rfl) ⟨rfl, rfl, Nat.le_of_ble_eq_true rfl, Nat.le_of_ble_eq_true rfl⟩ ⟨Nat.le_of_ble_eq_true rfl, Nat.le_of_ble_eq_true rfl⟩ rfl ?_
  refine r_if_eq (pt := 35) (pf := 25) h0 dX7_setFlow_22 rfl rfl h (fun c22 h => ?_) (fun c22 h => ?_)
  · refine r_aload_n (pc' := 36) h0 1 dX7_setFlow_35 rfl rfl rfl ?_
    refine gx_V (n := 0) (ov := oU) (pc' := 39) (ob_7 g) v_440 v_442 v_9 v_443 v_28 ⟨by decide +kernel, by decide +kernel, by decide +kernel⟩ [] [] h0 hX hE (Nat.le_of_ble_eq_true rfl) (fun za hza => cx_X7_checkSettingUp g fu S hza) rfl rfl dX7_setFlow_36 rfl (Nat.le_of_ble_eq_true rfl) ⟨rfl, rfl, Nat.le_of_ble_eq_true rfl, Nat.le_of_ble_eq_true rfl⟩ ⟨Nat.le_of_ble_eq_true rfl, Nat.le_of_ble_eq_true rfl⟩ ⟨Nat.le_of_ble_eq_true rfl, Nat.le_of_ble_eq_true rfl⟩ h (fun E e => by cases e; exact ⟨rfl, rfl⟩) (fun r36 h h36 => ?_)
    show GV X (wC g) 6 3 18 S [(4, .ref (wA (wC g) 3 r5)), (0, .ref (wA (wC g) 7 0)), (1, .int x1), (2, .int x2), (3, .int x3)] 39 []
    refine r_aload (pc' := 41) h0 0 dX7_setFlow_39 rfl rfl ?_
    refine r_iload_n (pc' := 42) h0 3 dX7_setFlow_41 rfl rfl rfl ?_
    obtain ⟨r42, h42, h⟩ := b1_some h
    refine go_V (k_X7_97 g) (st2 := [.int r42]) (pc' := 45) [.int x2] [] h0 (bx_X1_at h5) (c_X3_flowOf g fu r5 (bx_X1_at h5) x2 S h42) rfl rfl dX7_setFlow_42 rfl (Nat.le_of_ble_eq_true rfl) ⟨rfl, rfl, Nat.le_of_ble_eq_true rfl, Nat.le_of_ble_eq_true rfl⟩ ⟨Nat.le_of_ble_eq_true rfl, Nat.le_of_ble_eq_true rfl⟩ rfl ?_
    refine r_istore (pc' := 47) (L' := [(5, .int r42), (4, .ref (wA (wC g) 3 r5)), (0, .ref (wA (wC g) 7 0)), (1, .int x1), (2, .int x2), (3, .int x3)]) h0 dX7_setFlow_45 (Nat.le_of_ble_eq_true rfl) rfl rfl ?_
    refine r_aload (pc' := 49) h0 1 dX7_setFlow_47 rfl rfl ?_
    refine r_iload_n (pc' := 50) h0 4 dX7_setFlow_49 rfl rfl rfl ?_
    refine r_iload_n (pc' := 51) h0 5 dX7_setFlow_50 rfl rfl rfl ?_
    obtain ⟨r51, S51, h51, h⟩ := b2_some h
    refine go_V (k_X7_101 g) (st2 := []) (pc' := 54) [.int x2, .int x3] [] h0 (bx_X1_at h5) (c_X3_changeFlow g fu r5 (bx_X1_at h5) x2 x3 S h51) rfl rfl dX7_setFlow_51 rfl (Nat.le_of_ble_eq_true rfl) ⟨rfl, rfl, Nat.le_of_ble_eq_true rfl, Nat.le_of_ble_eq_true rfl⟩ ⟨Nat.le_of_ble_eq_true rfl, Nat.le_of_ble_eq_true rfl⟩ rfl ?_
    refine r_iload (pc' := 56) h0 0 dX7_setFlow_54 rfl rfl ?_
    exact x_iret h0 hE dX7_setFlow_56 ⟨Nat.le_of_ble_eq_true rfl, Nat.le_of_ble_eq_true rfl⟩ (by cases h; exact ⟨rfl, rfl, rfl⟩)
  · exact x_throw (text := "flow out of range") (thAt.ok th_X7_44 (by decide +kernel)) h0 hX hE dX7_setFlow_25 dX7_setFlow_28 dX7_setFlow_29 dX7_setFlow_31 dX7_setFlow_34 (Nat.le_of_ble_eq_true rfl) ⟨Nat.le_of_ble_eq_true rfl, Nat.le_of_ble_eq_true rfl⟩ ⟨Nat.le_of_ble_eq_true rfl, Nat.le_of_ble_eq_true rfl⟩ ⟨Nat.le_of_ble_eq_true rfl, Nat.le_of_ble_eq_true rfl⟩ (by cases h; exact ⟨rfl, rfl⟩)
theorem wx_X7_setLink_30 {g : GC} {X : MX} {r : (Nat ⊕ Unit)} {S' : Mem} (h0 : CX RX7 cX7_setLink 5 rx_X7_setLink X (wC g)) (hX : CXX X (wC g)) (fu : Nat) (x1 : Int32) (x2 : Int32) (x3 : Int32) (hE : ENX none (tOf r) (oOf oU r) S' 3 18 X (wC g)) : ∀ (S : Mem), fx_X7_setLink_30 fu x1 x2 x3 S = some (r, S') → GV X (wC g) 5 2 12 S [] 30 [] := by
  intro S h
  rw [fx_X7_setLink_30] at h
  exact x_throw (text := "seconds or room out of range") (thAt.ok th_X7_44 (by decide +kernel)) h0 hX hE dX7_setLink_30 dX7_setLink_33 dX7_setLink_34 dX7_setLink_36 dX7_setLink_39 (Nat.le_of_ble_eq_true rfl) ⟨Nat.le_of_ble_eq_true rfl, Nat.le_of_ble_eq_true rfl⟩ ⟨Nat.le_of_ble_eq_true rfl, Nat.le_of_ble_eq_true rfl⟩ ⟨Nat.le_of_ble_eq_true rfl, Nat.le_of_ble_eq_true rfl⟩ (by cases h; exact ⟨rfl, rfl⟩)
/-- the machine does what fx_X7_setLink says -/
theorem cx_X7_setLink (g : GC) (fu : Nat) (x1 : Int32) (x2 : Int32) (x3 : Int32) (S : Mem) {r : (Nat ⊕ Unit)} {S' : Mem} (h : fx_X7_setLink fu x1 x2 x3 S = some (r, S')) : ctX yX7_setLink cX7_setLink 5 none rx_X7_setLink 3 18 (wC g) [.ref (wA (wC g) 7 0), .int x1, .int x2, .int x3] S (tOf r) (oOf oU r) S' := by
  refine ctx_of (own := RX7) (L := [(0, .ref (wA (wC g) 7 0)), (1, .int x1), (2, .int x2), (3, .int x3)]) (by decide +kernel) rfl (Nat.le_of_ble_eq_true rfl) rfl (fun X h0 hX hE => ?_)
  rw [fx_X7_setLink] at h
  refine r_aload_n (pc' := 1) h0 0 dX7_setLink_0 rfl rfl rfl ?_
  refine gf_X7_10 (pc' := 4) h0 (Nat.le_of_ble_eq_true rfl) dX7_setLink_1 rfl ?_
  refine r_iload_n (pc' := 5) h0 1 dX7_setLink_4 rfl rfl rfl ?_
  refine gx_V (n := 1) (ov := (oR (wC g) 4)) (pc' := 8) (ob_1 g) v_514 v_515 v_516 v_517 v_29 ⟨by decide +kernel, by decide +kernel, by decide +kernel⟩ [.int x1] [] h0 hX hE (Nat.le_of_ble_eq_true rfl) (fun za hza => cx_X1_linkFrom g fu x1 S hza) rfl rfl dX7_setLink_5 rfl (Nat.le_of_ble_eq_true rfl) ⟨rfl, rfl, Nat.le_of_ble_eq_true rfl, Nat.le_of_ble_eq_true rfl⟩ ⟨Nat.le_of_ble_eq_true rfl, Nat.le_of_ble_eq_true rfl⟩ ⟨Nat.le_of_ble_eq_true rfl, Nat.le_of_ble_eq_true rfl⟩ h (fun E e => by cases e; exact ⟨rfl, rfl⟩) (fun r5 h h5 => ?_)
  show GV X (wC g) 5 2 12 S [(0, .ref (wA (wC g) 7 0)), (1, .int x1), (2, .int x2), (3, .int x3)] 8 [.ref (wA (wC g) 4 r5)]
  refine r_astore (pc' := 10) (L' := [(4, .ref (wA (wC g) 4 r5)), (0, .ref (wA (wC g) 7 0)), (1, .int x1), (2, .int x2), (3, .int x3)]) h0 dX7_setLink_8 (Nat.le_of_ble_eq_true rfl) rfl rfl ?_
  refine r_iload_n (pc' := 11) h0 3 dX7_setLink_10 rfl rfl rfl ?_
  refine r_iconst (pc' := 12) h0 dX7_setLink_11 ki_1 rfl ?_
  refine r_bipush (pc' := 14) h0 dX7_setLink_12 kb_60 rfl ?_
  obtain ⟨r14, h14, h⟩ := b1_some h
  refine go_S (k_X7_36 g) (st2 := [.int r14]) (pc' := 17) [.int x2, .int 1, .int 60] [] h0 (c_X7_isOutside g fu x2 1 60 S h14) rfl rfl dX7_setLink_14 rfl (Nat.le_of_ble_eq_true rfl) ⟨rfl, rfl, Nat.le_of_ble_eq_true rfl, Nat.le_of_ble_eq_true rfl⟩ ⟨Nat.le_of_ble_eq_true rfl, Nat.le_of_ble_eq_true rfl⟩ rfl ?_
  refine r_if_ne (pt := 30) (pf := 20) h0 dX7_setLink_17 rfl rfl h (fun c17 h => ?_) (fun c17 h => ?_)
  · refine r_sub (L' := []) [] rfl ?_
    exact wx_X7_setLink_30 h0 hX fu x1 x2 x3 hE S h
  · refine r_iload_n (pc' := 21) h0 4 dX7_setLink_20 rfl rfl rfl ?_
    refine r_iconst (pc' := 22) h0 dX7_setLink_21 ki_1 rfl ?_
    refine r_bipush (pc' := 24) h0 dX7_setLink_22 kb_40 rfl ?_
    obtain ⟨r24, h24, h⟩ := b1_some h
    refine go_S (k_X7_36 g) (st2 := [.int r24]) (pc' := 27) [.int x3, .int 1, .int 40] [] h0 (c_X7_isOutside g fu x3 1 40 S h24) rfl rfl dX7_setLink_24 rfl (Nat.le_of_ble_eq_true rfl) ⟨rfl, rfl, Nat.le_of_ble_eq_true rfl, Nat.le_of_ble_eq_true rfl⟩ ⟨Nat.le_of_ble_eq_true rfl, Nat.le_of_ble_eq_true rfl⟩ rfl ?_
    refine r_if_eq (pt := 40) (pf := 30) h0 dX7_setLink_27 rfl rfl h (fun c27 h => ?_) (fun c27 h => ?_)
    · refine r_aload_n (pc' := 41) h0 1 dX7_setLink_40 rfl rfl rfl ?_
      refine gx_V (n := 0) (ov := oU) (pc' := 44) (ob_7 g) v_440 v_442 v_9 v_443 v_28 ⟨by decide +kernel, by decide +kernel, by decide +kernel⟩ [] [] h0 hX hE (Nat.le_of_ble_eq_true rfl) (fun za hza => cx_X7_checkSettingUp g fu S hza) rfl rfl dX7_setLink_41 rfl (Nat.le_of_ble_eq_true rfl) ⟨rfl, rfl, Nat.le_of_ble_eq_true rfl, Nat.le_of_ble_eq_true rfl⟩ ⟨Nat.le_of_ble_eq_true rfl, Nat.le_of_ble_eq_true rfl⟩ ⟨Nat.le_of_ble_eq_true rfl, Nat.le_of_ble_eq_true rfl⟩ h (fun E e => by cases e; exact ⟨rfl, rfl⟩) (fun r41 h h41 => ?_)
      show GV X (wC g) 5 3 18 S [(4, .ref (wA (wC g) 4 r5)), (0, .ref (wA (wC g) 7 0)), (1, .int x1), (2, .int x2), (3, .int x3)] 44 []
      refine r_aload (pc' := 46) h0 0 dX7_setLink_44 rfl rfl ?_
      refine r_iload_n (pc' := 47) h0 3 dX7_setLink_46 rfl rfl rfl ?_
      refine pf_X7_110 (pc' := 50) h0 (bx_X1_linkFrom h5) dX7_setLink_47 rfl ?_
      refine r_aload (pc' := 52) h0 0 dX7_setLink_50 rfl rfl ?_
      refine r_iload_n (pc' := 53) h0 4 dX7_setLink_52 rfl rfl rfl ?_
      refine pf_X7_115 (pc' := 56) h0 (bx_X1_linkFrom h5) dX7_setLink_53 rfl ?_
      exact x_vret h0 hE dX7_setLink_56 ⟨Nat.le_of_ble_eq_true rfl, Nat.le_of_ble_eq_true rfl⟩ (by cases h; exact ⟨rfl, rfl, rfl⟩)
    · refine r_sub (L' := []) [] rfl ?_
      exact wx_X7_setLink_30 h0 hX fu x1 x2 x3 hE S h
/-- the machine does what fx_X7_setOffset says -/
theorem cx_X7_setOffset (g : GC) (fu : Nat) (x1 : Int32) (x2 : Int32) (S : Mem) {r : (Nat ⊕ Int32)} {S' : Mem} (h : fx_X7_setOffset fu x1 x2 S = some (r, S')) : ctX yX7_setOffset cX7_setOffset 5 (some .int) rx_X7_setOffset 2 12 (wC g) [.ref (wA (wC g) 7 0), .int x1, .int x2] S (tOf r) (oOf oI r) S' := by
  refine ctx_of (own := RX7) (L := [(0, .ref (wA (wC g) 7 0)), (1, .int x1), (2, .int x2)]) (by decide +kernel) rfl (Nat.le_of_ble_eq_true rfl) rfl (fun X h0 hX hE => ?_)
  rw [fx_X7_setOffset] at h
  refine r_aload_n (pc' := 1) h0 0 dX7_setOffset_0 rfl rfl rfl ?_
  refine gf_X7_10 (pc' := 4) h0 (Nat.le_of_ble_eq_true rfl) dX7_setOffset_1 rfl ?_
  refine r_iload_n (pc' := 5) h0 1 dX7_setOffset_4 rfl rfl rfl ?_
  refine gx_V (n := 1) (ov := (oR (wC g) 3)) (pc' := 8) (ob_1 g) v_420 v_255 v_256 v_257 v_29 ⟨by decide +kernel, by decide +kernel, by decide +kernel⟩ [.int x1] [] h0 hX hE (Nat.le_of_ble_eq_true rfl) (fun za hza => cx_X1_at g fu x1 S hza) rfl rfl dX7_setOffset_5 rfl (Nat.le_of_ble_eq_true rfl) ⟨rfl, rfl, Nat.le_of_ble_eq_true rfl, Nat.le_of_ble_eq_true rfl⟩ ⟨Nat.le_of_ble_eq_true rfl, Nat.le_of_ble_eq_true rfl⟩ ⟨Nat.le_of_ble_eq_true rfl, Nat.le_of_ble_eq_true rfl⟩ h (fun E e => by cases e; exact ⟨rfl, rfl⟩) (fun r5 h h5 => ?_)
  show GV X (wC g) 5 1 6 S [(0, .ref (wA (wC g) 7 0)), (1, .int x1), (2, .int x2)] 8 [.ref (wA (wC g) 3 r5)]
  refine r_astore_n (pc' := 9) (L' := [(3, .ref (wA (wC g) 3 r5)), (0, .ref (wA (wC g) 7 0)), (1, .int x1), (2, .int x2)]) h0 dX7_setOffset_8 rfl (Nat.le_of_ble_eq_true rfl) rfl rfl ?_
  refine r_iload_n (pc' := 10) h0 3 dX7_setOffset_9 rfl rfl rfl ?_
  refine r_iconst (pc' := 11) h0 dX7_setOffset_10 ki_0 rfl ?_
  refine r_aload_n (pc' := 12) h0 1 dX7_setOffset_11 rfl rfl rfl ?_
  refine gf_X7_10 (pc' := 15) h0 (Nat.le_of_ble_eq_true rfl) dX7_setOffset_12 rfl ?_
  refine gf_X7_118 (pc' := 18) h0 (Nat.le_of_ble_eq_true rfl) dX7_setOffset_15 rfl ?_
  refine r_iconst (pc' := 19) h0 dX7_setOffset_18 ki_1 rfl ?_
  refine r_isub (pc' := 20) h0 dX7_setOffset_19 rfl ?_
  obtain ⟨r20, h20, h⟩ := b1_some h
  refine go_S (k_X7_36 g) (st2 := [.int r20]) (pc' := 23) [.int x2, .int 0, .int ((S.1 1 0 2) - 1)] [] h0 (c_X7_isOutside g fu x2 0 ((S.1 1 0 2) - 1) S h20) rfl rfl dX7_setOffset_20 rfl (Nat.le_of_ble_eq_true rfl) ⟨rfl, rfl, Nat.le_of_ble_eq_true rfl, Nat.le_of_ble_eq_true rfl⟩ ⟨Nat.le_of_ble_eq_true rfl, Nat.le_of_ble_eq_true rfl⟩ rfl ?_
  refine r_if_eq (pt := 36) (pf := 26) h0 dX7_setOffset_23 rfl rfl h (fun c23 h => ?_) (fun c23 h => ?_)
  · refine r_aload_n (pc' := 37) h0 1 dX7_setOffset_36 rfl rfl rfl ?_
    refine gx_V (n := 0) (ov := oU) (pc' := 40) (ob_7 g) v_440 v_442 v_9 v_443 v_28 ⟨by decide +kernel, by decide +kernel, by decide +kernel⟩ [] [] h0 hX hE (Nat.le_of_ble_eq_true rfl) (fun za hza => cx_X7_checkSettingUp g fu S hza) rfl rfl dX7_setOffset_37 rfl (Nat.le_of_ble_eq_true rfl) ⟨rfl, rfl, Nat.le_of_ble_eq_true rfl, Nat.le_of_ble_eq_true rfl⟩ ⟨Nat.le_of_ble_eq_true rfl, Nat.le_of_ble_eq_true rfl⟩ ⟨Nat.le_of_ble_eq_true rfl, Nat.le_of_ble_eq_true rfl⟩ h (fun E e => by cases e; exact ⟨rfl, rfl⟩) (fun r37 h h37 => ?_)
    show GV X (wC g) 5 2 12 S [(3, .ref (wA (wC g) 3 r5)), (0, .ref (wA (wC g) 7 0)), (1, .int x1), (2, .int x2)] 40 []
    refine r_aload_n (pc' := 41) h0 0 dX7_setOffset_40 rfl rfl rfl ?_
    refine gf_X7_123 (pc' := 44) h0 (bx_X1_at h5) dX7_setOffset_41 rfl ?_
    refine r_istore (pc' := 46) (L' := [(4, .int (S.1 3 r5 9)), (3, .ref (wA (wC g) 3 r5)), (0, .ref (wA (wC g) 7 0)), (1, .int x1), (2, .int x2)]) h0 dX7_setOffset_44 (Nat.le_of_ble_eq_true rfl) rfl rfl ?_
    refine r_aload_n (pc' := 47) h0 1 dX7_setOffset_46 rfl rfl rfl ?_
    refine r_iload_n (pc' := 48) h0 4 dX7_setOffset_47 rfl rfl rfl ?_
    refine pf_X7_123 (pc' := 51) h0 (bx_X1_at h5) dX7_setOffset_48 rfl ?_
    refine r_iload (pc' := 53) h0 0 dX7_setOffset_51 rfl rfl ?_
    exact x_iret h0 hE dX7_setOffset_53 ⟨Nat.le_of_ble_eq_true rfl, Nat.le_of_ble_eq_true rfl⟩ (by cases h; exact ⟨rfl, rfl, rfl⟩)
  · exact x_throw (text := "offset out of range") (thAt.ok th_X7_44 (by decide +kernel)) h0 hX hE dX7_setOffset_26 dX7_setOffset_29 dX7_setOffset_30 dX7_setOffset_32 dX7_setOffset_35 (Nat.le_of_ble_eq_true rfl) ⟨Nat.le_of_ble_eq_true rfl, Nat.le_of_ble_eq_true rfl⟩ ⟨Nat.le_of_ble_eq_true rfl, Nat.le_of_ble_eq_true rfl⟩ ⟨Nat.le_of_ble_eq_true rfl, Nat.le_of_ble_eq_true rfl⟩ (by cases h; exact ⟨rfl, rfl⟩)
theorem wx_X7_setPhases_121 {g : GC} {X : MX} {r : (Nat ⊕ Int32)} {S' : Mem} (h0 : CX RX7 cX7_setPhases 7 rx_X7_setPhases X (wC g)) (hX : CXX X (wC g)) (fu : Nat) (x1 : Int32) (x2 : Int32) (x3 : Int32) (x4 : Int32) (x5 : Int32) (hE : ENX (some .int) (tOf r) (oOf oI r) S' 3 18 X (wC g)) : ∀ (S : Mem), fx_X7_setPhases_121 fu x1 x2 x3 x4 x5 S = some (r, S') → GV X (wC g) 7 2 12 S [] 121 [] := by
  intro S h
  rw [fx_X7_setPhases_121] at h
  exact x_throw (text := "conflict in a phase") (thAt.ok th_X7_72 (by decide +kernel)) h0 hX hE dX7_setPhases_121 dX7_setPhases_124 dX7_setPhases_125 dX7_setPhases_127 dX7_setPhases_130 (Nat.le_of_ble_eq_true rfl) ⟨Nat.le_of_ble_eq_true rfl, Nat.le_of_ble_eq_true rfl⟩ ⟨Nat.le_of_ble_eq_true rfl, Nat.le_of_ble_eq_true rfl⟩ ⟨Nat.le_of_ble_eq_true rfl, Nat.le_of_ble_eq_true rfl⟩ (by cases h; exact ⟨rfl, rfl⟩)
theorem wx_X7_setPhases_69 {g : GC} {X : MX} {r : (Nat ⊕ Int32)} {S' : Mem} (h0 : CX RX7 cX7_setPhases 7 rx_X7_setPhases X (wC g)) (hX : CXX X (wC g)) (fu : Nat) (x1 : Int32) (x2 : Int32) (x3 : Int32) (x4 : Int32) (x5 : Int32) (hE : ENX (some .int) (tOf r) (oOf oI r) S' 3 18 X (wC g)) : ∀ (S : Mem), fx_X7_setPhases_69 fu x1 x2 x3 x4 x5 S = some (r, S') → GV X (wC g) 7 1 6 S [] 69 [] := by
  intro S h
  rw [fx_X7_setPhases_69] at h
  exact x_throw (text := "set of movements out of range") (thAt.ok th_X7_44 (by decide +kernel)) h0 hX hE dX7_setPhases_69 dX7_setPhases_72 dX7_setPhases_73 dX7_setPhases_75 dX7_setPhases_78 (Nat.le_of_ble_eq_true rfl) ⟨Nat.le_of_ble_eq_true rfl, Nat.le_of_ble_eq_true rfl⟩ ⟨Nat.le_of_ble_eq_true rfl, Nat.le_of_ble_eq_true rfl⟩ ⟨Nat.le_of_ble_eq_true rfl, Nat.le_of_ble_eq_true rfl⟩ (by cases h; exact ⟨rfl, rfl⟩)
theorem wx_X7_setPhases_63 {g : GC} {X : MX} {r : (Nat ⊕ Int32)} {S' : Mem} (h0 : CX RX7 cX7_setPhases 7 rx_X7_setPhases X (wC g)) (hX : CXX X (wC g)) (fu : Nat) (x1 : Int32) (x2 : Int32) (x3 : Int32) (x4 : Int32) (x5 : Int32) (hE : ENX (some .int) (tOf r) (oOf oI r) S' 3 18 X (wC g)) : ∀ (x6 : Nat) (hx6 : x6 < 5) (t0 : Int32) (t1 : Int32) (t2 : Int32) (S : Mem), fx_X7_setPhases_63 fu x1 x2 x3 x4 x5 x6 t0 t1 t2 S = some (r, S') → GV X (wC g) 7 1 6 S [(0, .ref (wA (wC g) 7 0)), (2, .int x2), (3, .int x3), (4, .int x4), (5, .int x5), (6, .ref (wA (wC g) 3 x6))] 63 [.int t0, .int t1, .int t2] := by
  intro x6 hx6 t0 t1 t2 S h
  rw [fx_X7_setPhases_63] at h
  obtain ⟨r63, h63, h⟩ := b1_some h
  refine go_S (k_X7_36 g) (st2 := [.int r63]) (pc' := 66) [.int t2, .int t1, .int t0] [] h0 (c_X7_isOutside g fu t2 t1 t0 S h63) rfl rfl dX7_setPhases_63 rfl (Nat.le_of_ble_eq_true rfl) ⟨rfl, rfl, Nat.le_of_ble_eq_true rfl, Nat.le_of_ble_eq_true rfl⟩ ⟨Nat.le_of_ble_eq_true rfl, Nat.le_of_ble_eq_true rfl⟩ rfl ?_
  refine r_if_eq (pt := 79) (pf := 69) h0 dX7_setPhases_66 rfl rfl h (fun c66 h => ?_) (fun c66 h => ?_)
  · refine r_aload_n (pc' := 80) h0 0 dX7_setPhases_79 rfl rfl rfl ?_
    refine gx_V (n := 0) (ov := oU) (pc' := 83) (ob_7 g) v_440 v_442 v_9 v_443 v_28 ⟨by decide +kernel, by decide +kernel, by decide +kernel⟩ [] [] h0 hX hE (Nat.le_of_ble_eq_true rfl) (fun za hza => cx_X7_checkSettingUp g fu S hza) rfl rfl dX7_setPhases_80 rfl (Nat.le_of_ble_eq_true rfl) ⟨rfl, rfl, Nat.le_of_ble_eq_true rfl, Nat.le_of_ble_eq_true rfl⟩ ⟨Nat.le_of_ble_eq_true rfl, Nat.le_of_ble_eq_true rfl⟩ ⟨Nat.le_of_ble_eq_true rfl, Nat.le_of_ble_eq_true rfl⟩ h (fun E e => by cases e; exact ⟨rfl, rfl⟩) (fun r80 h h80 => ?_)
    show GV X (wC g) 7 2 12 S [(0, .ref (wA (wC g) 7 0)), (2, .int x2), (3, .int x3), (4, .int x4), (5, .int x5), (6, .ref (wA (wC g) 3 x6))] 83 []
    refine r_aload (pc' := 85) h0 5 dX7_setPhases_83 rfl rfl ?_
    refine r_iload_n (pc' := 86) h0 1 dX7_setPhases_85 rfl rfl rfl ?_
    obtain ⟨r86, h86, h⟩ := b1_some h
    refine go_V (k_X7_83 g) (st2 := [.int r86]) (pc' := 89) [.int x2] [] h0 hx6 (c_X3_hasConflictIn g fu x6 hx6 x2 S h86) rfl rfl dX7_setPhases_86 rfl (Nat.le_of_ble_eq_true rfl) ⟨rfl, rfl, Nat.le_of_ble_eq_true rfl, Nat.le_of_ble_eq_true rfl⟩ ⟨Nat.le_of_ble_eq_true rfl, Nat.le_of_ble_eq_true rfl⟩ rfl ?_
    refine r_if_ne (pt := 121) (pf := 92) h0 dX7_setPhases_89 rfl rfl h (fun c89 h => ?_) (fun c89 h => ?_)
    · refine r_sub (L' := []) [] rfl ?_
      exact wx_X7_setPhases_121 h0 hX fu x1 x2 x3 x4 x5 hE S h
    · refine r_aload (pc' := 94) h0 5 dX7_setPhases_92 rfl rfl ?_
      refine r_iload_n (pc' := 95) h0 2 dX7_setPhases_94 rfl rfl rfl ?_
      obtain ⟨r95, h95, h⟩ := b1_some h
      refine go_V (k_X7_83 g) (st2 := [.int r95]) (pc' := 98) [.int x3] [] h0 hx6 (c_X3_hasConflictIn g fu x6 hx6 x3 S h95) rfl rfl dX7_setPhases_95 rfl (Nat.le_of_ble_eq_true rfl) ⟨rfl, rfl, Nat.le_of_ble_eq_true rfl, Nat.le_of_ble_eq_true rfl⟩ ⟨Nat.le_of_ble_eq_true rfl, Nat.le_of_ble_eq_true rfl⟩ rfl ?_
      refine r_if_ne (pt := 121) (pf := 101) h0 dX7_setPhases_98 rfl rfl h (fun c98 h => ?_) (fun c98 h => ?_)
      · refine r_sub (L' := []) [] rfl ?_
        exact wx_X7_setPhases_121 h0 hX fu x1 x2 x3 x4 x5 hE S h
      · refine r_aload (pc' := 103) h0 5 dX7_setPhases_101 rfl rfl ?_
        refine r_iload (pc' := 105) h0 3 dX7_setPhases_103 rfl rfl ?_
        obtain ⟨r105, h105, h⟩ := b1_some h
        refine go_V (k_X7_83 g) (st2 := [.int r105]) (pc' := 108) [.int x4] [] h0 hx6 (c_X3_hasConflictIn g fu x6 hx6 x4 S h105) rfl rfl dX7_setPhases_105 rfl (Nat.le_of_ble_eq_true rfl) ⟨rfl, rfl, Nat.le_of_ble_eq_true rfl, Nat.le_of_ble_eq_true rfl⟩ ⟨Nat.le_of_ble_eq_true rfl, Nat.le_of_ble_eq_true rfl⟩ rfl ?_
        refine r_if_ne (pt := 121) (pf := 111) h0 dX7_setPhases_108 rfl rfl h (fun c108 h => ?_) (fun c108 h => ?_)
        · refine r_sub (L' := []) [] rfl ?_
          exact wx_X7_setPhases_121 h0 hX fu x1 x2 x3 x4 x5 hE S h
        · refine r_aload (pc' := 113) h0 5 dX7_setPhases_111 rfl rfl ?_
          refine r_iload (pc' := 115) h0 4 dX7_setPhases_113 rfl rfl ?_
          obtain ⟨r115, h115, h⟩ := b1_some h
          refine go_V (k_X7_83 g) (st2 := [.int r115]) (pc' := 118) [.int x5] [] h0 hx6 (c_X3_hasConflictIn g fu x6 hx6 x5 S h115) rfl rfl dX7_setPhases_115 rfl (Nat.le_of_ble_eq_true rfl) ⟨rfl, rfl, Nat.le_of_ble_eq_true rfl, Nat.le_of_ble_eq_true rfl⟩ ⟨Nat.le_of_ble_eq_true rfl, Nat.le_of_ble_eq_true rfl⟩ rfl ?_
          refine r_if_eq (pt := 131) (pf := 121) h0 dX7_setPhases_118 rfl rfl h (fun c118 h => ?_) (fun c118 h => ?_)
          · refine r_aload (pc' := 133) h0 5 dX7_setPhases_131 rfl rfl ?_
            refine r_iload_n (pc' := 134) h0 1 dX7_setPhases_133 rfl rfl rfl ?_
            refine r_iload_n (pc' := 135) h0 2 dX7_setPhases_134 rfl rfl rfl ?_
            refine r_iload (pc' := 137) h0 3 dX7_setPhases_135 rfl rfl ?_
            refine r_iload (pc' := 139) h0 4 dX7_setPhases_137 rfl rfl ?_
            obtain ⟨r139, S139, h139, h⟩ := b2_some h
            refine go_V (k_X7_87 g) (st2 := []) (pc' := 142) [.int x2, .int x3, .int x4, .int x5] [] h0 hx6 (c_X3_changePhases g fu x6 hx6 x2 x3 x4 x5 S h139) rfl rfl dX7_setPhases_139 rfl (Nat.le_of_ble_eq_true rfl) ⟨rfl, rfl, Nat.le_of_ble_eq_true rfl, Nat.le_of_ble_eq_true rfl⟩ ⟨Nat.le_of_ble_eq_true rfl, Nat.le_of_ble_eq_true rfl⟩ rfl ?_
            refine r_aload (pc' := 144) h0 5 dX7_setPhases_142 rfl rfl ?_
            refine gf_X7_91 (pc' := 147) h0 hx6 dX7_setPhases_144 rfl ?_
            exact x_iret h0 hE dX7_setPhases_147 ⟨Nat.le_of_ble_eq_true rfl, Nat.le_of_ble_eq_true rfl⟩ (by cases h; exact ⟨rfl, rfl, rfl⟩)
          · refine r_sub (L' := []) [] rfl ?_
            exact wx_X7_setPhases_121 h0 hX fu x1 x2 x3 x4 x5 hE S h
  · refine r_sub (L' := []) [] rfl ?_
    exact wx_X7_setPhases_69 h0 hX fu x1 x2 x3 x4 x5 hE S h
theorem wx_X7_setPhases_43 {g : GC} {X : MX} {r : (Nat ⊕ Int32)} {S' : Mem} (h0 : CX RX7 cX7_setPhases 7 rx_X7_setPhases X (wC g)) (hX : CXX X (wC g)) (fu : Nat) (x1 : Int32) (x2 : Int32) (x3 : Int32) (x4 : Int32) (x5 : Int32) (hE : ENX (some .int) (tOf r) (oOf oI r) S' 3 18 X (wC g)) : ∀ (x6 : Nat) (hx6 : x6 < 5) (t0 : Int32) (t1 : Int32) (t2 : Int32) (S : Mem), fx_X7_setPhases_43 fu x1 x2 x3 x4 x5 x6 t0 t1 t2 S = some (r, S') → GV X (wC g) 7 1 6 S [(0, .ref (wA (wC g) 7 0)), (2, .int x2), (3, .int x3), (4, .int x4), (5, .int x5), (6, .ref (wA (wC g) 3 x6))] 43 [.int t0, .int t1, .int t2] := by
  intro x6 hx6 t0 t1 t2 S h
  rw [fx_X7_setPhases_43] at h
  obtain ⟨r43, h43, h⟩ := b1_some h
  refine go_S (k_X7_36 g) (st2 := [.int r43]) (pc' := 46) [.int t2, .int t1, .int t0] [] h0 (c_X7_isOutside g fu t2 t1 t0 S h43) rfl rfl dX7_setPhases_43 rfl (Nat.le_of_ble_eq_true rfl) ⟨rfl, rfl, Nat.le_of_ble_eq_true rfl, Nat.le_of_ble_eq_true rfl⟩ ⟨Nat.le_of_ble_eq_true rfl, Nat.le_of_ble_eq_true rfl⟩ rfl ?_
  refine r_if_ne (pt := 69) (pf := 49) h0 dX7_setPhases_46 rfl rfl h (fun c46 h => ?_) (fun c46 h => ?_)
  · refine r_sub (L' := []) [] rfl ?_
    exact wx_X7_setPhases_69 h0 hX fu x1 x2 x3 x4 x5 hE S h
  · refine r_iload (pc' := 51) h0 4 dX7_setPhases_49 rfl rfl ?_
    refine r_iconst (pc' := 52) h0 dX7_setPhases_51 ki_0 rfl ?_
    refine r_iload (pc' := 54) h0 3 dX7_setPhases_52 rfl rfl ?_
    refine r_if_ne (pt := 61) (pf := 57) h0 dX7_setPhases_54 rfl rfl h (fun c54 h => ?_) (fun c54 h => ?_)
    · refine r_bipush (pc' := 63) h0 dX7_setPhases_61 kb_15 rfl ?_
      exact wx_X7_setPhases_63 h0 hX fu x1 x2 x3 x4 x5 hE x6 hx6 15 0 x5 S h
    · refine r_iconst (pc' := 58) h0 dX7_setPhases_57 ki_0 rfl ?_
      refine r_goto (pc' := 63) h0 dX7_setPhases_58 rfl ?_
      exact wx_X7_setPhases_63 h0 hX fu x1 x2 x3 x4 x5 hE x6 hx6 0 0 x5 S h
/-- the machine does what fx_X7_setPhases says -/
theorem cx_X7_setPhases (g : GC) (fu : Nat) (x1 : Int32) (x2 : Int32) (x3 : Int32) (x4 : Int32) (x5 : Int32) (S : Mem) {r : (Nat ⊕ Int32)} {S' : Mem} (h : fx_X7_setPhases fu x1 x2 x3 x4 x5 S = some (r, S')) : ctX yX7_setPhases cX7_setPhases 7 (some .int) rx_X7_setPhases 3 18 (wC g) [.ref (wA (wC g) 7 0), .int x1, .int x2, .int x3, .int x4, .int x5] S (tOf r) (oOf oI r) S' := by
  refine ctx_of (own := RX7) (L := [(0, .ref (wA (wC g) 7 0)), (1, .int x1), (2, .int x2), (3, .int x3), (4, .int x4), (5, .int x5)]) (by decide +kernel) rfl (Nat.le_of_ble_eq_true rfl) rfl (fun X h0 hX hE => ?_)
  rw [fx_X7_setPhases] at h
  refine r_aload_n (pc' := 1) h0 0 dX7_setPhases_0 rfl rfl rfl ?_
  refine gf_X7_10 (pc' := 4) h0 (Nat.le_of_ble_eq_true rfl) dX7_setPhases_1 rfl ?_
  refine r_iload_n (pc' := 5) h0 1 dX7_setPhases_4 rfl rfl rfl ?_
  refine gx_V (n := 1) (ov := (oR (wC g) 3)) (pc' := 8) (ob_1 g) v_420 v_255 v_256 v_257 v_29 ⟨by decide +kernel, by decide +kernel, by decide +kernel⟩ [.int x1] [] h0 hX hE (Nat.le_of_ble_eq_true rfl) (fun za hza => cx_X1_at g fu x1 S hza) rfl rfl dX7_setPhases_5 rfl (Nat.le_of_ble_eq_true rfl) ⟨rfl, rfl, Nat.le_of_ble_eq_true rfl, Nat.le_of_ble_eq_true rfl⟩ ⟨Nat.le_of_ble_eq_true rfl, Nat.le_of_ble_eq_true rfl⟩ ⟨Nat.le_of_ble_eq_true rfl, Nat.le_of_ble_eq_true rfl⟩ h (fun E e => by cases e; exact ⟨rfl, rfl⟩) (fun r5 h h5 => ?_)
  show GV X (wC g) 7 1 6 S [(0, .ref (wA (wC g) 7 0)), (1, .int x1), (2, .int x2), (3, .int x3), (4, .int x4), (5, .int x5)] 8 [.ref (wA (wC g) 3 r5)]
  refine r_astore (pc' := 10) (L' := [(6, .ref (wA (wC g) 3 r5)), (0, .ref (wA (wC g) 7 0)), (1, .int x1), (2, .int x2), (3, .int x3), (4, .int x4), (5, .int x5)]) h0 dX7_setPhases_8 (Nat.le_of_ble_eq_true rfl) rfl rfl ?_
  refine r_iload_n (pc' := 11) h0 3 dX7_setPhases_10 rfl rfl rfl ?_
  refine r_iconst (pc' := 12) h0 dX7_setPhases_11 ki_1 rfl ?_
  refine r_bipush (pc' := 14) h0 dX7_setPhases_12 kb_15 rfl ?_
  obtain ⟨r14, h14, h⟩ := b1_some h
  refine go_S (k_X7_36 g) (st2 := [.int r14]) (pc' := 17) [.int x2, .int 1, .int 15] [] h0 (c_X7_isOutside g fu x2 1 15 S h14) rfl rfl dX7_setPhases_14 rfl (Nat.le_of_ble_eq_true rfl) ⟨rfl, rfl, Nat.le_of_ble_eq_true rfl, Nat.le_of_ble_eq_true rfl⟩ ⟨Nat.le_of_ble_eq_true rfl, Nat.le_of_ble_eq_true rfl⟩ rfl ?_
  refine r_if_ne (pt := 69) (pf := 20) h0 dX7_setPhases_17 rfl rfl h (fun c17 h => ?_) (fun c17 h => ?_)
  · refine r_sub (L' := []) [] rfl ?_
    exact wx_X7_setPhases_69 h0 hX fu x1 x2 x3 x4 x5 hE S h
  · refine r_iload_n (pc' := 21) h0 4 dX7_setPhases_20 rfl rfl rfl ?_
    refine r_iconst (pc' := 22) h0 dX7_setPhases_21 ki_0 rfl ?_
    refine r_bipush (pc' := 24) h0 dX7_setPhases_22 kb_15 rfl ?_
    obtain ⟨r24, h24, h⟩ := b1_some h
    refine go_S (k_X7_36 g) (st2 := [.int r24]) (pc' := 27) [.int x3, .int 0, .int 15] [] h0 (c_X7_isOutside g fu x3 0 15 S h24) rfl rfl dX7_setPhases_24 rfl (Nat.le_of_ble_eq_true rfl) ⟨rfl, rfl, Nat.le_of_ble_eq_true rfl, Nat.le_of_ble_eq_true rfl⟩ ⟨Nat.le_of_ble_eq_true rfl, Nat.le_of_ble_eq_true rfl⟩ rfl ?_
    refine r_if_ne (pt := 69) (pf := 30) h0 dX7_setPhases_27 rfl rfl h (fun c27 h => ?_) (fun c27 h => ?_)
    · refine r_sub (L' := []) [] rfl ?_
      exact wx_X7_setPhases_69 h0 hX fu x1 x2 x3 x4 x5 hE S h
    · refine r_iload (pc' := 32) h0 5 dX7_setPhases_30 rfl rfl ?_
      refine r_iconst (pc' := 33) h0 dX7_setPhases_32 ki_0 rfl ?_
      refine r_iload_n (pc' := 34) h0 4 dX7_setPhases_33 rfl rfl rfl ?_
      refine r_if_ne (pt := 41) (pf := 37) h0 dX7_setPhases_34 rfl rfl h (fun c34 h => ?_) (fun c34 h => ?_)
      · refine r_bipush (pc' := 43) h0 dX7_setPhases_41 kb_15 rfl ?_
        refine r_sub (L' := [(0, .ref (wA (wC g) 7 0)), (2, .int x2), (3, .int x3), (4, .int x4), (5, .int x5), (6, .ref (wA (wC g) 3 r5))]) [1, 3, 4, 5, 6, 0] rfl ?_
        exact wx_X7_setPhases_43 h0 hX fu x1 x2 x3 x4 x5 hE r5 (bx_X1_at h5) 15 0 x4 S h
      · refine r_iconst (pc' := 38) h0 dX7_setPhases_37 ki_0 rfl ?_
        refine r_goto (pc' := 43) h0 dX7_setPhases_38 rfl ?_
        refine r_sub (L' := [(0, .ref (wA (wC g) 7 0)), (2, .int x2), (3, .int x3), (4, .int x4), (5, .int x5), (6, .ref (wA (wC g) 3 r5))]) [1, 3, 4, 5, 6, 0] rfl ?_
        exact wx_X7_setPhases_43 h0 hX fu x1 x2 x3 x4 x5 hE r5 (bx_X1_at h5) 0 0 x4 S h
