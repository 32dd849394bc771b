theorem v_150 : Cond.fieldLink RX3 50 RX3 "busCycleEnd" "I" ∈ GW := gw_of (i := 150) (by decide +kernel) (by decide +kernel)
theorem gf_X3_50 {cc : ByteArray} {nL : Nat} {rm : Room} {X : MX} {g : GC} {cn sn : Nat} {S : Mem} {L : List (Nat × Value)} {pc pc' : Nat} {st : List Value} {k : Nat} (h0 : CX RX3 cc nL rm X (wC g)) (hk : k < 5) (hdg : decode cc pc = .ok (.getfield 50, 3)) (e : pc + 3 = pc') (kk : GV X (wC g) nL cn sn S L pc' (.int (S.1 3 k 13) :: st)) : GV X (wC g) nL cn sn S L pc (.ref (wA (wC g) 3 k) :: st) :=
  r_get (T := TX3) h0 hk rfl rfl inX3 13 (by decide) v_150 rfl rfl hdg e kk
theorem v_138 : Cond.fieldLink RX3 41 RX3 "start" "I" ∈ GW := gw_of (i := 138) (by decide +kernel) (by decide +kernel)
theorem gf_X3_41 {cc : ByteArray} {nL : Nat} {rm : Room} {X : MX} {g : GC} {cn sn : Nat} {S : Mem} {L : List (Nat × Value)} {pc pc' : Nat} {st : List Value} {k : Nat} (h0 : CX RX3 cc nL rm X (wC g)) (hk : k < 5) (hdg : decode cc pc = .ok (.getfield 41, 3)) (e : pc + 3 = pc') (kk : GV X (wC g) nL cn sn S L pc' (.int (S.1 3 k 9) :: st)) : GV X (wC g) nL cn sn S L pc (.ref (wA (wC g) 3 k) :: st) :=
  r_get (T := TX3) h0 hk rfl rfl inX3 9 (by decide) v_138 rfl rfl hdg e kk
theorem v_137 : Cond.fieldLink RX3 37 RX3 "cycle" "I" ∈ GW := gw_of (i := 137) (by decide +kernel) (by decide +kernel)
theorem gf_X3_37 {cc : ByteArray} {nL : Nat} {rm : Room} {X : MX} {g : GC} {cn sn : Nat} {S : Mem} {L : List (Nat × Value)} {pc pc' : Nat} {st : List Value} {k : Nat} (h0 : CX RX3 cc nL rm X (wC g)) (hk : k < 5) (hdg : decode cc pc = .ok (.getfield 37, 3)) (e : pc + 3 = pc') (kk : GV X (wC g) nL cn sn S L pc' (.int (S.1 3 k 8) :: st)) : GV X (wC g) nL cn sn S L pc (.ref (wA (wC g) 3 k) :: st) :=
  r_get (T := TX3) h0 hk rfl rfl inX3 8 (by decide) v_137 rfl rfl hdg e kk
theorem v_640 : Cond.methodLinkNest RX3 134 yX7_modulo "Greenwave" ∈ NW := nw_of (i := 640) (by decide +kernel) (by decide +kernel)
theorem v_642 : Cond.code yX7_modulo cX7_modulo 3 (some .int) ∈ GW := gw_of (i := 642) (by decide +kernel) (by decide +kernel)
theorem v_60 : Cond.initialized RX7 ∈ GW := gw_of (i := 60) (by decide +kernel) (by decide +kernel)
theorem v_641 : Cond.static yX7_modulo ∈ GW := gw_of (i := 641) (by decide +kernel) (by decide +kernel)
theorem k_X3_134 (g : GC) : gcS (wC g) RX3 134 yX7_modulo cX7_modulo 3 (some .int) 2 := mkSN v_640 v_641 v_642 v_60 ⟨by decide +kernel, by decide +kernel, by decide +kernel⟩
theorem v_152 : Cond.fieldLink RX3 56 RX3 "taker" "I" ∈ GW := gw_of (i := 152) (by decide +kernel) (by decide +kernel)
theorem gf_X3_56 {cc : ByteArray} {nL : Nat} {rm : Room} {X : MX} {g : GC} {cn sn : Nat} {S : Mem} {L : List (Nat × Value)} {pc pc' : Nat} {st : List Value} {k : Nat} (h0 : CX RX3 cc nL rm X (wC g)) (hk : k < 5) (hdg : decode cc pc = .ok (.getfield 56, 3)) (e : pc + 3 = pc') (kk : GV X (wC g) nL cn sn S L pc' (.int (S.1 3 k 15) :: st)) : GV X (wC g) nL cn sn S L pc (.ref (wA (wC g) 3 k) :: st) :=
  r_get (T := TX3) h0 hk rfl rfl inX3 15 (by decide) v_152 rfl rfl hdg e kk
theorem v_151 : Cond.fieldLink RX3 53 RX3 "giver" "I" ∈ GW := gw_of (i := 151) (by decide +kernel) (by decide +kernel)
theorem gf_X3_53 {cc : ByteArray} {nL : Nat} {rm : Room} {X : MX} {g : GC} {cn sn : Nat} {S : Mem} {L : List (Nat × Value)} {pc pc' : Nat} {st : List Value} {k : Nat} (h0 : CX RX3 cc nL rm X (wC g)) (hk : k < 5) (hdg : decode cc pc = .ok (.getfield 53, 3)) (e : pc + 3 = pc') (kk : GV X (wC g) nL cn sn S L pc' (.int (S.1 3 k 14) :: st)) : GV X (wC g) nL cn sn S L pc (.ref (wA (wC g) 3 k) :: st) :=
  r_get (T := TX3) h0 hk rfl rfl inX3 14 (by decide) v_151 rfl rfl hdg e kk
theorem v_153 : Cond.fieldLink RX3 59 RX3 "given" "I" ∈ GW := gw_of (i := 153) (by decide +kernel) (by decide +kernel)
theorem gf_X3_59 {cc : ByteArray} {nL : Nat} {rm : Room} {X : MX} {g : GC} {cn sn : Nat} {S : Mem} {L : List (Nat × Value)} {pc pc' : Nat} {st : List Value} {k : Nat} (h0 : CX RX3 cc nL rm X (wC g)) (hk : k < 5) (hdg : decode cc pc = .ok (.getfield 59, 3)) (e : pc + 3 = pc') (kk : GV X (wC g) nL cn sn S L pc' (.int (S.1 3 k 16) :: st)) : GV X (wC g) nL cn sn S L pc (.ref (wA (wC g) 3 k) :: st) :=
  r_get (T := TX3) h0 hk rfl rfl inX3 16 (by decide) v_153 rfl rfl hdg e kk
theorem v_127 : Cond.fieldLink RX3 21 RX3 "greens" "[I" ∈ GW := gw_of (i := 127) (by decide +kernel) (by decide +kernel)
theorem gf_X3_21 {cc : ByteArray} {nL : Nat} {rm : Room} {X : MX} {g : GC} {cn sn : Nat} {S : Mem} {L : List (Nat × Value)} {pc pc' : Nat} {st : List Value} {k : Nat} (h0 : CX RX3 cc nL rm X (wC g)) (hk : k < 5) (hdg : decode cc pc = .ok (.getfield 21, 3)) (e : pc + 3 = pc') (kk : GV X (wC g) nL cn sn S L pc' (.ref (wA (wC g) 14 k) :: st)) : GV X (wC g) nL cn sn S L pc (.ref (wA (wC g) 3 k) :: st) :=
  r_get (T := TX3) h0 hk rfl rfl inX3 3 (by decide) v_127 rfl rfl hdg e kk
theorem v_386 : Cond.methodLinkNest RX3 82 yX7_read "Greenwave" ∈ NW := nw_of (i := 386) (by decide +kernel) (by decide +kernel)
theorem v_388 : Cond.code yX7_read cX7_read 2 (some .int) ∈ GW := gw_of (i := 388) (by decide +kernel) (by decide +kernel)
theorem v_387 : Cond.static yX7_read ∈ GW := gw_of (i := 387) (by decide +kernel) (by decide +kernel)
theorem k_X3_82 (g : GC) : gcS (wC g) RX3 82 yX7_read cX7_read 2 (some .int) 2 := mkSN v_386 v_387 v_388 v_60 ⟨by decide +kernel, by decide +kernel, by decide +kernel⟩
theorem v_826 : Cond.methodLink RX3 147 yX3_hasBusIn ∈ GW := gw_of (i := 826) (by decide +kernel) (by decide +kernel)
theorem v_829 : Cond.code yX3_hasBusIn cX3_hasBusIn 2 (some .boolean) ∈ GW := gw_of (i := 829) (by decide +kernel) (by decide +kernel)
theorem v_62 : Cond.initialized RX3 ∈ GW := gw_of (i := 62) (by decide +kernel) (by decide +kernel)
theorem v_827 : Cond.instanceMethod yX3_hasBusIn ∈ GW := gw_of (i := 827) (by decide +kernel) (by decide +kernel)
theorem v_828 : Cond.selects RX3 yX3_hasBusIn yX3_hasBusIn ∈ GW := gw_of (i := 828) (by decide +kernel) (by decide +kernel)
theorem k_X3_147 (g : GC) : gcV (wC g) RX3 147 3 yX3_hasBusIn cX3_hasBusIn 2 (some .boolean) 1 := mkV (ob_3 g) v_826 v_827 v_828 v_829 v_62 ⟨by decide +kernel, by decide +kernel, by decide +kernel⟩
theorem v_830 : Cond.methodLink RX3 150 yX3_placeInCycle ∈ GW := gw_of (i := 830) (by decide +kernel) (by decide +kernel)
theorem v_833 : Cond.code yX3_placeInCycle cX3_placeInCycle 2 (some .int) ∈ GW := gw_of (i := 833) (by decide +kernel) (by decide +kernel)
theorem v_832 : Cond.instanceMethod yX3_placeInCycle ∈ GW := gw_of (i := 832) (by decide +kernel) (by decide +kernel)
theorem v_22 : Cond.selects RX3 yX3_placeInCycle yX3_placeInCycle ∈ GW := gw_of (i := 22) (by decide +kernel) (by decide +kernel)
theorem k_X3_150 (g : GC) : gcV (wC g) RX3 150 3 yX3_placeInCycle cX3_placeInCycle 2 (some .int) 1 := mkV (ob_3 g) v_830 v_832 v_22 v_833 v_62 ⟨by decide +kernel, by decide +kernel, by decide +kernel⟩
theorem v_136 : Cond.fieldLink RX3 90 RX3 "phases" "I" ∈ GW := gw_of (i := 136) (by decide +kernel) (by decide +kernel)
theorem gf_X3_90 {cc : ByteArray} {nL : Nat} {rm : Room} {X : MX} {g : GC} {cn sn : Nat} {S : Mem} {L : List (Nat × Value)} {pc pc' : Nat} {st : List Value} {k : Nat} (h0 : CX RX3 cc nL rm X (wC g)) (hk : k < 5) (hdg : decode cc pc = .ok (.getfield 90, 3)) (e : pc + 3 = pc') (kk : GV X (wC g) nL cn sn S L pc' (.int (S.1 3 k 7) :: st)) : GV X (wC g) nL cn sn S L pc (.ref (wA (wC g) 3 k) :: st) :=
  r_get (T := TX3) h0 hk rfl rfl inX3 7 (by decide) v_136 rfl rfl hdg e kk
theorem v_834 : Cond.methodLink RX3 153 yX3_changedGreen ∈ GW := gw_of (i := 834) (by decide +kernel) (by decide +kernel)
theorem v_837 : Cond.code yX3_changedGreen cX3_changedGreen 3 (some .int) ∈ GW := gw_of (i := 837) (by decide +kernel) (by decide +kernel)
theorem v_836 : Cond.instanceMethod yX3_changedGreen ∈ GW := gw_of (i := 836) (by decide +kernel) (by decide +kernel)
theorem v_23 : Cond.selects RX3 yX3_changedGreen yX3_changedGreen ∈ GW := gw_of (i := 23) (by decide +kernel) (by decide +kernel)
theorem k_X3_153 (g : GC) : gcV (wC g) RX3 153 3 yX3_changedGreen cX3_changedGreen 3 (some .int) 1 := mkV (ob_3 g) v_834 v_836 v_23 v_837 v_62 ⟨by decide +kernel, by decide +kernel, by decide +kernel⟩
theorem v_129 : Cond.fieldLink RX3 24 RX3 "clearings" "[I" ∈ GW := gw_of (i := 129) (by decide +kernel) (by decide +kernel)
theorem gf_X3_24 {cc : ByteArray} {nL : Nat} {rm : Room} {X : MX} {g : GC} {cn sn : Nat} {S : Mem} {L : List (Nat × Value)} {pc pc' : Nat} {st : List Value} {k : Nat} (h0 : CX RX3 cc nL rm X (wC g)) (hk : k < 5) (hdg : decode cc pc = .ok (.getfield 24, 3)) (e : pc + 3 = pc') (kk : GV X (wC g) nL cn sn S L pc' (.ref (wA (wC g) 15 k) :: st)) : GV X (wC g) nL cn sn S L pc (.ref (wA (wC g) 3 k) :: st) :=
  r_get (T := TX3) h0 hk rfl rfl inX3 4 (by decide) v_129 rfl rfl hdg e kk
abbrev rm_X3_hasBusIn : Room := { frames := 0, cells := 0, slots := 0, locals := 0 }
abbrev rm_X7_modulo : Room := { frames := 0, cells := 0, slots := 0, locals := 0 }
abbrev rm_X3_placeInCycle : Room := { frames := 1, cells := 0, slots := 0, locals := 22 }
abbrev rm_X7_read : Room := { frames := 0, cells := 0, slots := 0, locals := 0 }
abbrev rm_X3_changedGreen : Room := { frames := 1, cells := 0, slots := 0, locals := 21 }
abbrev rm_X3_phaseIn : Room := { frames := 2, cells := 0, slots := 0, locals := 43 }
theorem w_X3_hasBusIn_13 {g : GC} {X : MX} {r : Int32}  (h0 : CX RX3 cX3_hasBusIn 2 rm_X3_hasBusIn X (wC g)) (fu : Nat) (k : Nat) (hk : k < 5) (x1 : Int32) (S : Mem) (hE : EN (some .boolean) (some (.int r)) S X (wC g)) : ∀ (t0 : Int32), f_X3_hasBusIn_13 fu k x1 S t0 = some r → GV X (wC g) 2 0 0 S [] 13 [.int t0] := by
  intro t0 h
  rw [f_X3_hasBusIn_13] at h
  exact r_zretR h0 hE dX3_hasBusIn_13 h
/-- the machine does what f_X3_hasBusIn says -/
theorem c_X3_hasBusIn (g : GC) (fu : Nat) (k : Nat) (hk : k < 5) (x1 : Int32) (S : Mem) {r : Int32}  (h : f_X3_hasBusIn fu k x1 S = some r) : ctN yX3_hasBusIn cX3_hasBusIn 2 (some .boolean) rm_X3_hasBusIn (wC g) [.ref (wA (wC g) 3 k), .int x1] S (some (.int r)) S := by
  refine ct_of (own := RX3) (L := [(0, .ref (wA (wC g) 3 k)), (1, .int x1)]) (by decide +kernel) rfl (Nat.le_of_ble_eq_true rfl) rfl (fun X h0 hE => ?_)
  rw [f_X3_hasBusIn] at h
  refine r_iload_n (pc' := 1) h0 1 dX3_hasBusIn_0 rfl rfl rfl ?_
  refine r_aload_n (pc' := 2) h0 0 dX3_hasBusIn_1 rfl rfl rfl ?_
  refine gf_X3_50 (pc' := 5) h0 hk dX3_hasBusIn_2 rfl ?_
  refine r_ic_ge (pt := 12) (pf := 8) h0 dX3_hasBusIn_5 rfl rfl h (fun c5 h => ?_) (fun c5 h => ?_)
  · refine r_iconst (pc' := 13) h0 dX3_hasBusIn_12 ki_0 rfl ?_
    refine r_sub (L' := []) [] rfl ?_
    exact w_X3_hasBusIn_13 h0 fu k hk x1 S hE 0 h
  · refine r_iconst (pc' := 9) h0 dX3_hasBusIn_8 ki_1 rfl ?_
    refine r_goto (pc' := 13) h0 dX3_hasBusIn_9 rfl ?_
    refine r_sub (L' := []) [] rfl ?_
    exact w_X3_hasBusIn_13 h0 fu k hk x1 S hE 1 h
theorem w_X7_modulo_21 {g : GC} {X : MX} {r : Int32}  (h0 : CX RX7 cX7_modulo 3 rm_X7_modulo X (wC g)) (fu : Nat) (x0 : Int32) (x1 : Int32) (S : Mem) (hE : EN (some .int) (some (.int r)) S X (wC g)) : ∀ (t0 : Int32), f_X7_modulo_21 fu x0 x1 S t0 = some r → GV X (wC g) 3 0 0 S [] 21 [.int t0] := by
  intro t0 h
  rw [f_X7_modulo_21] at h
  exact r_iretR h0 hE dX7_modulo_21 h
/-- the machine does what f_X7_modulo says -/
theorem c_X7_modulo (g : GC) (fu : Nat) (x0 : Int32) (x1 : Int32) (S : Mem) {r : Int32}  (h : f_X7_modulo fu x0 x1 S = some r) : ctN yX7_modulo cX7_modulo 3 (some .int) rm_X7_modulo (wC g) [.int x0, .int x1] S (some (.int r)) S := by
  refine ct_of (own := RX7) (L := [(0, .int x0), (1, .int x1)]) (by decide +kernel) rfl (Nat.le_of_ble_eq_true rfl) rfl (fun X h0 hE => ?_)
  rw [f_X7_modulo] at h
  refine r_iload_n (pc' := 1) h0 1 dX7_modulo_0 rfl rfl rfl ?_
  refine r_if_gt (pt := 6) (pf := 4) h0 dX7_modulo_1 rfl rfl h (fun c1 h => ?_) (fun c1 h => ?_)
  · refine r_iload_n (pc' := 7) h0 0 dX7_modulo_6 rfl rfl rfl ?_
    refine r_iload_n (pc' := 8) h0 1 dX7_modulo_7 rfl rfl rfl ?_
    refine r_irem (pc' := 9) h0 dX7_modulo_8 rfl h (fun h => ?_)
    refine r_istore_n (pc' := 10) (L' := [(2, .int (x0 - x0 / x1 * x1)), (0, .int x0), (1, .int x1)]) h0 dX7_modulo_9 rfl (Nat.le_of_ble_eq_true rfl) rfl rfl ?_
    refine r_iload_n (pc' := 11) h0 0 dX7_modulo_10 rfl rfl rfl ?_
    refine r_if_ge (pt := 20) (pf := 14) h0 dX7_modulo_11 rfl rfl h (fun c11 h => ?_) (fun c11 h => ?_)
    · refine r_iload_n (pc' := 21) h0 0 dX7_modulo_20 rfl rfl rfl ?_
      refine r_sub (L' := []) [] rfl ?_
      exact w_X7_modulo_21 h0 fu x0 x1 S hE (x0 - x0 / x1 * x1) h
    · refine r_iload_n (pc' := 15) h0 0 dX7_modulo_14 rfl rfl rfl ?_
      refine r_iload_n (pc' := 16) h0 2 dX7_modulo_15 rfl rfl rfl ?_
      refine r_iadd (pc' := 17) h0 dX7_modulo_16 rfl ?_
      refine r_goto (pc' := 21) h0 dX7_modulo_17 rfl ?_
      refine r_sub (L' := []) [] rfl ?_
      exact w_X7_modulo_21 h0 fu x0 x1 S hE ((x0 - x0 / x1 * x1) + x1) h
  · refine r_iconst (pc' := 5) h0 dX7_modulo_4 ki_0 rfl ?_
    exact r_iretR h0 hE dX7_modulo_5 h
/-- the machine does what f_X3_placeInCycle says -/
theorem c_X3_placeInCycle (g : GC) (fu : Nat) (k : Nat) (hk : k < 5) (x1 : Int32) (S : Mem) {r : Int32}  (h : f_X3_placeInCycle fu k x1 S = some r) : ctN yX3_placeInCycle cX3_placeInCycle 2 (some .int) rm_X3_placeInCycle (wC g) [.ref (wA (wC g) 3 k), .int x1] S (some (.int r)) S := by
  refine ct_of (own := RX3) (L := [(0, .ref (wA (wC g) 3 k)), (1, .int x1)]) (by decide +kernel) rfl (Nat.le_of_ble_eq_true rfl) rfl (fun X h0 hE => ?_)
  rw [f_X3_placeInCycle] at h
  refine r_iload_n (pc' := 1) h0 1 dX3_placeInCycle_0 rfl rfl rfl ?_
  refine r_aload_n (pc' := 2) h0 0 dX3_placeInCycle_1 rfl rfl rfl ?_
  refine gf_X3_41 (pc' := 5) h0 hk dX3_placeInCycle_2 rfl ?_
  refine r_isub (pc' := 6) h0 dX3_placeInCycle_5 rfl ?_
  refine r_aload_n (pc' := 7) h0 0 dX3_placeInCycle_6 rfl rfl rfl ?_
  refine gf_X3_37 (pc' := 10) h0 hk dX3_placeInCycle_7 rfl ?_
  obtain ⟨r10, h10, h⟩ := b1_some h
  refine go_S (k_X3_134 g) (st2 := [.int r10]) (pc' := 13) [.int (x1 - (S.1 3 k 9)), .int (S.1 3 k 8)] [] h0 (c_X7_modulo g fu (x1 - (S.1 3 k 9)) (S.1 3 k 8) S h10) rfl rfl dX3_placeInCycle_10 rfl (Nat.le_of_ble_eq_true rfl) ⟨rfl, rfl, Nat.le_of_ble_eq_true rfl, Nat.le_of_ble_eq_true rfl⟩ ⟨Nat.le_of_ble_eq_true rfl, Nat.le_of_ble_eq_true rfl⟩ rfl ?_
  exact r_iretR h0 hE dX3_placeInCycle_13 h
theorem w_X7_read_17 {g : GC} {X : MX} {r : Int32}  (h0 : CX RX7 cX7_read 2 rm_X7_read X (wC g)) (fu : Nat) (ck len k : Nat) (hia : isIA (wC g) ck len) (hk : k < wN (wC g) ck) (x1 : Int32) (S : Mem) (hE : EN (some .int) (some (.int r)) S X (wC g)) : ∀ (t0 : Int32), f_X7_read_17 fu ck len k x1 S t0 = some r → GV X (wC g) 2 0 0 S [] 17 [.int t0] := by
  intro t0 h
  rw [f_X7_read_17] at h
  exact r_iretR h0 hE dX7_read_17 h
theorem w_X7_read_16 {g : GC} {X : MX} {r : Int32}  (h0 : CX RX7 cX7_read 2 rm_X7_read X (wC g)) (fu : Nat) (ck len k : Nat) (hia : isIA (wC g) ck len) (hk : k < wN (wC g) ck) (x1 : Int32) (S : Mem) (hE : EN (some .int) (some (.int r)) S X (wC g)) : f_X7_read_16 fu ck len k x1 S = some r → GV X (wC g) 2 0 0 S [] 16 [] := by
  intro  h
  rw [f_X7_read_16] at h
  refine r_iconst (pc' := 17) h0 dX7_read_16 ki_0 rfl ?_
  exact w_X7_read_17 h0 fu ck len k hia hk x1 S hE 0 h
/-- the machine does what f_X7_read says -/
theorem c_X7_read (g : GC) (fu : Nat) (ck len k : Nat) (hia : isIA (wC g) ck len) (hk : k < wN (wC g) ck) (x1 : Int32) (S : Mem) {r : Int32}  (h : f_X7_read fu ck len k x1 S = some r) : ctN yX7_read cX7_read 2 (some .int) rm_X7_read (wC g) [.ref (wA (wC g) ck k), .int x1] S (some (.int r)) S := by
  refine ct_of (own := RX7) (L := [(0, .ref (wA (wC g) ck k)), (1, .int x1)]) (by decide +kernel) rfl (Nat.le_of_ble_eq_true rfl) rfl (fun X h0 hE => ?_)
  rw [f_X7_read] at h
  refine r_iload_n (pc' := 1) h0 1 dX7_read_0 rfl rfl rfl ?_
  refine r_if_lt (pt := 16) (pf := 4) h0 dX7_read_1 rfl rfl h (fun c1 h => ?_) (fun c1 h => ?_)
  · refine r_sub (L' := []) [] rfl ?_
    exact w_X7_read_16 h0 fu ck len k hia hk x1 S hE h
  · refine r_iload_n (pc' := 5) h0 1 dX7_read_4 rfl rfl rfl ?_
    refine r_aload_n (pc' := 6) h0 0 dX7_read_5 rfl rfl rfl ?_
    refine r_alenA (pc' := 7) h0 hia hk dX7_read_6 rfl ?_
    refine r_ic_ge (pt := 16) (pf := 10) h0 dX7_read_7 rfl rfl h (fun c7 h => ?_) (fun c7 h => ?_)
    · refine r_sub (L' := []) [] rfl ?_
      exact w_X7_read_16 h0 fu ck len k hia hk x1 S hE h
    · refine r_aload_n (pc' := 11) h0 0 dX7_read_10 rfl rfl rfl ?_
      refine r_iload_n (pc' := 12) h0 1 dX7_read_11 rfl rfl rfl ?_
      refine r_ialdA (pc' := 13) h0 hia hk dX7_read_12 rfl h (fun h => ?_)
      refine r_goto (pc' := 17) h0 dX7_read_13 rfl ?_
      refine r_sub (L' := []) [] rfl ?_
      exact w_X7_read_17 h0 fu ck len k hia hk x1 S hE (S.1 ck k (x1 : Int32).toNatClampNeg) h
theorem w_X3_changedGreen_32 {g : GC} {X : MX} {r : Int32}  (h0 : CX RX3 cX3_changedGreen 3 rm_X3_changedGreen X (wC g)) (fu : Nat) (k : Nat) (hk : k < 5) (x1 : Int32) (S : Mem) (hE : EN (some .int) (some (.int r)) S X (wC g)) : ∀ (t0 : Int32), f_X3_changedGreen_32 fu k x1 S t0 = some r → GV X (wC g) 3 0 0 S [(0, .ref (wA (wC g) 3 k)), (1, .int x1)] 32 [.int t0] := by
  intro t0 h
  rw [f_X3_changedGreen_32] at h
  refine r_istore_n (pc' := 33) (L' := [(2, .int t0), (0, .ref (wA (wC g) 3 k)), (1, .int x1)]) h0 dX3_changedGreen_32 rfl (Nat.le_of_ble_eq_true rfl) rfl rfl ?_
  refine r_aload_n (pc' := 34) h0 1 dX3_changedGreen_33 rfl rfl rfl ?_
  refine gf_X3_21 (pc' := 37) h0 hk dX3_changedGreen_34 rfl ?_
  refine r_iload_n (pc' := 38) h0 2 dX3_changedGreen_37 rfl rfl rfl ?_
  obtain ⟨r38, h38, h⟩ := b1_some h
  refine go_S (k_X3_82 g) (st2 := [.int r38]) (pc' := 41) [.ref (wA (wC g) 14 k), .int x1] [] h0 (c_X7_read g fu 14 4 k (ia_14 g) hk x1 S h38) rfl rfl dX3_changedGreen_38 rfl (Nat.le_of_ble_eq_true rfl) ⟨rfl, rfl, Nat.le_of_ble_eq_true rfl, Nat.le_of_ble_eq_true rfl⟩ ⟨Nat.le_of_ble_eq_true rfl, Nat.le_of_ble_eq_true rfl⟩ rfl ?_
  refine r_iload_n (pc' := 42) h0 0 dX3_changedGreen_41 rfl rfl rfl ?_
  refine r_iadd (pc' := 43) h0 dX3_changedGreen_42 rfl ?_
  exact r_iretR h0 hE dX3_changedGreen_43 h
/-- the machine does what f_X3_changedGreen says -/
theorem c_X3_changedGreen (g : GC) (fu : Nat) (k : Nat) (hk : k < 5) (x1 : Int32) (S : Mem) {r : Int32}  (h : f_X3_changedGreen fu k x1 S = some r) : ctN yX3_changedGreen cX3_changedGreen 3 (some .int) rm_X3_changedGreen (wC g) [.ref (wA (wC g) 3 k), .int x1] S (some (.int r)) S := by
  refine ct_of (own := RX3) (L := [(0, .ref (wA (wC g) 3 k)), (1, .int x1)]) (by decide +kernel) rfl (Nat.le_of_ble_eq_true rfl) rfl (fun X h0 hE => ?_)
  rw [f_X3_changedGreen] at h
  refine r_iload_n (pc' := 1) h0 1 dX3_changedGreen_0 rfl rfl rfl ?_
  refine r_aload_n (pc' := 2) h0 0 dX3_changedGreen_1 rfl rfl rfl ?_
  refine gf_X3_56 (pc' := 5) h0 hk dX3_changedGreen_2 rfl ?_
  refine r_ic_ne (pt := 15) (pf := 8) h0 dX3_changedGreen_5 rfl rfl h (fun c5 h => ?_) (fun c5 h => ?_)
  · refine r_iload_n (pc' := 16) h0 1 dX3_changedGreen_15 rfl rfl rfl ?_
    refine r_aload_n (pc' := 17) h0 0 dX3_changedGreen_16 rfl rfl rfl ?_
    refine gf_X3_53 (pc' := 20) h0 hk dX3_changedGreen_17 rfl ?_
    refine r_ic_ne (pt := 31) (pf := 23) h0 dX3_changedGreen_20 rfl rfl h (fun c20 h => ?_) (fun c20 h => ?_)
    · refine r_iconst (pc' := 32) h0 dX3_changedGreen_31 ki_0 rfl ?_
      exact w_X3_changedGreen_32 h0 fu k hk x1 S hE 0 h
    · refine r_aload_n (pc' := 24) h0 0 dX3_changedGreen_23 rfl rfl rfl ?_
      refine gf_X3_59 (pc' := 27) h0 hk dX3_changedGreen_24 rfl ?_
      refine r_ineg (pc' := 28) h0 dX3_changedGreen_27 rfl ?_
      refine r_goto (pc' := 32) h0 dX3_changedGreen_28 rfl ?_
      exact w_X3_changedGreen_32 h0 fu k hk x1 S hE (-(S.1 3 k 16)) h
  · refine r_aload_n (pc' := 9) h0 0 dX3_changedGreen_8 rfl rfl rfl ?_
    refine gf_X3_59 (pc' := 12) h0 hk dX3_changedGreen_9 rfl ?_
    refine r_goto (pc' := 32) h0 dX3_changedGreen_12 rfl ?_
    exact w_X3_changedGreen_32 h0 fu k hk x1 S hE (S.1 3 k 16) h
theorem w_X3_phaseIn_46 {g : GC} {X : MX} {r : Int32}  (h0 : CX RX3 cX3_phaseIn 6 rm_X3_phaseIn X (wC g)) (fu : Nat) (k : Nat) (hk : k < 5) (x1 : Int32) (S : Mem) (hE : EN (some .int) (some (.int r)) S X (wC g)) (K15 : Int32 → Int32 → Int32 → Option Int32) (kK15 : ∀ (x2 : Int32) (x3 : Int32) (x4 : Int32), K15 x2 x3 x4 = some r → GV X (wC g) 6 0 0 S [(0, .ref (wA (wC g) 3 k)), (2, .int x2), (3, .int x3), (4, .int x4)] 15 []) : ∀ (x2 : Int32) (x3 : Int32) (x4 : Int32) (t0 : Int32), f_X3_phaseIn_46 fu K15 k x1 S x2 x3 x4 t0 = some r → GV X (wC g) 6 0 0 S [(0, .ref (wA (wC g) 3 k)), (2, .int x2), (3, .int x3), (4, .int x4)] 46 [.int t0] := by
  intro x2 x3 x4 t0 h
  rw [f_X3_phaseIn_46] at h
  refine r_istore (pc' := 48) (L' := [(5, .int t0), (0, .ref (wA (wC g) 3 k)), (2, .int x2), (3, .int x3), (4, .int x4)]) h0 dX3_phaseIn_46 (Nat.le_of_ble_eq_true rfl) rfl rfl ?_
  refine r_iload_n (pc' := 49) h0 3 dX3_phaseIn_48 rfl rfl rfl ?_
  refine r_iload (pc' := 51) h0 0 dX3_phaseIn_49 rfl rfl ?_
  refine r_ic_ge (pt := 57) (pf := 54) h0 dX3_phaseIn_51 rfl rfl h (fun c51 h => ?_) (fun c51 h => ?_)
  · refine r_iload_n (pc' := 58) h0 3 dX3_phaseIn_57 rfl rfl rfl ?_
    refine r_iload (pc' := 60) h0 0 dX3_phaseIn_58 rfl rfl ?_
    refine r_isub (pc' := 61) h0 dX3_phaseIn_60 rfl ?_
    refine r_istore_n (pc' := 62) (L' := [(3, .int (x3 - t0)), (5, .int t0), (0, .ref (wA (wC g) 3 k)), (2, .int x2), (4, .int x4)]) h0 dX3_phaseIn_61 rfl (Nat.le_of_ble_eq_true rfl) rfl rfl ?_
    refine r_iload_n (pc' := 63) h0 0 dX3_phaseIn_62 rfl rfl rfl ?_
    refine r_aload_n (pc' := 64) h0 2 dX3_phaseIn_63 rfl rfl rfl ?_
    refine gf_X3_24 (pc' := 67) h0 hk dX3_phaseIn_64 rfl ?_
    refine r_iload (pc' := 69) h0 4 dX3_phaseIn_67 rfl rfl ?_
    obtain ⟨r69, h69, h⟩ := b1_some h
    refine go_S (k_X3_82 g) (st2 := [.int r69, .int (x3 - t0)]) (pc' := 72) [.ref (wA (wC g) 15 k), .int x4] [.int (x3 - t0)] h0 (c_X7_read g fu 15 4 k (ia_15 g) hk x4 S h69) rfl rfl dX3_phaseIn_69 rfl (Nat.le_of_ble_eq_true rfl) ⟨rfl, rfl, Nat.le_of_ble_eq_true rfl, Nat.le_of_ble_eq_true rfl⟩ ⟨Nat.le_of_ble_eq_true rfl, Nat.le_of_ble_eq_true rfl⟩ rfl ?_
    refine r_ic_ge (pt := 77) (pf := 75) h0 dX3_phaseIn_72 rfl rfl h (fun c72 h => ?_) (fun c72 h => ?_)
    · refine r_iload_n (pc' := 78) h0 0 dX3_phaseIn_77 rfl rfl rfl ?_
      refine r_aload_n (pc' := 79) h0 2 dX3_phaseIn_78 rfl rfl rfl ?_
      refine gf_X3_24 (pc' := 82) h0 hk dX3_phaseIn_79 rfl ?_
      refine r_iload (pc' := 84) h0 4 dX3_phaseIn_82 rfl rfl ?_
      obtain ⟨r84, h84, h⟩ := b1_some h
      refine go_S (k_X3_82 g) (st2 := [.int r84, .int (x3 - t0)]) (pc' := 87) [.ref (wA (wC g) 15 k), .int x4] [.int (x3 - t0)] h0 (c_X7_read g fu 15 4 k (ia_15 g) hk x4 S h84) rfl rfl dX3_phaseIn_84 rfl (Nat.le_of_ble_eq_true rfl) ⟨rfl, rfl, Nat.le_of_ble_eq_true rfl, Nat.le_of_ble_eq_true rfl⟩ ⟨Nat.le_of_ble_eq_true rfl, Nat.le_of_ble_eq_true rfl⟩ rfl ?_
      refine r_isub (pc' := 88) h0 dX3_phaseIn_87 rfl ?_
      refine r_istore_n (pc' := 89) (L' := [(3, .int ((x3 - t0) - r84)), (5, .int t0), (0, .ref (wA (wC g) 3 k)), (2, .int x2), (4, .int x4)]) h0 dX3_phaseIn_88 rfl (Nat.le_of_ble_eq_true rfl) rfl rfl ?_
      refine r_iinc (pc' := 92) (L' := [(4, .int (x4 + 1)), (3, .int ((x3 - t0) - r84)), (5, .int t0), (0, .ref (wA (wC g) 3 k)), (2, .int x2)]) h0 4 dX3_phaseIn_89 rfl ki_1 (Nat.le_of_ble_eq_true rfl) rfl rfl ?_
      refine r_goto (pc' := 15) h0 dX3_phaseIn_92 rfl ?_
      refine r_sub (L' := [(0, .ref (wA (wC g) 3 k)), (2, .int x2), (3, .int ((x3 - t0) - r84)), (4, .int (x4 + 1))]) [3, 4, 1, 0] rfl ?_
      exact kK15 x2 ((x3 - t0) - r84) (x4 + 1) h
    · refine r_iconst (pc' := 76) h0 dX3_phaseIn_75 ki_m1 rfl ?_
      exact r_iretR h0 hE dX3_phaseIn_76 h
  · refine r_iload (pc' := 56) h0 4 dX3_phaseIn_54 rfl rfl ?_
    exact r_iretR h0 hE dX3_phaseIn_56 h
theorem w_X3_phaseIn_15 {g : GC} {X : MX} {r : Int32}  (h0 : CX RX3 cX3_phaseIn 6 rm_X3_phaseIn X (wC g)) (fu : Nat) (k : Nat) (hk : k < 5) (x1 : Int32) (S : Mem) (hE : EN (some .int) (some (.int r)) S X (wC g)) : ∀ (n : Nat) (x2 : Int32) (x3 : Int32) (x4 : Int32), f_X3_phaseIn_15 fu k x1 S n x2 x3 x4 = some r → GV X (wC g) 6 0 0 S [(0, .ref (wA (wC g) 3 k)), (2, .int x2), (3, .int x3), (4, .int x4)] 15 [] := by
  intro n
  induction n with
  | zero =>
    intro x2 x3 x4 h
    exact nomatch (show none = _ from h)
  | succ n ih =>
    intro x2 x3 x4 h
    rw [f_X3_phaseIn_15] at h
    refine r_iload (pc' := 17) h0 3 dX3_phaseIn_15 rfl rfl ?_
    refine r_aload_n (pc' := 18) h0 0 dX3_phaseIn_17 rfl rfl rfl ?_
    refine gf_X3_90 (pc' := 21) h0 hk dX3_phaseIn_18 rfl ?_
    refine r_ic_ge (pt := 95) (pf := 24) h0 dX3_phaseIn_21 rfl rfl h (fun c21 h => ?_) (fun c21 h => ?_)
    · refine r_iconst (pc' := 96) h0 dX3_phaseIn_95 ki_m1 rfl ?_
      exact r_iretR h0 hE dX3_phaseIn_96 h
    · refine r_iload_n (pc' := 25) h0 1 dX3_phaseIn_24 rfl rfl rfl ?_
      refine r_if_eq (pt := 37) (pf := 28) h0 dX3_phaseIn_25 rfl rfl h (fun c25 h => ?_) (fun c25 h => ?_)
      · refine r_aload_n (pc' := 38) h0 0 dX3_phaseIn_37 rfl rfl rfl ?_
        refine gf_X3_21 (pc' := 41) h0 hk dX3_phaseIn_38 rfl ?_
        refine r_iload (pc' := 43) h0 3 dX3_phaseIn_41 rfl rfl ?_
        obtain ⟨r43, h43, h⟩ := b1_some h
        refine go_S (k_X3_82 g) (st2 := [.int r43]) (pc' := 46) [.ref (wA (wC g) 14 k), .int x4] [] h0 (c_X7_read g fu 14 4 k (ia_14 g) hk x4 S h43) rfl rfl dX3_phaseIn_43 rfl (Nat.le_of_ble_eq_true rfl) ⟨rfl, rfl, Nat.le_of_ble_eq_true rfl, Nat.le_of_ble_eq_true rfl⟩ ⟨Nat.le_of_ble_eq_true rfl, Nat.le_of_ble_eq_true rfl⟩ rfl ?_
        exact w_X3_phaseIn_46 h0 fu k hk x1 S hE (f_X3_phaseIn_15 fu k x1 S n) ih x2 x3 x4 r43 h
      · refine r_aload_n (pc' := 29) h0 0 dX3_phaseIn_28 rfl rfl rfl ?_
        refine r_iload (pc' := 31) h0 3 dX3_phaseIn_29 rfl rfl ?_
        obtain ⟨r31, h31, h⟩ := b1_some h
        refine go_V (k_X3_153 g) (st2 := [.int r31]) (pc' := 34) [.int x4] [] h0 hk (c_X3_changedGreen g fu k hk x4 S h31) rfl rfl dX3_phaseIn_31 rfl (Nat.le_of_ble_eq_true rfl) ⟨rfl, rfl, Nat.le_of_ble_eq_true rfl, Nat.le_of_ble_eq_true rfl⟩ ⟨Nat.le_of_ble_eq_true rfl, Nat.le_of_ble_eq_true rfl⟩ rfl ?_
        refine r_goto (pc' := 46) h0 dX3_phaseIn_34 rfl ?_
        exact w_X3_phaseIn_46 h0 fu k hk x1 S hE (f_X3_phaseIn_15 fu k x1 S n) ih x2 x3 x4 r31 h
/-- the machine does what f_X3_phaseIn says -/
theorem c_X3_phaseIn (g : GC) (fu : Nat) (k : Nat) (hk : k < 5) (x1 : Int32) (S : Mem) {r : Int32}  (h : f_X3_phaseIn fu k x1 S = some r) : ctN yX3_phaseIn cX3_phaseIn 6 (some .int) rm_X3_phaseIn (wC g) [.ref (wA (wC g) 3 k), .int x1] S (some (.int r)) S := by
  refine ct_of (own := RX3) (L := [(0, .ref (wA (wC g) 3 k)), (1, .int x1)]) (by decide +kernel) rfl (Nat.le_of_ble_eq_true rfl) rfl (fun X h0 hE => ?_)
  rw [f_X3_phaseIn] at h
  refine r_aload_n (pc' := 1) h0 0 dX3_phaseIn_0 rfl rfl rfl ?_
  refine r_iload_n (pc' := 2) h0 1 dX3_phaseIn_1 rfl rfl rfl ?_
  obtain ⟨r2, h2, h⟩ := b1_some h
  refine go_V (k_X3_147 g) (st2 := [.int r2]) (pc' := 5) [.int x1] [] h0 hk (c_X3_hasBusIn g fu k hk x1 S h2) rfl rfl dX3_phaseIn_2 rfl (Nat.le_of_ble_eq_true rfl) ⟨rfl, rfl, Nat.le_of_ble_eq_true rfl, Nat.le_of_ble_eq_true rfl⟩ ⟨Nat.le_of_ble_eq_true rfl, Nat.le_of_ble_eq_true rfl⟩ rfl ?_
  refine r_istore_n (pc' := 6) (L' := [(2, .int r2), (0, .ref (wA (wC g) 3 k)), (1, .int x1)]) h0 dX3_phaseIn_5 rfl (Nat.le_of_ble_eq_true rfl) rfl rfl ?_
  refine r_aload_n (pc' := 7) h0 1 dX3_phaseIn_6 rfl rfl rfl ?_
  refine r_iload_n (pc' := 8) h0 2 dX3_phaseIn_7 rfl rfl rfl ?_
  obtain ⟨r8, h8, h⟩ := b1_some h
  refine go_V (k_X3_150 g) (st2 := [.int r8]) (pc' := 11) [.int x1] [] h0 hk (c_X3_placeInCycle g fu k hk x1 S h8) rfl rfl dX3_phaseIn_8 rfl (Nat.le_of_ble_eq_true rfl) ⟨rfl, rfl, Nat.le_of_ble_eq_true rfl, Nat.le_of_ble_eq_true rfl⟩ ⟨Nat.le_of_ble_eq_true rfl, Nat.le_of_ble_eq_true rfl⟩ rfl ?_
  refine r_istore_n (pc' := 12) (L' := [(3, .int r8), (2, .int r2), (0, .ref (wA (wC g) 3 k)), (1, .int x1)]) h0 dX3_phaseIn_11 rfl (Nat.le_of_ble_eq_true rfl) rfl rfl ?_
  refine r_iconst (pc' := 13) h0 dX3_phaseIn_12 ki_0 rfl ?_
  refine r_istore (pc' := 15) (L' := [(4, .int 0), (3, .int r8), (2, .int r2), (0, .ref (wA (wC g) 3 k)), (1, .int x1)]) h0 dX3_phaseIn_13 (Nat.le_of_ble_eq_true rfl) rfl rfl ?_
  refine r_sub (L' := [(0, .ref (wA (wC g) 3 k)), (2, .int r2), (3, .int r8), (4, .int 0)]) [3, 2, 1, 0] rfl ?_
  exact w_X3_phaseIn_15 h0 fu k hk x1 S hE fu r2 r8 0 h
