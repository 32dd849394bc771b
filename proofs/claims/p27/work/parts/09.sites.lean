theorem v_157 : Cond.fieldLink RX1 18 RX1 "size" "I" ∈ GW := gw_of (i := 157) (by decide +kernel) (by decide +kernel)
theorem gf_X1_18 {cc : ByteArray} {nL : Nat} {rm : Room} {X : MX} {g : GC} {cn sn : Nat} {S : Mem} {L : List (Nat × Value)} {pc pc' : Nat} {st : List Value} (h0 : CX RX1 cc nL rm X (wC g)) (hk : 0 < 1) (hdg : decode cc pc = .ok (.getfield 18, 3)) (e : pc + 3 = pc') (kk : GV X (wC g) nL cn sn S L pc' (.int (S.1 1 0 1) :: st)) : GV X (wC g) nL cn sn S L pc (.ref (wA (wC g) 1 0) :: st) :=
  r_get (T := TX1) h0 hk rfl rfl inX1 1 (by decide) v_157 rfl rfl hdg e kk
theorem v_156 : Cond.fieldLink RX1 11 RX1 "all" "[LGreenwave$Junction;" ∈ GW := gw_of (i := 156) (by decide +kernel) (by decide +kernel)
theorem gf_X1_11 {cc : ByteArray} {nL : Nat} {rm : Room} {X : MX} {g : GC} {cn sn : Nat} {S : Mem} {L : List (Nat × Value)} {pc pc' : Nat} {st : List Value} (h0 : CX RX1 cc nL rm X (wC g)) (hk : 0 < 1) (hdg : decode cc pc = .ok (.getfield 11, 3)) (e : pc + 3 = pc') (kk : GV X (wC g) nL cn sn S L pc' (.ref (wA (wC g) 10 0) :: st)) : GV X (wC g) nL cn sn S L pc (.ref (wA (wC g) 1 0) :: st) :=
  r_get (T := TX1) h0 hk rfl rfl inX1 0 (by decide) v_156 rfl rfl hdg e kk
theorem v_254 : Cond.methodLink RX1 25 yX1_at ∈ GW := gw_of (i := 254) (by decide +kernel) (by decide +kernel)
theorem v_257 : Cond.code yX1_at cX1_at 2 (some (.object "Greenwave$Junction")) ∈ GW := gw_of (i := 257) (by decide +kernel) (by decide +kernel)
theorem v_29 : Cond.initialized RX1 ∈ GW := gw_of (i := 29) (by decide +kernel) (by decide +kernel)
theorem v_255 : Cond.instanceMethod yX1_at ∈ GW := gw_of (i := 255) (by decide +kernel) (by decide +kernel)
theorem v_256 : Cond.selects RX1 yX1_at yX1_at ∈ GW := gw_of (i := 256) (by decide +kernel) (by decide +kernel)
theorem k_X1_25 (g : GC) : gcV (wC g) RX1 25 1 yX1_at cX1_at 2 (some (.object "Greenwave$Junction")) 1 := mkV (ob_1 g) v_254 v_255 v_256 v_257 v_29 ⟨by decide +kernel, by decide +kernel, by decide +kernel⟩
theorem v_100 : Cond.fieldLinkNest RX1 46 RX3 "link" "LGreenwave$Link;" "Greenwave" ∈ NW := nw_of (i := 100) (by decide +kernel) (by decide +kernel)
theorem gf_X1_46 {cc : ByteArray} {nL : Nat} {rm : Room} {X : MX} {g : GC} {cn sn : Nat} {S : Mem} {L : List (Nat × Value)} {pc pc' : Nat} {st : List Value} {k : Nat} (h0 : CX RX1 cc nL rm X (wC g)) (hk : k < 5) (hdg : decode cc pc = .ok (.getfield 46, 3)) (e : pc + 3 = pc') (kk : GV X (wC g) nL cn sn S L pc' (.ref (wA (wC g) 4 k) :: st)) : GV X (wC g) nL cn sn S L pc (.ref (wA (wC g) 3 k) :: st) :=
  r_getN (T := TX3) h0 hk rfl rfl inX3 6 (by decide) v_100 rfl rfl hdg e kk
theorem v_75 : Cond.fieldLinkNest RX1 62 RX4 "seconds" "I" "Greenwave" ∈ NW := nw_of (i := 75) (by decide +kernel) (by decide +kernel)
theorem gf_X1_62 {cc : ByteArray} {nL : Nat} {rm : Room} {X : MX} {g : GC} {cn sn : Nat} {S : Mem} {L : List (Nat × Value)} {pc pc' : Nat} {st : List Value} {k : Nat} (h0 : CX RX1 cc nL rm X (wC g)) (hk : k < 5) (hdg : decode cc pc = .ok (.getfield 62, 3)) (e : pc + 3 = pc') (kk : GV X (wC g) nL cn sn S L pc' (.int (S.1 4 k 1) :: st)) : GV X (wC g) nL cn sn S L pc (.ref (wA (wC g) 4 k) :: st) :=
  r_getN (T := TX4) h0 hk rfl rfl inX4 1 (by decide) v_75 rfl rfl hdg e kk
theorem v_189 : Cond.fieldLink RX5 7 RX5 "low" "J" ∈ GW := gw_of (i := 189) (by decide +kernel) (by decide +kernel)
theorem pf_X5_7 {cc : ByteArray} {nL : Nat} {rm : Room} {X : MX} {g : GC} {cn sn : Nat} {S : Mem} {L : List (Nat × Value)} {pc pc' : Nat} {st : List Value} {k : Nat} {v : Int64} (h0 : CX RX5 cc nL rm X (wC g)) (hk : k < 8) (hdg : decode cc pc = .ok (.putfield 7, 3)) (e : pc + 3 = pc') (kk : GV X (wC g) nL cn sn (wL S 5 k 0 v) L pc' st) : GV X (wC g) nL cn sn S L pc (.long v :: .ref (wA (wC g) 5 k) :: st) :=
  r_put (S' := (wL S 5 k 0 v)) (T := TX5) h0 hk rfl rfl inX5 tyX5 tyX5_ok nmX5 0 (by decide) v_189 rfl rfl (rfl) rfl (Nat.le_of_ble_eq_true rfl) wL_off ((congrArg (fun z => wCe (wC g) (S.1 5 k) z 5 k) wL_on).trans rfl) hdg e kk
theorem v_190 : Cond.fieldLink RX5 13 RX5 "high" "J" ∈ GW := gw_of (i := 190) (by decide +kernel) (by decide +kernel)
theorem pf_X5_13 {cc : ByteArray} {nL : Nat} {rm : Room} {X : MX} {g : GC} {cn sn : Nat} {S : Mem} {L : List (Nat × Value)} {pc pc' : Nat} {st : List Value} {k : Nat} {v : Int64} (h0 : CX RX5 cc nL rm X (wC g)) (hk : k < 8) (hdg : decode cc pc = .ok (.putfield 13, 3)) (e : pc + 3 = pc') (kk : GV X (wC g) nL cn sn (wL S 5 k 1 v) L pc' st) : GV X (wC g) nL cn sn S L pc (.long v :: .ref (wA (wC g) 5 k) :: st) :=
  r_put (S' := (wL S 5 k 1 v)) (T := TX5) h0 hk rfl rfl inX5 tyX5 tyX5_ok nmX5 1 (by decide) v_190 rfl rfl (rfl) rfl (Nat.le_of_ble_eq_true rfl) wL_off ((congrArg (fun z => wCe (wC g) (S.1 5 k) z 5 k) wL_on).trans rfl) hdg e kk
theorem v_196 : Cond.fieldLink RX2 10 RX2 "forward" "LGreenwave$Seconds;" ∈ GW := gw_of (i := 196) (by decide +kernel) (by decide +kernel)
theorem gf_X2_10 {cc : ByteArray} {nL : Nat} {rm : Room} {X : MX} {g : GC} {cn sn : Nat} {S : Mem} {L : List (Nat × Value)} {pc pc' : Nat} {st : List Value} {k : Nat} (h0 : CX RX2 cc nL rm X (wC g)) (hk : k < 4) (hdg : decode cc pc = .ok (.getfield 10, 3)) (e : pc + 3 = pc') (kk : GV X (wC g) nL cn sn S L pc' (.ref (wA (wC g) 5 (2 * k)) :: st)) : GV X (wC g) nL cn sn S L pc (.ref (wA (wC g) 2 k) :: st) :=
  r_get (T := TX2) h0 hk rfl rfl inX2 0 (by decide) v_196 rfl rfl hdg e kk
theorem v_650 : Cond.methodLink RX2 19 yX5_clear ∈ GW := gw_of (i := 650) (by decide +kernel) (by decide +kernel)
theorem v_653 : Cond.code yX5_clear cX5_clear 1 none ∈ GW := gw_of (i := 653) (by decide +kernel) (by decide +kernel)
theorem v_34 : Cond.initialized RX5 ∈ GW := gw_of (i := 34) (by decide +kernel) (by decide +kernel)
theorem v_651 : Cond.instanceMethod yX5_clear ∈ GW := gw_of (i := 651) (by decide +kernel) (by decide +kernel)
theorem v_652 : Cond.selects RX5 yX5_clear yX5_clear ∈ GW := gw_of (i := 652) (by decide +kernel) (by decide +kernel)
theorem k_X2_19 (g : GC) : gcV (wC g) RX2 19 5 yX5_clear cX5_clear 1 none 0 := mkV (ob_5 g) v_650 v_651 v_652 v_653 v_34 ⟨by decide +kernel, by decide +kernel, by decide +kernel⟩
theorem v_198 : Cond.fieldLink RX2 16 RX2 "backward" "LGreenwave$Seconds;" ∈ GW := gw_of (i := 198) (by decide +kernel) (by decide +kernel)
theorem gf_X2_16 {cc : ByteArray} {nL : Nat} {rm : Room} {X : MX} {g : GC} {cn sn : Nat} {S : Mem} {L : List (Nat × Value)} {pc pc' : Nat} {st : List Value} {k : Nat} (h0 : CX RX2 cc nL rm X (wC g)) (hk : k < 4) (hdg : decode cc pc = .ok (.getfield 16, 3)) (e : pc + 3 = pc') (kk : GV X (wC g) nL cn sn S L pc' (.ref (wA (wC g) 5 (2 * k + 1)) :: st)) : GV X (wC g) nL cn sn S L pc (.ref (wA (wC g) 2 k) :: st) :=
  r_get (T := TX2) h0 hk rfl rfl inX2 1 (by decide) v_198 rfl rfl hdg e kk
theorem v_98 : Cond.fieldLink RX3 27 RX3 "lights" "[I" ∈ GW := gw_of (i := 98) (by decide +kernel) (by decide +kernel)
theorem gf_X3_27 {cc : ByteArray} {nL : Nat} {rm : Room} {X : MX} {g : GC} {cn sn : Nat} {S : Mem} {L : List (Nat × Value)} {pc pc' : Nat} {st : List Value} {k : Nat} (h0 : CX RX3 cc nL rm X (wC g)) (hk : k < 5) (hdg : decode cc pc = .ok (.getfield 27, 3)) (e : pc + 3 = pc') (kk : GV X (wC g) nL cn sn S L pc' (.ref (wA (wC g) 16 k) :: st)) : GV X (wC g) nL cn sn S L pc (.ref (wA (wC g) 3 k) :: st) :=
  r_get (T := TX3) h0 hk rfl rfl inX3 5 (by decide) v_98 rfl rfl hdg e kk
theorem v_104 : Cond.fieldLink RX3 37 RX3 "cycle" "I" ∈ GW := gw_of (i := 104) (by decide +kernel) (by decide +kernel)
theorem gf_X3_37 {cc : ByteArray} {nL : Nat} {rm : Room} {X : MX} {g : GC} {cn sn : Nat} {S : Mem} {L : List (Nat × Value)} {pc pc' : Nat} {st : List Value} {k : Nat} (h0 : CX RX3 cc nL rm X (wC g)) (hk : k < 5) (hdg : decode cc pc = .ok (.getfield 37, 3)) (e : pc + 3 = pc') (kk : GV X (wC g) nL cn sn S L pc' (.int (S.1 3 k 8) :: st)) : GV X (wC g) nL cn sn S L pc (.ref (wA (wC g) 3 k) :: st) :=
  r_get (T := TX3) h0 hk rfl rfl inX3 8 (by decide) v_104 rfl rfl hdg e kk
theorem v_579 : Cond.methodLinkNest RX3 134 yX7_modulo "Greenwave" ∈ NW := nw_of (i := 579) (by decide +kernel) (by decide +kernel)
theorem v_560 : Cond.code yX7_modulo cX7_modulo 3 (some .int) ∈ GW := gw_of (i := 560) (by decide +kernel) (by decide +kernel)
theorem v_28 : Cond.initialized RX7 ∈ GW := gw_of (i := 28) (by decide +kernel) (by decide +kernel)
theorem v_559 : Cond.static yX7_modulo ∈ GW := gw_of (i := 559) (by decide +kernel) (by decide +kernel)
theorem k_X3_134 (g : GC) : gcS (wC g) RX3 134 yX7_modulo cX7_modulo 3 (some .int) 2 := mkSN v_579 v_559 v_560 v_28 ⟨by decide +kernel, by decide +kernel, by decide +kernel⟩
theorem v_353 : Cond.methodLinkNest RX3 82 yX7_read "Greenwave" ∈ NW := nw_of (i := 353) (by decide +kernel) (by decide +kernel)
theorem v_355 : Cond.code yX7_read cX7_read 2 (some .int) ∈ GW := gw_of (i := 355) (by decide +kernel) (by decide +kernel)
theorem v_354 : Cond.static yX7_read ∈ GW := gw_of (i := 354) (by decide +kernel) (by decide +kernel)
theorem k_X3_82 (g : GC) : gcS (wC g) RX3 82 yX7_read cX7_read 2 (some .int) 2 := mkSN v_353 v_354 v_355 v_28 ⟨by decide +kernel, by decide +kernel, by decide +kernel⟩
theorem v_360 : Cond.methodLinkNest RX3 93 yX7_hasBit "Greenwave" ∈ NW := nw_of (i := 360) (by decide +kernel) (by decide +kernel)
theorem v_362 : Cond.code yX7_hasBit cX7_hasBit 2 (some .boolean) ∈ GW := gw_of (i := 362) (by decide +kernel) (by decide +kernel)
theorem v_361 : Cond.static yX7_hasBit ∈ GW := gw_of (i := 361) (by decide +kernel) (by decide +kernel)
theorem k_X3_93 (g : GC) : gcS (wC g) RX3 93 yX7_hasBit cX7_hasBit 2 (some .boolean) 2 := mkSN v_360 v_361 v_362 v_28 ⟨by decide +kernel, by decide +kernel, by decide +kernel⟩
theorem gf_X5_13 {cc : ByteArray} {nL : Nat} {rm : Room} {X : MX} {g : GC} {cn sn : Nat} {S : Mem} {L : List (Nat × Value)} {pc pc' : Nat} {st : List Value} {k : Nat} (h0 : CX RX5 cc nL rm X (wC g)) (hk : k < 8) (hdg : decode cc pc = .ok (.getfield 13, 3)) (e : pc + 3 = pc') (kk : GV X (wC g) nL cn sn S L pc' (.long (S.2 5 k 1) :: st)) : GV X (wC g) nL cn sn S L pc (.ref (wA (wC g) 5 k) :: st) :=
  r_get (T := TX5) h0 hk rfl rfl inX5 1 (by decide) v_190 rfl rfl hdg e kk
theorem gf_X5_7 {cc : ByteArray} {nL : Nat} {rm : Room} {X : MX} {g : GC} {cn sn : Nat} {S : Mem} {L : List (Nat × Value)} {pc pc' : Nat} {st : List Value} {k : Nat} (h0 : CX RX5 cc nL rm X (wC g)) (hk : k < 8) (hdg : decode cc pc = .ok (.getfield 7, 3)) (e : pc + 3 = pc') (kk : GV X (wC g) nL cn sn S L pc' (.long (S.2 5 k 0) :: st)) : GV X (wC g) nL cn sn S L pc (.ref (wA (wC g) 5 k) :: st) :=
  r_get (T := TX5) h0 hk rfl rfl inX5 0 (by decide) v_189 rfl rfl hdg e kk
theorem v_205 : Cond.fieldLink RX0 27 RX0 "corridor" "LGreenwave$Corridor;" ∈ GW := gw_of (i := 205) (by decide +kernel) (by decide +kernel)
theorem gf_X0_27 {cc : ByteArray} {nL : Nat} {rm : Room} {X : MX} {g : GC} {cn sn : Nat} {S : Mem} {L : List (Nat × Value)} {pc pc' : Nat} {st : List Value} (h0 : CX RX0 cc nL rm X (wC g)) (hk : 0 < 1) (hdg : decode cc pc = .ok (.getfield 27, 3)) (e : pc + 3 = pc') (kk : GV X (wC g) nL cn sn S L pc' (.ref (wA (wC g) 1 0) :: st)) : GV X (wC g) nL cn sn S L pc (.ref (wA (wC g) 0 0) :: st) :=
  r_get (T := TX0) h0 hk rfl rfl inX0 0 (by decide) v_205 rfl rfl hdg e kk
theorem v_641 : Cond.methodLink RX0 31 yX1_at ∈ GW := gw_of (i := 641) (by decide +kernel) (by decide +kernel)
theorem k_X0_31 (g : GC) : gcV (wC g) RX0 31 1 yX1_at cX1_at 2 (some (.object "Greenwave$Junction")) 1 := mkV (ob_1 g) v_641 v_255 v_256 v_257 v_29 ⟨by decide +kernel, by decide +kernel, by decide +kernel⟩
theorem v_666 : Cond.methodLink RX0 37 yX1_secondsBetween ∈ GW := gw_of (i := 666) (by decide +kernel) (by decide +kernel)
theorem v_669 : Cond.code yX1_secondsBetween cX1_secondsBetween 5 (some .int) ∈ GW := gw_of (i := 669) (by decide +kernel) (by decide +kernel)
theorem v_667 : Cond.instanceMethod yX1_secondsBetween ∈ GW := gw_of (i := 667) (by decide +kernel) (by decide +kernel)
theorem v_668 : Cond.selects RX1 yX1_secondsBetween yX1_secondsBetween ∈ GW := gw_of (i := 668) (by decide +kernel) (by decide +kernel)
theorem k_X0_37 (g : GC) : gcV (wC g) RX0 37 1 yX1_secondsBetween cX1_secondsBetween 5 (some .int) 2 := mkV (ob_1 g) v_666 v_667 v_668 v_669 v_29 ⟨by decide +kernel, by decide +kernel, by decide +kernel⟩
theorem v_158 : Cond.fieldLinkNest RX0 41 RX1 "size" "I" "Greenwave" ∈ NW := nw_of (i := 158) (by decide +kernel) (by decide +kernel)
theorem gf_X0_41 {cc : ByteArray} {nL : Nat} {rm : Room} {X : MX} {g : GC} {cn sn : Nat} {S : Mem} {L : List (Nat × Value)} {pc pc' : Nat} {st : List Value} (h0 : CX RX0 cc nL rm X (wC g)) (hk : 0 < 1) (hdg : decode cc pc = .ok (.getfield 41, 3)) (e : pc + 3 = pc') (kk : GV X (wC g) nL cn sn S L pc' (.int (S.1 1 0 1) :: st)) : GV X (wC g) nL cn sn S L pc (.ref (wA (wC g) 1 0) :: st) :=
  r_getN (T := TX1) h0 hk rfl rfl inX1 1 (by decide) v_158 rfl rfl hdg e kk
theorem v_646 : Cond.methodLink RX0 45 yX2_clear ∈ GW := gw_of (i := 646) (by decide +kernel) (by decide +kernel)
theorem v_649 : Cond.code yX2_clear cX2_clear 1 none ∈ GW := gw_of (i := 649) (by decide +kernel) (by decide +kernel)
theorem v_33 : Cond.initialized RX2 ∈ GW := gw_of (i := 33) (by decide +kernel) (by decide +kernel)
theorem v_647 : Cond.instanceMethod yX2_clear ∈ GW := gw_of (i := 647) (by decide +kernel) (by decide +kernel)
theorem v_648 : Cond.selects RX2 yX2_clear yX2_clear ∈ GW := gw_of (i := 648) (by decide +kernel) (by decide +kernel)
theorem k_X0_45 (g : GC) : gcV (wC g) RX0 45 2 yX2_clear cX2_clear 1 none 0 := mkV (ob_2 g) v_646 v_647 v_648 v_649 v_33 ⟨by decide +kernel, by decide +kernel, by decide +kernel⟩
theorem v_162 : Cond.fieldLinkNest RX0 48 RX1 "cycle" "I" "Greenwave" ∈ NW := nw_of (i := 162) (by decide +kernel) (by decide +kernel)
theorem gf_X0_48 {cc : ByteArray} {nL : Nat} {rm : Room} {X : MX} {g : GC} {cn sn : Nat} {S : Mem} {L : List (Nat × Value)} {pc pc' : Nat} {st : List Value} (h0 : CX RX0 cc nL rm X (wC g)) (hk : 0 < 1) (hdg : decode cc pc = .ok (.getfield 48, 3)) (e : pc + 3 = pc') (kk : GV X (wC g) nL cn sn S L pc' (.int (S.1 1 0 2) :: st)) : GV X (wC g) nL cn sn S L pc (.ref (wA (wC g) 1 0) :: st) :=
  r_getN (T := TX1) h0 hk rfl rfl inX1 2 (by decide) v_162 rfl rfl hdg e kk
theorem v_670 : Cond.methodLink RX0 51 yX3_isLitFrom ∈ GW := gw_of (i := 670) (by decide +kernel) (by decide +kernel)
theorem v_673 : Cond.code yX3_isLitFrom cX3_isLitFrom 4 (some .boolean) ∈ GW := gw_of (i := 673) (by decide +kernel) (by decide +kernel)
theorem v_30 : Cond.initialized RX3 ∈ GW := gw_of (i := 30) (by decide +kernel) (by decide +kernel)
theorem v_671 : Cond.instanceMethod yX3_isLitFrom ∈ GW := gw_of (i := 671) (by decide +kernel) (by decide +kernel)
theorem v_672 : Cond.selects RX3 yX3_isLitFrom yX3_isLitFrom ∈ GW := gw_of (i := 672) (by decide +kernel) (by decide +kernel)
theorem k_X0_51 (g : GC) : gcV (wC g) RX0 51 3 yX3_isLitFrom cX3_isLitFrom 4 (some .boolean) 3 := mkV (ob_3 g) v_670 v_671 v_672 v_673 v_30 ⟨by decide +kernel, by decide +kernel, by decide +kernel⟩
theorem v_197 : Cond.fieldLinkNest RX0 57 RX2 "forward" "LGreenwave$Seconds;" "Greenwave" ∈ NW := nw_of (i := 197) (by decide +kernel) (by decide +kernel)
theorem gf_X0_57 {cc : ByteArray} {nL : Nat} {rm : Room} {X : MX} {g : GC} {cn sn : Nat} {S : Mem} {L : List (Nat × Value)} {pc pc' : Nat} {st : List Value} {k : Nat} (h0 : CX RX0 cc nL rm X (wC g)) (hk : k < 4) (hdg : decode cc pc = .ok (.getfield 57, 3)) (e : pc + 3 = pc') (kk : GV X (wC g) nL cn sn S L pc' (.ref (wA (wC g) 5 (2 * k)) :: st)) : GV X (wC g) nL cn sn S L pc (.ref (wA (wC g) 2 k) :: st) :=
  r_getN (T := TX2) h0 hk rfl rfl inX2 0 (by decide) v_197 rfl rfl hdg e kk
theorem v_674 : Cond.methodLink RX0 61 yX5_add ∈ GW := gw_of (i := 674) (by decide +kernel) (by decide +kernel)
theorem v_661 : Cond.code yX5_add cX5_add 2 none ∈ GW := gw_of (i := 661) (by decide +kernel) (by decide +kernel)
theorem v_659 : Cond.instanceMethod yX5_add ∈ GW := gw_of (i := 659) (by decide +kernel) (by decide +kernel)
theorem v_660 : Cond.selects RX5 yX5_add yX5_add ∈ GW := gw_of (i := 660) (by decide +kernel) (by decide +kernel)
theorem k_X0_61 (g : GC) : gcV (wC g) RX0 61 5 yX5_add cX5_add 2 none 1 := mkV (ob_5 g) v_674 v_659 v_660 v_661 v_34 ⟨by decide +kernel, by decide +kernel, by decide +kernel⟩
theorem v_199 : Cond.fieldLinkNest RX0 67 RX2 "backward" "LGreenwave$Seconds;" "Greenwave" ∈ NW := nw_of (i := 199) (by decide +kernel) (by decide +kernel)
theorem gf_X0_67 {cc : ByteArray} {nL : Nat} {rm : Room} {X : MX} {g : GC} {cn sn : Nat} {S : Mem} {L : List (Nat × Value)} {pc pc' : Nat} {st : List Value} {k : Nat} (h0 : CX RX0 cc nL rm X (wC g)) (hk : k < 4) (hdg : decode cc pc = .ok (.getfield 67, 3)) (e : pc + 3 = pc') (kk : GV X (wC g) nL cn sn S L pc' (.ref (wA (wC g) 5 (2 * k + 1)) :: st)) : GV X (wC g) nL cn sn S L pc (.ref (wA (wC g) 2 k) :: st) :=
  r_getN (T := TX2) h0 hk rfl rfl inX2 1 (by decide) v_199 rfl rfl hdg e kk
theorem v_658 : Cond.methodLink RX2 22 yX5_add ∈ GW := gw_of (i := 658) (by decide +kernel) (by decide +kernel)
theorem k_X2_22 (g : GC) : gcV (wC g) RX2 22 5 yX5_add cX5_add 2 none 1 := mkV (ob_5 g) v_658 v_659 v_660 v_661 v_34 ⟨by decide +kernel, by decide +kernel, by decide +kernel⟩
theorem v_679 : Cond.methodLink RX2 26 yX5_becomeCommon ∈ GW := gw_of (i := 679) (by decide +kernel) (by decide +kernel)
theorem v_682 : Cond.code yX5_becomeCommon cX5_becomeCommon 3 none ∈ GW := gw_of (i := 682) (by decide +kernel) (by decide +kernel)
theorem v_680 : Cond.instanceMethod yX5_becomeCommon ∈ GW := gw_of (i := 680) (by decide +kernel) (by decide +kernel)
theorem v_681 : Cond.selects RX5 yX5_becomeCommon yX5_becomeCommon ∈ GW := gw_of (i := 681) (by decide +kernel) (by decide +kernel)
theorem k_X2_26 (g : GC) : gcV (wC g) RX2 26 5 yX5_becomeCommon cX5_becomeCommon 3 none 2 := mkV (ob_5 g) v_679 v_680 v_681 v_682 v_34 ⟨by decide +kernel, by decide +kernel, by decide +kernel⟩
theorem v_206 : Cond.fieldLink RX0 12 RX0 "common" "LGreenwave$FreeSeconds;" ∈ GW := gw_of (i := 206) (by decide +kernel) (by decide +kernel)
theorem gf_X0_12 {cc : ByteArray} {nL : Nat} {rm : Room} {X : MX} {g : GC} {cn sn : Nat} {S : Mem} {L : List (Nat × Value)} {pc pc' : Nat} {st : List Value} (h0 : CX RX0 cc nL rm X (wC g)) (hk : 0 < 1) (hdg : decode cc pc = .ok (.getfield 12, 3)) (e : pc + 3 = pc') (kk : GV X (wC g) nL cn sn S L pc' (.ref (wA (wC g) 2 0) :: st)) : GV X (wC g) nL cn sn S L pc (.ref (wA (wC g) 0 0) :: st) :=
  r_get (T := TX0) h0 hk rfl rfl inX0 1 (by decide) v_206 rfl rfl hdg e kk
theorem v_654 : Cond.methodLink RX0 70 yX2_addAll ∈ GW := gw_of (i := 654) (by decide +kernel) (by decide +kernel)
theorem v_657 : Cond.code yX2_addAll cX2_addAll 3 none ∈ GW := gw_of (i := 657) (by decide +kernel) (by decide +kernel)
theorem v_655 : Cond.instanceMethod yX2_addAll ∈ GW := gw_of (i := 655) (by decide +kernel) (by decide +kernel)
theorem v_656 : Cond.selects RX2 yX2_addAll yX2_addAll ∈ GW := gw_of (i := 656) (by decide +kernel) (by decide +kernel)
theorem k_X0_70 (g : GC) : gcV (wC g) RX0 70 2 yX2_addAll cX2_addAll 3 none 1 := mkV (ob_2 g) v_654 v_655 v_656 v_657 v_33 ⟨by decide +kernel, by decide +kernel, by decide +kernel⟩
theorem v_106 : Cond.fieldLinkNest RX0 73 RX3 "start" "I" "Greenwave" ∈ NW := nw_of (i := 106) (by decide +kernel) (by decide +kernel)
theorem gf_X0_73 {cc : ByteArray} {nL : Nat} {rm : Room} {X : MX} {g : GC} {cn sn : Nat} {S : Mem} {L : List (Nat × Value)} {pc pc' : Nat} {st : List Value} {k : Nat} (h0 : CX RX0 cc nL rm X (wC g)) (hk : k < 5) (hdg : decode cc pc = .ok (.getfield 73, 3)) (e : pc + 3 = pc') (kk : GV X (wC g) nL cn sn S L pc' (.int (S.1 3 k 9) :: st)) : GV X (wC g) nL cn sn S L pc (.ref (wA (wC g) 3 k) :: st) :=
  r_getN (T := TX3) h0 hk rfl rfl inX3 9 (by decide) v_106 rfl rfl hdg e kk
theorem v_207 : Cond.fieldLink RX0 18 RX0 "single" "LGreenwave$FreeSeconds;" ∈ GW := gw_of (i := 207) (by decide +kernel) (by decide +kernel)
theorem gf_X0_18 {cc : ByteArray} {nL : Nat} {rm : Room} {X : MX} {g : GC} {cn sn : Nat} {S : Mem} {L : List (Nat × Value)} {pc pc' : Nat} {st : List Value} (h0 : CX RX0 cc nL rm X (wC g)) (hk : 0 < 1) (hdg : decode cc pc = .ok (.getfield 18, 3)) (e : pc + 3 = pc') (kk : GV X (wC g) nL cn sn S L pc' (.ref (wA (wC g) 2 1) :: st)) : GV X (wC g) nL cn sn S L pc (.ref (wA (wC g) 0 0) :: st) :=
  r_get (T := TX0) h0 hk rfl rfl inX0 2 (by decide) v_207 rfl rfl hdg e kk
theorem v_662 : Cond.methodLink RX0 76 yX0_fillFrom ∈ GW := gw_of (i := 662) (by decide +kernel) (by decide +kernel)
theorem v_665 : Cond.code yX0_fillFrom cX0_fillFrom 8 none ∈ GW := gw_of (i := 665) (by decide +kernel) (by decide +kernel)
theorem v_32 : Cond.initialized RX0 ∈ GW := gw_of (i := 32) (by decide +kernel) (by decide +kernel)
theorem v_664 : Cond.instanceMethod yX0_fillFrom ∈ GW := gw_of (i := 664) (by decide +kernel) (by decide +kernel)
theorem v_21 : Cond.selects RX0 yX0_fillFrom yX0_fillFrom ∈ GW := gw_of (i := 21) (by decide +kernel) (by decide +kernel)
theorem k_X0_76 (g : GC) : gcV (wC g) RX0 76 0 yX0_fillFrom cX0_fillFrom 8 none 3 := mkV (ob_0 g) v_662 v_664 v_21 v_665 v_32 ⟨by decide +kernel, by decide +kernel, by decide +kernel⟩
theorem v_675 : Cond.methodLink RX0 80 yX2_becomeCommon ∈ GW := gw_of (i := 675) (by decide +kernel) (by decide +kernel)
theorem v_678 : Cond.code yX2_becomeCommon cX2_becomeCommon 3 none ∈ GW := gw_of (i := 678) (by decide +kernel) (by decide +kernel)
theorem v_676 : Cond.instanceMethod yX2_becomeCommon ∈ GW := gw_of (i := 676) (by decide +kernel) (by decide +kernel)
theorem v_677 : Cond.selects RX2 yX2_becomeCommon yX2_becomeCommon ∈ GW := gw_of (i := 677) (by decide +kernel) (by decide +kernel)
theorem k_X0_80 (g : GC) : gcV (wC g) RX0 80 2 yX2_becomeCommon cX2_becomeCommon 3 none 2 := mkV (ob_2 g) v_675 v_676 v_677 v_678 v_33 ⟨by decide +kernel, by decide +kernel, by decide +kernel⟩
theorem v_698 : Cond.constantLong RJ13 314 6148914691236517205 ∈ GW := gw_of (i := 698) (by decide +kernel) (by decide +kernel)
theorem v_699 : Cond.constantLong RJ13 316 3689348814741910323 ∈ GW := gw_of (i := 699) (by decide +kernel) (by decide +kernel)
theorem v_700 : Cond.constantLong RJ13 318 1085102592571150095 ∈ GW := gw_of (i := 700) (by decide +kernel) (by decide +kernel)
theorem v_695 : Cond.methodLink RX5 18 yJ13_bitCount_95d88 ∈ GW := gw_of (i := 695) (by decide +kernel) (by decide +kernel)
theorem v_697 : Cond.code yJ13_bitCount_95d88 cJ13_bitCount_95d88 2 (some .int) ∈ GW := gw_of (i := 697) (by decide +kernel) (by decide +kernel)
theorem v_44 : Cond.initialized RJ13 ∈ GW := gw_of (i := 44) (by decide +kernel) (by decide +kernel)
theorem v_696 : Cond.static yJ13_bitCount_95d88 ∈ GW := gw_of (i := 696) (by decide +kernel) (by decide +kernel)
theorem k_X5_18 (g : GC) : gcS (wC g) RX5 18 yJ13_bitCount_95d88 cJ13_bitCount_95d88 2 (some .int) 1 := mkS v_695 v_696 v_697 v_44 ⟨by decide +kernel, by decide +kernel, by decide +kernel⟩
theorem v_642 : Cond.methodLink RX0 84 yX0_fillCommon ∈ GW := gw_of (i := 642) (by decide +kernel) (by decide +kernel)
theorem v_645 : Cond.code yX0_fillCommon cX0_fillCommon 3 none ∈ GW := gw_of (i := 645) (by decide +kernel) (by decide +kernel)
theorem v_644 : Cond.instanceMethod yX0_fillCommon ∈ GW := gw_of (i := 644) (by decide +kernel) (by decide +kernel)
theorem v_20 : Cond.selects RX0 yX0_fillCommon yX0_fillCommon ∈ GW := gw_of (i := 20) (by decide +kernel) (by decide +kernel)
theorem k_X0_84 (g : GC) : gcV (wC g) RX0 84 0 yX0_fillCommon cX0_fillCommon 3 none 1 := mkV (ob_0 g) v_642 v_644 v_20 v_645 v_32 ⟨by decide +kernel, by decide +kernel, by decide +kernel⟩
theorem v_760 : Cond.methodLink RX0 87 yX5_countCommon ∈ GW := gw_of (i := 760) (by decide +kernel) (by decide +kernel)
theorem v_694 : Cond.code yX5_countCommon cX5_countCommon 2 (some .int) ∈ GW := gw_of (i := 694) (by decide +kernel) (by decide +kernel)
theorem v_692 : Cond.instanceMethod yX5_countCommon ∈ GW := gw_of (i := 692) (by decide +kernel) (by decide +kernel)
theorem v_693 : Cond.selects RX5 yX5_countCommon yX5_countCommon ∈ GW := gw_of (i := 693) (by decide +kernel) (by decide +kernel)
theorem k_X0_87 (g : GC) : gcV (wC g) RX0 87 5 yX5_countCommon cX5_countCommon 2 (some .int) 1 := mkV (ob_5 g) v_760 v_692 v_693 v_694 v_34 ⟨by decide +kernel, by decide +kernel, by decide +kernel⟩
theorem v_691 : Cond.methodLink RX2 30 yX5_countCommon ∈ GW := gw_of (i := 691) (by decide +kernel) (by decide +kernel)
theorem k_X2_30 (g : GC) : gcV (wC g) RX2 30 5 yX5_countCommon cX5_countCommon 2 (some .int) 1 := mkV (ob_5 g) v_691 v_692 v_693 v_694 v_34 ⟨by decide +kernel, by decide +kernel, by decide +kernel⟩
theorem v_717 : Cond.constantLong RX5 16 (-1) ∈ GW := gw_of (i := 717) (by decide +kernel) (by decide +kernel)
theorem v_709 : Cond.methodLink RX5 24 yX5_has ∈ GW := gw_of (i := 709) (by decide +kernel) (by decide +kernel)
theorem v_712 : Cond.code yX5_has cX5_has 4 (some .boolean) ∈ GW := gw_of (i := 712) (by decide +kernel) (by decide +kernel)
theorem v_711 : Cond.instanceMethod yX5_has ∈ GW := gw_of (i := 711) (by decide +kernel) (by decide +kernel)
theorem v_23 : Cond.selects RX5 yX5_has yX5_has ∈ GW := gw_of (i := 23) (by decide +kernel) (by decide +kernel)
theorem k_X5_24 (g : GC) : gcV (wC g) RX5 24 5 yX5_has cX5_has 4 (some .boolean) 1 := mkV (ob_5 g) v_709 v_711 v_23 v_712 v_34 ⟨by decide +kernel, by decide +kernel, by decide +kernel⟩
theorem v_713 : Cond.methodLink RX5 28 yX5_remove ∈ GW := gw_of (i := 713) (by decide +kernel) (by decide +kernel)
theorem v_716 : Cond.code yX5_remove cX5_remove 2 none ∈ GW := gw_of (i := 716) (by decide +kernel) (by decide +kernel)
theorem v_715 : Cond.instanceMethod yX5_remove ∈ GW := gw_of (i := 715) (by decide +kernel) (by decide +kernel)
theorem v_24 : Cond.selects RX5 yX5_remove yX5_remove ∈ GW := gw_of (i := 24) (by decide +kernel) (by decide +kernel)
theorem k_X5_28 (g : GC) : gcV (wC g) RX5 28 5 yX5_remove cX5_remove 2 none 1 := mkV (ob_5 g) v_713 v_715 v_24 v_716 v_34 ⟨by decide +kernel, by decide +kernel, by decide +kernel⟩
theorem v_705 : Cond.methodLink RX2 34 yX5_turn ∈ GW := gw_of (i := 705) (by decide +kernel) (by decide +kernel)
theorem v_708 : Cond.code yX5_turn cX5_turn 4 none ∈ GW := gw_of (i := 708) (by decide +kernel) (by decide +kernel)
theorem v_706 : Cond.instanceMethod yX5_turn ∈ GW := gw_of (i := 706) (by decide +kernel) (by decide +kernel)
theorem v_707 : Cond.selects RX5 yX5_turn yX5_turn ∈ GW := gw_of (i := 707) (by decide +kernel) (by decide +kernel)
theorem k_X2_34 (g : GC) : gcV (wC g) RX2 34 5 yX5_turn cX5_turn 4 none 1 := mkV (ob_5 g) v_705 v_706 v_707 v_708 v_34 ⟨by decide +kernel, by decide +kernel, by decide +kernel⟩
theorem v_687 : Cond.methodLink RX0 95 yX2_countCommon ∈ GW := gw_of (i := 687) (by decide +kernel) (by decide +kernel)
theorem v_690 : Cond.code yX2_countCommon cX2_countCommon 2 (some .int) ∈ GW := gw_of (i := 690) (by decide +kernel) (by decide +kernel)
theorem v_688 : Cond.instanceMethod yX2_countCommon ∈ GW := gw_of (i := 688) (by decide +kernel) (by decide +kernel)
theorem v_689 : Cond.selects RX2 yX2_countCommon yX2_countCommon ∈ GW := gw_of (i := 689) (by decide +kernel) (by decide +kernel)
theorem k_X0_95 (g : GC) : gcV (wC g) RX0 95 2 yX2_countCommon cX2_countCommon 2 (some .int) 1 := mkV (ob_2 g) v_687 v_688 v_689 v_690 v_33 ⟨by decide +kernel, by decide +kernel, by decide +kernel⟩
theorem v_701 : Cond.methodLink RX0 102 yX2_turn ∈ GW := gw_of (i := 701) (by decide +kernel) (by decide +kernel)
theorem v_704 : Cond.code yX2_turn cX2_turn 2 none ∈ GW := gw_of (i := 704) (by decide +kernel) (by decide +kernel)
theorem v_702 : Cond.instanceMethod yX2_turn ∈ GW := gw_of (i := 702) (by decide +kernel) (by decide +kernel)
theorem v_703 : Cond.selects RX2 yX2_turn yX2_turn ∈ GW := gw_of (i := 703) (by decide +kernel) (by decide +kernel)
theorem k_X0_102 (g : GC) : gcV (wC g) RX0 102 2 yX2_turn cX2_turn 2 none 1 := mkV (ob_2 g) v_701 v_702 v_703 v_704 v_33 ⟨by decide +kernel, by decide +kernel, by decide +kernel⟩
theorem v_683 : Cond.methodLink RX0 98 yX0_lowestBestOffset ∈ GW := gw_of (i := 683) (by decide +kernel) (by decide +kernel)
theorem v_686 : Cond.code yX0_lowestBestOffset cX0_lowestBestOffset 5 (some .int) ∈ GW := gw_of (i := 686) (by decide +kernel) (by decide +kernel)
theorem v_685 : Cond.instanceMethod yX0_lowestBestOffset ∈ GW := gw_of (i := 685) (by decide +kernel) (by decide +kernel)
theorem v_22 : Cond.selects RX0 yX0_lowestBestOffset yX0_lowestBestOffset ∈ GW := gw_of (i := 22) (by decide +kernel) (by decide +kernel)
theorem k_X0_98 (g : GC) : gcV (wC g) RX0 98 0 yX0_lowestBestOffset cX0_lowestBestOffset 5 (some .int) 0 := mkV (ob_0 g) v_683 v_685 v_22 v_686 v_32 ⟨by decide +kernel, by decide +kernel, by decide +kernel⟩
theorem pf_X0_73 {cc : ByteArray} {nL : Nat} {rm : Room} {X : MX} {g : GC} {cn sn : Nat} {S : Mem} {L : List (Nat × Value)} {pc pc' : Nat} {st : List Value} {k : Nat} {v : Int32} (h0 : CX RX0 cc nL rm X (wC g)) (hk : k < 5) (hdg : decode cc pc = .ok (.putfield 73, 3)) (e : pc + 3 = pc') (kk : GV X (wC g) nL cn sn (wI S 3 k 9 v) L pc' st) : GV X (wC g) nL cn sn S L pc (.int v :: .ref (wA (wC g) 3 k) :: st) :=
  r_putN (S' := (wI S 3 k 9 v)) (T := TX3) h0 hk rfl rfl inX3 tyX3 tyX3_ok nmX3 9 (by decide) v_106 rfl rfl (rfl) rfl (Nat.le_of_ble_eq_true rfl) wI_off ((congrArg (fun z => wCe (wC g) z (S.2 3 k) 3 k) wI_on).trans rfl) hdg e kk
theorem v_637 : Cond.methodLink RX0 91 yX0_improveOffset ∈ GW := gw_of (i := 637) (by decide +kernel) (by decide +kernel)
theorem v_640 : Cond.code yX0_improveOffset cX0_improveOffset 4 (some .boolean) ∈ GW := gw_of (i := 640) (by decide +kernel) (by decide +kernel)
theorem v_639 : Cond.instanceMethod yX0_improveOffset ∈ GW := gw_of (i := 639) (by decide +kernel) (by decide +kernel)
theorem v_19 : Cond.selects RX0 yX0_improveOffset yX0_improveOffset ∈ GW := gw_of (i := 19) (by decide +kernel) (by decide +kernel)
theorem k_X0_91 (g : GC) : gcV (wC g) RX0 91 0 yX0_improveOffset cX0_improveOffset 4 (some .boolean) 1 := mkV (ob_0 g) v_637 v_639 v_19 v_640 v_32 ⟨by decide +kernel, by decide +kernel, by decide +kernel⟩
theorem v_73 : Cond.fieldLink RX4 15 RX4 "seconds" "I" ∈ GW := gw_of (i := 73) (by decide +kernel) (by decide +kernel)
theorem pf_X4_15 {cc : ByteArray} {nL : Nat} {rm : Room} {X : MX} {g : GC} {cn sn : Nat} {S : Mem} {L : List (Nat × Value)} {pc pc' : Nat} {st : List Value} {k : Nat} {v : Int32} (h0 : CX RX4 cc nL rm X (wC g)) (hk : k < 5) (hdg : decode cc pc = .ok (.putfield 15, 3)) (e : pc + 3 = pc') (kk : GV X (wC g) nL cn sn (wI S 4 k 1 v) L pc' st) : GV X (wC g) nL cn sn S L pc (.int v :: .ref (wA (wC g) 4 k) :: st) :=
  r_put (S' := (wI S 4 k 1 v)) (T := TX4) h0 hk rfl rfl inX4 tyX4 tyX4_ok nmX4 1 (by decide) v_73 rfl rfl (rfl) rfl (Nat.le_of_ble_eq_true rfl) wI_off ((congrArg (fun z => wCe (wC g) z (S.2 4 k) 4 k) wI_on).trans rfl) hdg e kk
theorem v_76 : Cond.fieldLink RX4 19 RX4 "room" "I" ∈ GW := gw_of (i := 76) (by decide +kernel) (by decide +kernel)
theorem pf_X4_19 {cc : ByteArray} {nL : Nat} {rm : Room} {X : MX} {g : GC} {cn sn : Nat} {S : Mem} {L : List (Nat × Value)} {pc pc' : Nat} {st : List Value} {k : Nat} {v : Int32} (h0 : CX RX4 cc nL rm X (wC g)) (hk : k < 5) (hdg : decode cc pc = .ok (.putfield 19, 3)) (e : pc + 3 = pc') (kk : GV X (wC g) nL cn sn (wI S 4 k 2 v) L pc' st) : GV X (wC g) nL cn sn S L pc (.int v :: .ref (wA (wC g) 4 k) :: st) :=
  r_put (S' := (wI S 4 k 2 v)) (T := TX4) h0 hk rfl rfl inX4 tyX4 tyX4_ok nmX4 2 (by decide) v_76 rfl rfl (rfl) rfl (Nat.le_of_ble_eq_true rfl) wI_off ((congrArg (fun z => wCe (wC g) z (S.2 4 k) 4 k) wI_on).trans rfl) hdg e kk
theorem v_79 : Cond.fieldLink RX4 22 RX4 "moving" "I" ∈ GW := gw_of (i := 79) (by decide +kernel) (by decide +kernel)
theorem pf_X4_22 {cc : ByteArray} {nL : Nat} {rm : Room} {X : MX} {g : GC} {cn sn : Nat} {S : Mem} {L : List (Nat × Value)} {pc pc' : Nat} {st : List Value} {k : Nat} {v : Int32} (h0 : CX RX4 cc nL rm X (wC g)) (hk : k < 5) (hdg : decode cc pc = .ok (.putfield 22, 3)) (e : pc + 3 = pc') (kk : GV X (wC g) nL cn sn (wI S 4 k 3 v) L pc' st) : GV X (wC g) nL cn sn S L pc (.int v :: .ref (wA (wC g) 4 k) :: st) :=
  r_put (S' := (wI S 4 k 3 v)) (T := TX4) h0 hk rfl rfl inX4 tyX4 tyX4_ok nmX4 3 (by decide) v_79 rfl rfl (rfl) rfl (Nat.le_of_ble_eq_true rfl) wI_off ((congrArg (fun z => wCe (wC g) z (S.2 4 k) 4 k) wI_on).trans rfl) hdg e kk
theorem v_72 : Cond.fieldLink RX4 11 RX4 "due" "[I" ∈ GW := gw_of (i := 72) (by decide +kernel) (by decide +kernel)
theorem gf_X4_11 {cc : ByteArray} {nL : Nat} {rm : Room} {X : MX} {g : GC} {cn sn : Nat} {S : Mem} {L : List (Nat × Value)} {pc pc' : Nat} {st : List Value} {k : Nat} (h0 : CX RX4 cc nL rm X (wC g)) (hk : k < 5) (hdg : decode cc pc = .ok (.getfield 11, 3)) (e : pc + 3 = pc') (kk : GV X (wC g) nL cn sn S L pc' (.ref (wA (wC g) 17 k) :: st)) : GV X (wC g) nL cn sn S L pc (.ref (wA (wC g) 4 k) :: st) :=
  r_get (T := TX4) h0 hk rfl rfl inX4 0 (by decide) v_72 rfl rfl hdg e kk
theorem v_334 : Cond.methodLink RX4 25 yJ7_fill_53178 ∈ GW := gw_of (i := 334) (by decide +kernel) (by decide +kernel)
theorem v_336 : Cond.code yJ7_fill_53178 cJ7_fill_53178 4 none ∈ GW := gw_of (i := 336) (by decide +kernel) (by decide +kernel)
theorem v_40 : Cond.initialized RJ7 ∈ GW := gw_of (i := 40) (by decide +kernel) (by decide +kernel)
theorem v_335 : Cond.static yJ7_fill_53178 ∈ GW := gw_of (i := 335) (by decide +kernel) (by decide +kernel)
theorem k_X4_25 (g : GC) : gcS (wC g) RX4 25 yJ7_fill_53178 cJ7_fill_53178 4 none 2 := mkS v_334 v_335 v_336 v_40 ⟨by decide +kernel, by decide +kernel, by decide +kernel⟩
theorem v_91 : Cond.fieldLink RX3 9 RX3 "clearances" "[I" ∈ GW := gw_of (i := 91) (by decide +kernel) (by decide +kernel)
theorem gf_X3_9 {cc : ByteArray} {nL : Nat} {rm : Room} {X : MX} {g : GC} {cn sn : Nat} {S : Mem} {L : List (Nat × Value)} {pc pc' : Nat} {st : List Value} {k : Nat} (h0 : CX RX3 cc nL rm X (wC g)) (hk : k < 5) (hdg : decode cc pc = .ok (.getfield 9, 3)) (e : pc + 3 = pc') (kk : GV X (wC g) nL cn sn S L pc' (.ref (wA (wC g) 11 k) :: st)) : GV X (wC g) nL cn sn S L pc (.ref (wA (wC g) 3 k) :: st) :=
  r_get (T := TX3) h0 hk rfl rfl inX3 0 (by decide) v_91 rfl rfl hdg e kk
theorem v_342 : Cond.methodLinkNest RX3 86 yX7_write "Greenwave" ∈ NW := nw_of (i := 342) (by decide +kernel) (by decide +kernel)
theorem v_344 : Cond.code yX7_write cX7_write 3 none ∈ GW := gw_of (i := 344) (by decide +kernel) (by decide +kernel)
theorem v_343 : Cond.static yX7_write ∈ GW := gw_of (i := 343) (by decide +kernel) (by decide +kernel)
theorem k_X3_86 (g : GC) : gcS (wC g) RX3 86 yX7_write cX7_write 3 none 3 := mkSN v_342 v_343 v_344 v_28 ⟨by decide +kernel, by decide +kernel, by decide +kernel⟩
theorem v_92 : Cond.fieldLink RX3 15 RX3 "sets" "[I" ∈ GW := gw_of (i := 92) (by decide +kernel) (by decide +kernel)
theorem gf_X3_15 {cc : ByteArray} {nL : Nat} {rm : Room} {X : MX} {g : GC} {cn sn : Nat} {S : Mem} {L : List (Nat × Value)} {pc pc' : Nat} {st : List Value} {k : Nat} (h0 : CX RX3 cc nL rm X (wC g)) (hk : k < 5) (hdg : decode cc pc = .ok (.getfield 15, 3)) (e : pc + 3 = pc') (kk : GV X (wC g) nL cn sn S L pc' (.ref (wA (wC g) 12 k) :: st)) : GV X (wC g) nL cn sn S L pc (.ref (wA (wC g) 3 k) :: st) :=
  r_get (T := TX3) h0 hk rfl rfl inX3 1 (by decide) v_92 rfl rfl hdg e kk
theorem v_103 : Cond.fieldLink RX3 90 RX3 "phases" "I" ∈ GW := gw_of (i := 103) (by decide +kernel) (by decide +kernel)
theorem pf_X3_90 {cc : ByteArray} {nL : Nat} {rm : Room} {X : MX} {g : GC} {cn sn : Nat} {S : Mem} {L : List (Nat × Value)} {pc pc' : Nat} {st : List Value} {k : Nat} {v : Int32} (h0 : CX RX3 cc nL rm X (wC g)) (hk : k < 5) (hdg : decode cc pc = .ok (.putfield 90, 3)) (e : pc + 3 = pc') (kk : GV X (wC g) nL cn sn (wI S 3 k 7 v) L pc' st) : GV X (wC g) nL cn sn S L pc (.int v :: .ref (wA (wC g) 3 k) :: st) :=
  r_put (S' := (wI S 3 k 7 v)) (T := TX3) h0 hk rfl rfl inX3 tyX3 tyX3_ok nmX3 7 (by decide) v_103 rfl rfl (rfl) rfl (Nat.le_of_ble_eq_true rfl) wI_off ((congrArg (fun z => wCe (wC g) z (S.2 3 k) 3 k) wI_on).trans rfl) hdg e kk
theorem v_363 : Cond.methodLink RX3 101 yX3_clearanceOf ∈ GW := gw_of (i := 363) (by decide +kernel) (by decide +kernel)
theorem v_366 : Cond.code yX3_clearanceOf cX3_clearanceOf 3 (some .int) ∈ GW := gw_of (i := 366) (by decide +kernel) (by decide +kernel)
theorem v_364 : Cond.instanceMethod yX3_clearanceOf ∈ GW := gw_of (i := 364) (by decide +kernel) (by decide +kernel)
theorem v_365 : Cond.selects RX3 yX3_clearanceOf yX3_clearanceOf ∈ GW := gw_of (i := 365) (by decide +kernel) (by decide +kernel)
theorem k_X3_101 (g : GC) : gcV (wC g) RX3 101 3 yX3_clearanceOf cX3_clearanceOf 3 (some .int) 2 := mkV (ob_3 g) v_363 v_364 v_365 v_366 v_30 ⟨by decide +kernel, by decide +kernel, by decide +kernel⟩
theorem v_367 : Cond.methodLink RX3 104 Lib.Math.max.name ∈ GW := gw_of (i := 367) (by decide +kernel) (by decide +kernel)
theorem v_368 : Cond.static Lib.Math.max.name ∈ GW := gw_of (i := 368) (by decide +kernel) (by decide +kernel)
theorem v_41 : Cond.initialized "java/lang/Math" ∈ GW := gw_of (i := 41) (by decide +kernel) (by decide +kernel)
theorem v_369 : Cond.code Lib.Math.max.name Lib.Math.max.code 2 (some .int) ∈ GW := gw_of (i := 369) (by decide +kernel) (by decide +kernel)
theorem v_93 : Cond.fieldLink RX3 18 RX3 "flows" "[I" ∈ GW := gw_of (i := 93) (by decide +kernel) (by decide +kernel)
theorem gf_X3_18 {cc : ByteArray} {nL : Nat} {rm : Room} {X : MX} {g : GC} {cn sn : Nat} {S : Mem} {L : List (Nat × Value)} {pc pc' : Nat} {st : List Value} {k : Nat} (h0 : CX RX3 cc nL rm X (wC g)) (hk : k < 5) (hdg : decode cc pc = .ok (.getfield 18, 3)) (e : pc + 3 = pc') (kk : GV X (wC g) nL cn sn S L pc' (.ref (wA (wC g) 13 k) :: st)) : GV X (wC g) nL cn sn S L pc (.ref (wA (wC g) 3 k) :: st) :=
  r_get (T := TX3) h0 hk rfl rfl inX3 2 (by decide) v_93 rfl rfl hdg e kk
theorem gf_X3_90 {cc : ByteArray} {nL : Nat} {rm : Room} {X : MX} {g : GC} {cn sn : Nat} {S : Mem} {L : List (Nat × Value)} {pc pc' : Nat} {st : List Value} {k : Nat} (h0 : CX RX3 cc nL rm X (wC g)) (hk : k < 5) (hdg : decode cc pc = .ok (.getfield 90, 3)) (e : pc + 3 = pc') (kk : GV X (wC g) nL cn sn S L pc' (.int (S.1 3 k 7) :: st)) : GV X (wC g) nL cn sn S L pc (.ref (wA (wC g) 3 k) :: st) :=
  r_get (T := TX3) h0 hk rfl rfl inX3 7 (by decide) v_103 rfl rfl hdg e kk
theorem v_374 : Cond.methodLink RX3 113 yX3_weightOf ∈ GW := gw_of (i := 374) (by decide +kernel) (by decide +kernel)
theorem v_377 : Cond.code yX3_weightOf cX3_weightOf 4 (some .int) ∈ GW := gw_of (i := 377) (by decide +kernel) (by decide +kernel)
theorem v_376 : Cond.instanceMethod yX3_weightOf ∈ GW := gw_of (i := 376) (by decide +kernel) (by decide +kernel)
theorem v_6 : Cond.selects RX3 yX3_weightOf yX3_weightOf ∈ GW := gw_of (i := 6) (by decide +kernel) (by decide +kernel)
theorem k_X3_113 (g : GC) : gcV (wC g) RX3 113 3 yX3_weightOf cX3_weightOf 4 (some .int) 1 := mkV (ob_3 g) v_374 v_376 v_6 v_377 v_30 ⟨by decide +kernel, by decide +kernel, by decide +kernel⟩
theorem v_382 : Cond.methodLinkNest RX3 127 yX7_share "Greenwave" ∈ NW := nw_of (i := 382) (by decide +kernel) (by decide +kernel)
theorem v_384 : Cond.code yX7_share cX7_share 2 (some .int) ∈ GW := gw_of (i := 384) (by decide +kernel) (by decide +kernel)
theorem v_383 : Cond.static yX7_share ∈ GW := gw_of (i := 383) (by decide +kernel) (by decide +kernel)
theorem k_X3_127 (g : GC) : gcS (wC g) RX3 127 yX7_share cX7_share 2 (some .int) 2 := mkSN v_382 v_383 v_384 v_28 ⟨by decide +kernel, by decide +kernel, by decide +kernel⟩
theorem v_94 : Cond.fieldLink RX3 21 RX3 "greens" "[I" ∈ GW := gw_of (i := 94) (by decide +kernel) (by decide +kernel)
theorem gf_X3_21 {cc : ByteArray} {nL : Nat} {rm : Room} {X : MX} {g : GC} {cn sn : Nat} {S : Mem} {L : List (Nat × Value)} {pc pc' : Nat} {st : List Value} {k : Nat} (h0 : CX RX3 cc nL rm X (wC g)) (hk : k < 5) (hdg : decode cc pc = .ok (.getfield 21, 3)) (e : pc + 3 = pc') (kk : GV X (wC g) nL cn sn S L pc' (.ref (wA (wC g) 14 k) :: st)) : GV X (wC g) nL cn sn S L pc (.ref (wA (wC g) 3 k) :: st) :=
  r_get (T := TX3) h0 hk rfl rfl inX3 3 (by decide) v_94 rfl rfl hdg e kk
theorem v_370 : Cond.methodLink RX3 109 yX3_leastGreen ∈ GW := gw_of (i := 370) (by decide +kernel) (by decide +kernel)
theorem v_373 : Cond.code yX3_leastGreen cX3_leastGreen 2 (some .int) ∈ GW := gw_of (i := 373) (by decide +kernel) (by decide +kernel)
theorem v_372 : Cond.instanceMethod yX3_leastGreen ∈ GW := gw_of (i := 372) (by decide +kernel) (by decide +kernel)
theorem v_5 : Cond.selects RX3 yX3_leastGreen yX3_leastGreen ∈ GW := gw_of (i := 5) (by decide +kernel) (by decide +kernel)
theorem k_X3_109 (g : GC) : gcV (wC g) RX3 109 3 yX3_leastGreen cX3_leastGreen 2 (some .int) 1 := mkV (ob_3 g) v_370 v_372 v_5 v_373 v_30 ⟨by decide +kernel, by decide +kernel, by decide +kernel⟩
theorem v_96 : Cond.fieldLink RX3 24 RX3 "clearings" "[I" ∈ GW := gw_of (i := 96) (by decide +kernel) (by decide +kernel)
theorem gf_X3_24 {cc : ByteArray} {nL : Nat} {rm : Room} {X : MX} {g : GC} {cn sn : Nat} {S : Mem} {L : List (Nat × Value)} {pc pc' : Nat} {st : List Value} {k : Nat} (h0 : CX RX3 cc nL rm X (wC g)) (hk : k < 5) (hdg : decode cc pc = .ok (.getfield 24, 3)) (e : pc + 3 = pc') (kk : GV X (wC g) nL cn sn S L pc' (.ref (wA (wC g) 15 k) :: st)) : GV X (wC g) nL cn sn S L pc (.ref (wA (wC g) 3 k) :: st) :=
  r_get (T := TX3) h0 hk rfl rfl inX3 4 (by decide) v_96 rfl rfl hdg e kk
theorem v_110 : Cond.fieldLink RX3 116 RX3 "isPlanned" "Z" ∈ GW := gw_of (i := 110) (by decide +kernel) (by decide +kernel)
theorem pf_X3_116 {cc : ByteArray} {nL : Nat} {rm : Room} {X : MX} {g : GC} {cn sn : Nat} {S : Mem} {L : List (Nat × Value)} {pc pc' : Nat} {st : List Value} {k : Nat} {v : Int32} (h0 : CX RX3 cc nL rm X (wC g)) (hk : k < 5) (hdg : decode cc pc = .ok (.putfield 116, 3)) (e : pc + 3 = pc') (hz : nb v = v) (kk : GV X (wC g) nL cn sn (wI S 3 k 10 v) L pc' st) : GV X (wC g) nL cn sn S L pc (.int v :: .ref (wA (wC g) 3 k) :: st) :=
  r_put (S' := (wI S 3 k 10 v)) (T := TX3) h0 hk rfl rfl inX3 tyX3 tyX3_ok nmX3 10 (by decide) v_110 rfl rfl (nbz hz) (nbf hz) (Nat.le_of_ble_eq_true rfl) wI_off ((congrArg (fun z => wCe (wC g) z (S.2 3 k) 3 k) wI_on).trans rfl) hdg e kk
theorem gf_X3_116 {cc : ByteArray} {nL : Nat} {rm : Room} {X : MX} {g : GC} {cn sn : Nat} {S : Mem} {L : List (Nat × Value)} {pc pc' : Nat} {st : List Value} {k : Nat} (h0 : CX RX3 cc nL rm X (wC g)) (hk : k < 5) (hdg : decode cc pc = .ok (.getfield 116, 3)) (e : pc + 3 = pc') (kk : GV X (wC g) nL cn sn S L pc' (.int (S.1 3 k 10) :: st)) : GV X (wC g) nL cn sn S L pc (.ref (wA (wC g) 3 k) :: st) :=
  r_get (T := TX3) h0 hk rfl rfl inX3 10 (by decide) v_110 rfl rfl hdg e kk
theorem v_378 : Cond.methodLink RX3 120 yX3_shareOut ∈ GW := gw_of (i := 378) (by decide +kernel) (by decide +kernel)
theorem v_381 : Cond.code yX3_shareOut cX3_shareOut 6 none ∈ GW := gw_of (i := 381) (by decide +kernel) (by decide +kernel)
theorem v_380 : Cond.instanceMethod yX3_shareOut ∈ GW := gw_of (i := 380) (by decide +kernel) (by decide +kernel)
theorem v_7 : Cond.selects RX3 yX3_shareOut yX3_shareOut ∈ GW := gw_of (i := 7) (by decide +kernel) (by decide +kernel)
theorem k_X3_120 (g : GC) : gcV (wC g) RX3 120 3 yX3_shareOut cX3_shareOut 6 none 2 := mkV (ob_3 g) v_378 v_380 v_7 v_381 v_30 ⟨by decide +kernel, by decide +kernel, by decide +kernel⟩
theorem v_385 : Cond.methodLink RX3 124 yX3_drawLights ∈ GW := gw_of (i := 385) (by decide +kernel) (by decide +kernel)
theorem v_388 : Cond.code yX3_drawLights cX3_drawLights 6 none ∈ GW := gw_of (i := 388) (by decide +kernel) (by decide +kernel)
theorem v_387 : Cond.instanceMethod yX3_drawLights ∈ GW := gw_of (i := 387) (by decide +kernel) (by decide +kernel)
theorem v_8 : Cond.selects RX3 yX3_drawLights yX3_drawLights ∈ GW := gw_of (i := 8) (by decide +kernel) (by decide +kernel)
theorem k_X3_124 (g : GC) : gcV (wC g) RX3 124 3 yX3_drawLights cX3_drawLights 6 none 0 := mkV (ob_3 g) v_385 v_387 v_8 v_388 v_30 ⟨by decide +kernel, by decide +kernel, by decide +kernel⟩
theorem v_356 : Cond.methodLink RX3 97 yX3_greatestClearance ∈ GW := gw_of (i := 356) (by decide +kernel) (by decide +kernel)
theorem v_359 : Cond.code yX3_greatestClearance cX3_greatestClearance 6 (some .int) ∈ GW := gw_of (i := 359) (by decide +kernel) (by decide +kernel)
theorem v_358 : Cond.instanceMethod yX3_greatestClearance ∈ GW := gw_of (i := 358) (by decide +kernel) (by decide +kernel)
theorem v_4 : Cond.selects RX3 yX3_greatestClearance yX3_greatestClearance ∈ GW := gw_of (i := 4) (by decide +kernel) (by decide +kernel)
theorem k_X3_97 (g : GC) : gcV (wC g) RX3 97 3 yX3_greatestClearance cX3_greatestClearance 6 (some .int) 2 := mkV (ob_3 g) v_356 v_358 v_4 v_359 v_30 ⟨by decide +kernel, by decide +kernel, by decide +kernel⟩
theorem pf_X3_37 {cc : ByteArray} {nL : Nat} {rm : Room} {X : MX} {g : GC} {cn sn : Nat} {S : Mem} {L : List (Nat × Value)} {pc pc' : Nat} {st : List Value} {k : Nat} {v : Int32} (h0 : CX RX3 cc nL rm X (wC g)) (hk : k < 5) (hdg : decode cc pc = .ok (.putfield 37, 3)) (e : pc + 3 = pc') (kk : GV X (wC g) nL cn sn (wI S 3 k 8 v) L pc' st) : GV X (wC g) nL cn sn S L pc (.int v :: .ref (wA (wC g) 3 k) :: st) :=
  r_put (S' := (wI S 3 k 8 v)) (T := TX3) h0 hk rfl rfl inX3 tyX3 tyX3_ok nmX3 8 (by decide) v_104 rfl rfl (rfl) rfl (Nat.le_of_ble_eq_true rfl) wI_off ((congrArg (fun z => wCe (wC g) z (S.2 3 k) 3 k) wI_on).trans rfl) hdg e kk
theorem v_105 : Cond.fieldLink RX3 41 RX3 "start" "I" ∈ GW := gw_of (i := 105) (by decide +kernel) (by decide +kernel)
theorem pf_X3_41 {cc : ByteArray} {nL : Nat} {rm : Room} {X : MX} {g : GC} {cn sn : Nat} {S : Mem} {L : List (Nat × Value)} {pc pc' : Nat} {st : List Value} {k : Nat} {v : Int32} (h0 : CX RX3 cc nL rm X (wC g)) (hk : k < 5) (hdg : decode cc pc = .ok (.putfield 41, 3)) (e : pc + 3 = pc') (kk : GV X (wC g) nL cn sn (wI S 3 k 9 v) L pc' st) : GV X (wC g) nL cn sn S L pc (.int v :: .ref (wA (wC g) 3 k) :: st) :=
  r_put (S' := (wI S 3 k 9 v)) (T := TX3) h0 hk rfl rfl inX3 tyX3 tyX3_ok nmX3 9 (by decide) v_105 rfl rfl (rfl) rfl (Nat.le_of_ble_eq_true rfl) wI_off ((congrArg (fun z => wCe (wC g) z (S.2 3 k) 3 k) wI_on).trans rfl) hdg e kk
theorem v_111 : Cond.fieldLink RX3 44 RX3 "waiting" "I" ∈ GW := gw_of (i := 111) (by decide +kernel) (by decide +kernel)
theorem pf_X3_44 {cc : ByteArray} {nL : Nat} {rm : Room} {X : MX} {g : GC} {cn sn : Nat} {S : Mem} {L : List (Nat × Value)} {pc pc' : Nat} {st : List Value} {k : Nat} {v : Int32} (h0 : CX RX3 cc nL rm X (wC g)) (hk : k < 5) (hdg : decode cc pc = .ok (.putfield 44, 3)) (e : pc + 3 = pc') (kk : GV X (wC g) nL cn sn (wI S 3 k 11 v) L pc' st) : GV X (wC g) nL cn sn S L pc (.int v :: .ref (wA (wC g) 3 k) :: st) :=
  r_put (S' := (wI S 3 k 11 v)) (T := TX3) h0 hk rfl rfl inX3 tyX3 tyX3_ok nmX3 11 (by decide) v_111 rfl rfl (rfl) rfl (Nat.le_of_ble_eq_true rfl) wI_off ((congrArg (fun z => wCe (wC g) z (S.2 3 k) 3 k) wI_on).trans rfl) hdg e kk
theorem v_115 : Cond.fieldLink RX3 47 RX3 "ready" "I" ∈ GW := gw_of (i := 115) (by decide +kernel) (by decide +kernel)
theorem pf_X3_47 {cc : ByteArray} {nL : Nat} {rm : Room} {X : MX} {g : GC} {cn sn : Nat} {S : Mem} {L : List (Nat × Value)} {pc pc' : Nat} {st : List Value} {k : Nat} {v : Int32} (h0 : CX RX3 cc nL rm X (wC g)) (hk : k < 5) (hdg : decode cc pc = .ok (.putfield 47, 3)) (e : pc + 3 = pc') (kk : GV X (wC g) nL cn sn (wI S 3 k 12 v) L pc' st) : GV X (wC g) nL cn sn S L pc (.int v :: .ref (wA (wC g) 3 k) :: st) :=
  r_put (S' := (wI S 3 k 12 v)) (T := TX3) h0 hk rfl rfl inX3 tyX3 tyX3_ok nmX3 12 (by decide) v_115 rfl rfl (rfl) rfl (Nat.le_of_ble_eq_true rfl) wI_off ((congrArg (fun z => wCe (wC g) z (S.2 3 k) 3 k) wI_on).trans rfl) hdg e kk
theorem v_117 : Cond.fieldLink RX3 50 RX3 "busCycleEnd" "I" ∈ GW := gw_of (i := 117) (by decide +kernel) (by decide +kernel)
theorem pf_X3_50 {cc : ByteArray} {nL : Nat} {rm : Room} {X : MX} {g : GC} {cn sn : Nat} {S : Mem} {L : List (Nat × Value)} {pc pc' : Nat} {st : List Value} {k : Nat} {v : Int32} (h0 : CX RX3 cc nL rm X (wC g)) (hk : k < 5) (hdg : decode cc pc = .ok (.putfield 50, 3)) (e : pc + 3 = pc') (kk : GV X (wC g) nL cn sn (wI S 3 k 13 v) L pc' st) : GV X (wC g) nL cn sn S L pc (.int v :: .ref (wA (wC g) 3 k) :: st) :=
  r_put (S' := (wI S 3 k 13 v)) (T := TX3) h0 hk rfl rfl inX3 tyX3 tyX3_ok nmX3 13 (by decide) v_117 rfl rfl (rfl) rfl (Nat.le_of_ble_eq_true rfl) wI_off ((congrArg (fun z => wCe (wC g) z (S.2 3 k) 3 k) wI_on).trans rfl) hdg e kk
theorem v_118 : Cond.fieldLink RX3 53 RX3 "giver" "I" ∈ GW := gw_of (i := 118) (by decide +kernel) (by decide +kernel)
theorem pf_X3_53 {cc : ByteArray} {nL : Nat} {rm : Room} {X : MX} {g : GC} {cn sn : Nat} {S : Mem} {L : List (Nat × Value)} {pc pc' : Nat} {st : List Value} {k : Nat} {v : Int32} (h0 : CX RX3 cc nL rm X (wC g)) (hk : k < 5) (hdg : decode cc pc = .ok (.putfield 53, 3)) (e : pc + 3 = pc') (kk : GV X (wC g) nL cn sn (wI S 3 k 14 v) L pc' st) : GV X (wC g) nL cn sn S L pc (.int v :: .ref (wA (wC g) 3 k) :: st) :=
  r_put (S' := (wI S 3 k 14 v)) (T := TX3) h0 hk rfl rfl inX3 tyX3 tyX3_ok nmX3 14 (by decide) v_118 rfl rfl (rfl) rfl (Nat.le_of_ble_eq_true rfl) wI_off ((congrArg (fun z => wCe (wC g) z (S.2 3 k) 3 k) wI_on).trans rfl) hdg e kk
theorem v_119 : Cond.fieldLink RX3 56 RX3 "taker" "I" ∈ GW := gw_of (i := 119) (by decide +kernel) (by decide +kernel)
theorem pf_X3_56 {cc : ByteArray} {nL : Nat} {rm : Room} {X : MX} {g : GC} {cn sn : Nat} {S : Mem} {L : List (Nat × Value)} {pc pc' : Nat} {st : List Value} {k : Nat} {v : Int32} (h0 : CX RX3 cc nL rm X (wC g)) (hk : k < 5) (hdg : decode cc pc = .ok (.putfield 56, 3)) (e : pc + 3 = pc') (kk : GV X (wC g) nL cn sn (wI S 3 k 15 v) L pc' st) : GV X (wC g) nL cn sn S L pc (.int v :: .ref (wA (wC g) 3 k) :: st) :=
  r_put (S' := (wI S 3 k 15 v)) (T := TX3) h0 hk rfl rfl inX3 tyX3 tyX3_ok nmX3 15 (by decide) v_119 rfl rfl (rfl) rfl (Nat.le_of_ble_eq_true rfl) wI_off ((congrArg (fun z => wCe (wC g) z (S.2 3 k) 3 k) wI_on).trans rfl) hdg e kk
theorem v_120 : Cond.fieldLink RX3 59 RX3 "given" "I" ∈ GW := gw_of (i := 120) (by decide +kernel) (by decide +kernel)
theorem pf_X3_59 {cc : ByteArray} {nL : Nat} {rm : Room} {X : MX} {g : GC} {cn sn : Nat} {S : Mem} {L : List (Nat × Value)} {pc pc' : Nat} {st : List Value} {k : Nat} {v : Int32} (h0 : CX RX3 cc nL rm X (wC g)) (hk : k < 5) (hdg : decode cc pc = .ok (.putfield 59, 3)) (e : pc + 3 = pc') (kk : GV X (wC g) nL cn sn (wI S 3 k 16 v) L pc' st) : GV X (wC g) nL cn sn S L pc (.int v :: .ref (wA (wC g) 3 k) :: st) :=
  r_put (S' := (wI S 3 k 16 v)) (T := TX3) h0 hk rfl rfl inX3 tyX3 tyX3_ok nmX3 16 (by decide) v_120 rfl rfl (rfl) rfl (Nat.le_of_ble_eq_true rfl) wI_off ((congrArg (fun z => wCe (wC g) z (S.2 3 k) 3 k) wI_on).trans rfl) hdg e kk
theorem v_99 : Cond.fieldLink RX3 33 RX3 "link" "LGreenwave$Link;" ∈ GW := gw_of (i := 99) (by decide +kernel) (by decide +kernel)
theorem gf_X3_33 {cc : ByteArray} {nL : Nat} {rm : Room} {X : MX} {g : GC} {cn sn : Nat} {S : Mem} {L : List (Nat × Value)} {pc pc' : Nat} {st : List Value} {k : Nat} (h0 : CX RX3 cc nL rm X (wC g)) (hk : k < 5) (hdg : decode cc pc = .ok (.getfield 33, 3)) (e : pc + 3 = pc') (kk : GV X (wC g) nL cn sn S L pc' (.ref (wA (wC g) 4 k) :: st)) : GV X (wC g) nL cn sn S L pc (.ref (wA (wC g) 3 k) :: st) :=
  r_get (T := TX3) h0 hk rfl rfl inX3 6 (by decide) v_99 rfl rfl hdg e kk
theorem v_330 : Cond.methodLink RX3 62 yX4_reset ∈ GW := gw_of (i := 330) (by decide +kernel) (by decide +kernel)
theorem v_333 : Cond.code yX4_reset cX4_reset 1 none ∈ GW := gw_of (i := 333) (by decide +kernel) (by decide +kernel)
theorem v_31 : Cond.initialized RX4 ∈ GW := gw_of (i := 31) (by decide +kernel) (by decide +kernel)
theorem v_331 : Cond.instanceMethod yX4_reset ∈ GW := gw_of (i := 331) (by decide +kernel) (by decide +kernel)
theorem v_332 : Cond.selects RX4 yX4_reset yX4_reset ∈ GW := gw_of (i := 332) (by decide +kernel) (by decide +kernel)
theorem k_X3_62 (g : GC) : gcV (wC g) RX3 62 4 yX4_reset cX4_reset 1 none 0 := mkV (ob_4 g) v_330 v_331 v_332 v_333 v_31 ⟨by decide +kernel, by decide +kernel, by decide +kernel⟩
theorem v_337 : Cond.methodLink RX3 65 yJ7_fill_53178 ∈ GW := gw_of (i := 337) (by decide +kernel) (by decide +kernel)
theorem k_X3_65 (g : GC) : gcS (wC g) RX3 65 yJ7_fill_53178 cJ7_fill_53178 4 none 2 := mkS v_337 v_335 v_336 v_40 ⟨by decide +kernel, by decide +kernel, by decide +kernel⟩
theorem v_338 : Cond.methodLink RX3 71 yX3_writeClearance ∈ GW := gw_of (i := 338) (by decide +kernel) (by decide +kernel)
theorem v_341 : Cond.code yX3_writeClearance cX3_writeClearance 4 none ∈ GW := gw_of (i := 341) (by decide +kernel) (by decide +kernel)
theorem v_340 : Cond.instanceMethod yX3_writeClearance ∈ GW := gw_of (i := 340) (by decide +kernel) (by decide +kernel)
theorem v_1 : Cond.selects RX3 yX3_writeClearance yX3_writeClearance ∈ GW := gw_of (i := 1) (by decide +kernel) (by decide +kernel)
theorem k_X3_71 (g : GC) : gcV (wC g) RX3 71 3 yX3_writeClearance cX3_writeClearance 4 none 3 := mkV (ob_3 g) v_338 v_340 v_1 v_341 v_30 ⟨by decide +kernel, by decide +kernel, by decide +kernel⟩
theorem v_345 : Cond.methodLink RX3 75 yX3_writeSets ∈ GW := gw_of (i := 345) (by decide +kernel) (by decide +kernel)
theorem v_348 : Cond.code yX3_writeSets cX3_writeSets 5 none ∈ GW := gw_of (i := 348) (by decide +kernel) (by decide +kernel)
theorem v_347 : Cond.instanceMethod yX3_writeSets ∈ GW := gw_of (i := 347) (by decide +kernel) (by decide +kernel)
theorem v_2 : Cond.selects RX3 yX3_writeSets yX3_writeSets ∈ GW := gw_of (i := 2) (by decide +kernel) (by decide +kernel)
theorem k_X3_75 (g : GC) : gcV (wC g) RX3 75 3 yX3_writeSets cX3_writeSets 5 none 4 := mkV (ob_3 g) v_345 v_347 v_2 v_348 v_30 ⟨by decide +kernel, by decide +kernel, by decide +kernel⟩
theorem v_349 : Cond.methodLink RX3 79 yX3_makePlan ∈ GW := gw_of (i := 349) (by decide +kernel) (by decide +kernel)
theorem v_352 : Cond.code yX3_makePlan cX3_makePlan 6 none ∈ GW := gw_of (i := 352) (by decide +kernel) (by decide +kernel)
theorem v_351 : Cond.instanceMethod yX3_makePlan ∈ GW := gw_of (i := 351) (by decide +kernel) (by decide +kernel)
theorem v_3 : Cond.selects RX3 yX3_makePlan yX3_makePlan ∈ GW := gw_of (i := 3) (by decide +kernel) (by decide +kernel)
theorem k_X3_79 (g : GC) : gcV (wC g) RX3 79 3 yX3_makePlan cX3_makePlan 6 none 0 := mkV (ob_3 g) v_349 v_351 v_3 v_352 v_30 ⟨by decide +kernel, by decide +kernel, by decide +kernel⟩
theorem pf_X1_18 {cc : ByteArray} {nL : Nat} {rm : Room} {X : MX} {g : GC} {cn sn : Nat} {S : Mem} {L : List (Nat × Value)} {pc pc' : Nat} {st : List Value} {v : Int32} (h0 : CX RX1 cc nL rm X (wC g)) (hk : 0 < 1) (hdg : decode cc pc = .ok (.putfield 18, 3)) (e : pc + 3 = pc') (kk : GV X (wC g) nL cn sn (wI S 1 0 1 v) L pc' st) : GV X (wC g) nL cn sn S L pc (.int v :: .ref (wA (wC g) 1 0) :: st) :=
  r_put (S' := (wI S 1 0 1 v)) (T := TX1) h0 hk rfl rfl inX1 tyX1 tyX1_ok nmX1 1 (by decide) v_157 rfl rfl (rfl) rfl (Nat.le_of_ble_eq_true rfl) wI_off ((congrArg (fun z => wCe (wC g) z (S.2 1 0) 1 0) wI_on).trans rfl) hdg e kk
theorem v_161 : Cond.fieldLink RX1 22 RX1 "cycle" "I" ∈ GW := gw_of (i := 161) (by decide +kernel) (by decide +kernel)
theorem pf_X1_22 {cc : ByteArray} {nL : Nat} {rm : Room} {X : MX} {g : GC} {cn sn : Nat} {S : Mem} {L : List (Nat × Value)} {pc pc' : Nat} {st : List Value} {v : Int32} (h0 : CX RX1 cc nL rm X (wC g)) (hk : 0 < 1) (hdg : decode cc pc = .ok (.putfield 22, 3)) (e : pc + 3 = pc') (kk : GV X (wC g) nL cn sn (wI S 1 0 2 v) L pc' st) : GV X (wC g) nL cn sn S L pc (.int v :: .ref (wA (wC g) 1 0) :: st) :=
  r_put (S' := (wI S 1 0 2 v)) (T := TX1) h0 hk rfl rfl inX1 tyX1 tyX1_ok nmX1 2 (by decide) v_161 rfl rfl (rfl) rfl (Nat.le_of_ble_eq_true rfl) wI_off ((congrArg (fun z => wCe (wC g) z (S.2 1 0) 1 0) wI_on).trans rfl) hdg e kk
theorem v_326 : Cond.methodLink RX1 29 yX3_reset ∈ GW := gw_of (i := 326) (by decide +kernel) (by decide +kernel)
theorem v_329 : Cond.code yX3_reset cX3_reset 2 none ∈ GW := gw_of (i := 329) (by decide +kernel) (by decide +kernel)
theorem v_327 : Cond.instanceMethod yX3_reset ∈ GW := gw_of (i := 327) (by decide +kernel) (by decide +kernel)
theorem v_328 : Cond.selects RX3 yX3_reset yX3_reset ∈ GW := gw_of (i := 328) (by decide +kernel) (by decide +kernel)
theorem k_X1_29 (g : GC) : gcV (wC g) RX1 29 3 yX3_reset cX3_reset 2 none 1 := mkV (ob_3 g) v_326 v_327 v_328 v_329 v_30 ⟨by decide +kernel, by decide +kernel, by decide +kernel⟩
theorem v_518 : Cond.methodLink RX1 40 yX1_isLast ∈ GW := gw_of (i := 518) (by decide +kernel) (by decide +kernel)
theorem v_521 : Cond.code yX1_isLast cX1_isLast 2 (some .boolean) ∈ GW := gw_of (i := 521) (by decide +kernel) (by decide +kernel)
theorem v_519 : Cond.instanceMethod yX1_isLast ∈ GW := gw_of (i := 519) (by decide +kernel) (by decide +kernel)
theorem v_520 : Cond.selects RX1 yX1_isLast yX1_isLast ∈ GW := gw_of (i := 520) (by decide +kernel) (by decide +kernel)
theorem k_X1_40 (g : GC) : gcV (wC g) RX1 40 1 yX1_isLast cX1_isLast 2 (some .boolean) 1 := mkV (ob_1 g) v_518 v_519 v_520 v_521 v_29 ⟨by decide +kernel, by decide +kernel, by decide +kernel⟩
theorem v_596 : Cond.methodLink RX1 50 yX1_linkFrom ∈ GW := gw_of (i := 596) (by decide +kernel) (by decide +kernel)
theorem v_517 : Cond.code yX1_linkFrom cX1_linkFrom 3 (some (.object "Greenwave$Link")) ∈ GW := gw_of (i := 517) (by decide +kernel) (by decide +kernel)
theorem v_515 : Cond.instanceMethod yX1_linkFrom ∈ GW := gw_of (i := 515) (by decide +kernel) (by decide +kernel)
theorem v_516 : Cond.selects RX1 yX1_linkFrom yX1_linkFrom ∈ GW := gw_of (i := 516) (by decide +kernel) (by decide +kernel)
theorem k_X1_50 (g : GC) : gcV (wC g) RX1 50 1 yX1_linkFrom cX1_linkFrom 3 (some (.object "Greenwave$Link")) 1 := mkV (ob_1 g) v_596 v_515 v_516 v_517 v_29 ⟨by decide +kernel, by decide +kernel, by decide +kernel⟩
theorem v_80 : Cond.fieldLinkNest RX1 54 RX4 "moving" "I" "Greenwave" ∈ NW := nw_of (i := 80) (by decide +kernel) (by decide +kernel)
theorem gf_X1_54 {cc : ByteArray} {nL : Nat} {rm : Room} {X : MX} {g : GC} {cn sn : Nat} {S : Mem} {L : List (Nat × Value)} {pc pc' : Nat} {st : List Value} {k : Nat} (h0 : CX RX1 cc nL rm X (wC g)) (hk : k < 5) (hdg : decode cc pc = .ok (.getfield 54, 3)) (e : pc + 3 = pc') (kk : GV X (wC g) nL cn sn S L pc' (.int (S.1 4 k 3) :: st)) : GV X (wC g) nL cn sn S L pc (.ref (wA (wC g) 4 k) :: st) :=
  r_getN (T := TX4) h0 hk rfl rfl inX4 3 (by decide) v_80 rfl rfl hdg e kk
theorem v_113 : Cond.fieldLinkNest RX1 59 RX3 "waiting" "I" "Greenwave" ∈ NW := nw_of (i := 113) (by decide +kernel) (by decide +kernel)
theorem gf_X1_59 {cc : ByteArray} {nL : Nat} {rm : Room} {X : MX} {g : GC} {cn sn : Nat} {S : Mem} {L : List (Nat × Value)} {pc pc' : Nat} {st : List Value} {k : Nat} (h0 : CX RX1 cc nL rm X (wC g)) (hk : k < 5) (hdg : decode cc pc = .ok (.getfield 59, 3)) (e : pc + 3 = pc') (kk : GV X (wC g) nL cn sn S L pc' (.int (S.1 3 k 11) :: st)) : GV X (wC g) nL cn sn S L pc (.ref (wA (wC g) 3 k) :: st) :=
  r_getN (T := TX3) h0 hk rfl rfl inX3 11 (by decide) v_113 rfl rfl hdg e kk
theorem v_108 : Cond.fieldLinkNest RX1 65 RX3 "isPlanned" "Z" "Greenwave" ∈ NW := nw_of (i := 108) (by decide +kernel) (by decide +kernel)
theorem gf_X1_65 {cc : ByteArray} {nL : Nat} {rm : Room} {X : MX} {g : GC} {cn sn : Nat} {S : Mem} {L : List (Nat × Value)} {pc pc' : Nat} {st : List Value} {k : Nat} (h0 : CX RX1 cc nL rm X (wC g)) (hk : k < 5) (hdg : decode cc pc = .ok (.getfield 65, 3)) (e : pc + 3 = pc') (kk : GV X (wC g) nL cn sn S L pc' (.int (S.1 3 k 10) :: st)) : GV X (wC g) nL cn sn S L pc (.ref (wA (wC g) 3 k) :: st) :=
  r_getN (T := TX3) h0 hk rfl rfl inX3 10 (by decide) v_108 rfl rfl hdg e kk
theorem gf_X3_41 {cc : ByteArray} {nL : Nat} {rm : Room} {X : MX} {g : GC} {cn sn : Nat} {S : Mem} {L : List (Nat × Value)} {pc pc' : Nat} {st : List Value} {k : Nat} (h0 : CX RX3 cc nL rm X (wC g)) (hk : k < 5) (hdg : decode cc pc = .ok (.getfield 41, 3)) (e : pc + 3 = pc') (kk : GV X (wC g) nL cn sn S L pc' (.int (S.1 3 k 9) :: st)) : GV X (wC g) nL cn sn S L pc (.ref (wA (wC g) 3 k) :: st) :=
  r_get (T := TX3) h0 hk rfl rfl inX3 9 (by decide) v_105 rfl rfl hdg e kk
theorem v_817 : Cond.methodLink RX3 130 yX3_isLitFrom ∈ GW := gw_of (i := 817) (by decide +kernel) (by decide +kernel)
theorem k_X3_130 (g : GC) : gcV (wC g) RX3 130 3 yX3_isLitFrom cX3_isLitFrom 4 (some .boolean) 3 := mkV (ob_3 g) v_817 v_671 v_672 v_673 v_30 ⟨by decide +kernel, by decide +kernel, by decide +kernel⟩
theorem v_830 : Cond.methodLink RX3 141 yX3_isLit ∈ GW := gw_of (i := 830) (by decide +kernel) (by decide +kernel)
theorem v_816 : Cond.code yX3_isLit cX3_isLit 3 (some .boolean) ∈ GW := gw_of (i := 816) (by decide +kernel) (by decide +kernel)
theorem v_814 : Cond.instanceMethod yX3_isLit ∈ GW := gw_of (i := 814) (by decide +kernel) (by decide +kernel)
theorem v_815 : Cond.selects RX3 yX3_isLit yX3_isLit ∈ GW := gw_of (i := 815) (by decide +kernel) (by decide +kernel)
theorem k_X3_141 (g : GC) : gcV (wC g) RX3 141 3 yX3_isLit cX3_isLit 3 (some .boolean) 2 := mkV (ob_3 g) v_830 v_814 v_815 v_816 v_30 ⟨by decide +kernel, by decide +kernel, by decide +kernel⟩
theorem v_831 : Cond.methodLink RX3 144 yX3_isLitTooSoon ∈ GW := gw_of (i := 831) (by decide +kernel) (by decide +kernel)
theorem v_834 : Cond.code yX3_isLitTooSoon cX3_isLitTooSoon 5 (some .boolean) ∈ GW := gw_of (i := 834) (by decide +kernel) (by decide +kernel)
theorem v_833 : Cond.instanceMethod yX3_isLitTooSoon ∈ GW := gw_of (i := 833) (by decide +kernel) (by decide +kernel)
theorem v_26 : Cond.selects RX3 yX3_isLitTooSoon yX3_isLitTooSoon ∈ GW := gw_of (i := 26) (by decide +kernel) (by decide +kernel)
theorem k_X3_144 (g : GC) : gcV (wC g) RX3 144 3 yX3_isLitTooSoon cX3_isLitTooSoon 5 (some .boolean) 3 := mkV (ob_3 g) v_831 v_833 v_26 v_834 v_30 ⟨by decide +kernel, by decide +kernel, by decide +kernel⟩
theorem v_826 : Cond.methodLink RX3 137 yX3_isBreached ∈ GW := gw_of (i := 826) (by decide +kernel) (by decide +kernel)
theorem v_829 : Cond.code yX3_isBreached cX3_isBreached 4 (some .boolean) ∈ GW := gw_of (i := 829) (by decide +kernel) (by decide +kernel)
theorem v_828 : Cond.instanceMethod yX3_isBreached ∈ GW := gw_of (i := 828) (by decide +kernel) (by decide +kernel)
theorem v_25 : Cond.selects RX3 yX3_isBreached yX3_isBreached ∈ GW := gw_of (i := 25) (by decide +kernel) (by decide +kernel)
theorem k_X3_137 (g : GC) : gcV (wC g) RX3 137 3 yX3_isBreached cX3_isBreached 4 (some .boolean) 1 := mkV (ob_3 g) v_826 v_828 v_25 v_829 v_30 ⟨by decide +kernel, by decide +kernel, by decide +kernel⟩
theorem gf_X3_50 {cc : ByteArray} {nL : Nat} {rm : Room} {X : MX} {g : GC} {cn sn : Nat} {S : Mem} {L : List (Nat × Value)} {pc pc' : Nat} {st : List Value} {k : Nat} (h0 : CX RX3 cc nL rm X (wC g)) (hk : k < 5) (hdg : decode cc pc = .ok (.getfield 50, 3)) (e : pc + 3 = pc') (kk : GV X (wC g) nL cn sn S L pc' (.int (S.1 3 k 13) :: st)) : GV X (wC g) nL cn sn S L pc (.ref (wA (wC g) 3 k) :: st) :=
  r_get (T := TX3) h0 hk rfl rfl inX3 13 (by decide) v_117 rfl rfl hdg e kk
theorem gf_X3_56 {cc : ByteArray} {nL : Nat} {rm : Room} {X : MX} {g : GC} {cn sn : Nat} {S : Mem} {L : List (Nat × Value)} {pc pc' : Nat} {st : List Value} {k : Nat} (h0 : CX RX3 cc nL rm X (wC g)) (hk : k < 5) (hdg : decode cc pc = .ok (.getfield 56, 3)) (e : pc + 3 = pc') (kk : GV X (wC g) nL cn sn S L pc' (.int (S.1 3 k 15) :: st)) : GV X (wC g) nL cn sn S L pc (.ref (wA (wC g) 3 k) :: st) :=
  r_get (T := TX3) h0 hk rfl rfl inX3 15 (by decide) v_119 rfl rfl hdg e kk
theorem gf_X3_53 {cc : ByteArray} {nL : Nat} {rm : Room} {X : MX} {g : GC} {cn sn : Nat} {S : Mem} {L : List (Nat × Value)} {pc pc' : Nat} {st : List Value} {k : Nat} (h0 : CX RX3 cc nL rm X (wC g)) (hk : k < 5) (hdg : decode cc pc = .ok (.getfield 53, 3)) (e : pc + 3 = pc') (kk : GV X (wC g) nL cn sn S L pc' (.int (S.1 3 k 14) :: st)) : GV X (wC g) nL cn sn S L pc (.ref (wA (wC g) 3 k) :: st) :=
  r_get (T := TX3) h0 hk rfl rfl inX3 14 (by decide) v_118 rfl rfl hdg e kk
theorem gf_X3_59 {cc : ByteArray} {nL : Nat} {rm : Room} {X : MX} {g : GC} {cn sn : Nat} {S : Mem} {L : List (Nat × Value)} {pc pc' : Nat} {st : List Value} {k : Nat} (h0 : CX RX3 cc nL rm X (wC g)) (hk : k < 5) (hdg : decode cc pc = .ok (.getfield 59, 3)) (e : pc + 3 = pc') (kk : GV X (wC g) nL cn sn S L pc' (.int (S.1 3 k 16) :: st)) : GV X (wC g) nL cn sn S L pc (.ref (wA (wC g) 3 k) :: st) :=
  r_get (T := TX3) h0 hk rfl rfl inX3 16 (by decide) v_120 rfl rfl hdg e kk
theorem v_571 : Cond.methodLink RX3 147 yX3_hasBusIn ∈ GW := gw_of (i := 571) (by decide +kernel) (by decide +kernel)
theorem v_574 : Cond.code yX3_hasBusIn cX3_hasBusIn 2 (some .boolean) ∈ GW := gw_of (i := 574) (by decide +kernel) (by decide +kernel)
theorem v_572 : Cond.instanceMethod yX3_hasBusIn ∈ GW := gw_of (i := 572) (by decide +kernel) (by decide +kernel)
theorem v_573 : Cond.selects RX3 yX3_hasBusIn yX3_hasBusIn ∈ GW := gw_of (i := 573) (by decide +kernel) (by decide +kernel)
theorem k_X3_147 (g : GC) : gcV (wC g) RX3 147 3 yX3_hasBusIn cX3_hasBusIn 2 (some .boolean) 1 := mkV (ob_3 g) v_571 v_572 v_573 v_574 v_30 ⟨by decide +kernel, by decide +kernel, by decide +kernel⟩
theorem v_575 : Cond.methodLink RX3 150 yX3_placeInCycle ∈ GW := gw_of (i := 575) (by decide +kernel) (by decide +kernel)
theorem v_578 : Cond.code yX3_placeInCycle cX3_placeInCycle 2 (some .int) ∈ GW := gw_of (i := 578) (by decide +kernel) (by decide +kernel)
theorem v_577 : Cond.instanceMethod yX3_placeInCycle ∈ GW := gw_of (i := 577) (by decide +kernel) (by decide +kernel)
theorem v_13 : Cond.selects RX3 yX3_placeInCycle yX3_placeInCycle ∈ GW := gw_of (i := 13) (by decide +kernel) (by decide +kernel)
theorem k_X3_150 (g : GC) : gcV (wC g) RX3 150 3 yX3_placeInCycle cX3_placeInCycle 2 (some .int) 1 := mkV (ob_3 g) v_575 v_577 v_13 v_578 v_30 ⟨by decide +kernel, by decide +kernel, by decide +kernel⟩
theorem v_580 : Cond.methodLink RX3 153 yX3_changedGreen ∈ GW := gw_of (i := 580) (by decide +kernel) (by decide +kernel)
theorem v_583 : Cond.code yX3_changedGreen cX3_changedGreen 3 (some .int) ∈ GW := gw_of (i := 583) (by decide +kernel) (by decide +kernel)
theorem v_582 : Cond.instanceMethod yX3_changedGreen ∈ GW := gw_of (i := 582) (by decide +kernel) (by decide +kernel)
theorem v_14 : Cond.selects RX3 yX3_changedGreen yX3_changedGreen ∈ GW := gw_of (i := 14) (by decide +kernel) (by decide +kernel)
theorem k_X3_153 (g : GC) : gcV (wC g) RX3 153 3 yX3_changedGreen cX3_changedGreen 3 (some .int) 1 := mkV (ob_3 g) v_580 v_582 v_14 v_583 v_30 ⟨by decide +kernel, by decide +kernel, by decide +kernel⟩
theorem v_620 : Cond.methodLink RX3 156 yX3_lowestPhaseWith ∈ GW := gw_of (i := 620) (by decide +kernel) (by decide +kernel)
theorem v_612 : Cond.code yX3_lowestPhaseWith cX3_lowestPhaseWith 3 (some .int) ∈ GW := gw_of (i := 612) (by decide +kernel) (by decide +kernel)
theorem v_610 : Cond.instanceMethod yX3_lowestPhaseWith ∈ GW := gw_of (i := 610) (by decide +kernel) (by decide +kernel)
theorem v_611 : Cond.selects RX3 yX3_lowestPhaseWith yX3_lowestPhaseWith ∈ GW := gw_of (i := 611) (by decide +kernel) (by decide +kernel)
theorem k_X3_156 (g : GC) : gcV (wC g) RX3 156 3 yX3_lowestPhaseWith cX3_lowestPhaseWith 3 (some .int) 1 := mkV (ob_3 g) v_620 v_610 v_611 v_612 v_30 ⟨by decide +kernel, by decide +kernel, by decide +kernel⟩
theorem v_567 : Cond.methodLink RX3 159 yX3_phaseIn ∈ GW := gw_of (i := 567) (by decide +kernel) (by decide +kernel)
theorem v_570 : Cond.code yX3_phaseIn cX3_phaseIn 6 (some .int) ∈ GW := gw_of (i := 570) (by decide +kernel) (by decide +kernel)
theorem v_568 : Cond.instanceMethod yX3_phaseIn ∈ GW := gw_of (i := 568) (by decide +kernel) (by decide +kernel)
theorem v_569 : Cond.selects RX3 yX3_phaseIn yX3_phaseIn ∈ GW := gw_of (i := 569) (by decide +kernel) (by decide +kernel)
theorem k_X3_159 (g : GC) : gcV (wC g) RX3 159 3 yX3_phaseIn cX3_phaseIn 6 (some .int) 1 := mkV (ob_3 g) v_567 v_568 v_569 v_570 v_30 ⟨by decide +kernel, by decide +kernel, by decide +kernel⟩
theorem v_621 : Cond.methodLink RX3 162 yX3_spareGreen ∈ GW := gw_of (i := 621) (by decide +kernel) (by decide +kernel)
theorem v_624 : Cond.code yX3_spareGreen cX3_spareGreen 2 (some .int) ∈ GW := gw_of (i := 624) (by decide +kernel) (by decide +kernel)
theorem v_623 : Cond.instanceMethod yX3_spareGreen ∈ GW := gw_of (i := 623) (by decide +kernel) (by decide +kernel)
theorem v_17 : Cond.selects RX3 yX3_spareGreen yX3_spareGreen ∈ GW := gw_of (i := 17) (by decide +kernel) (by decide +kernel)
theorem k_X3_162 (g : GC) : gcV (wC g) RX3 162 3 yX3_spareGreen cX3_spareGreen 2 (some .int) 1 := mkV (ob_3 g) v_621 v_623 v_17 v_624 v_30 ⟨by decide +kernel, by decide +kernel, by decide +kernel⟩
theorem v_584 : Cond.methodLink RX3 165 Lib.Math.min.name ∈ GW := gw_of (i := 584) (by decide +kernel) (by decide +kernel)
theorem v_585 : Cond.static Lib.Math.min.name ∈ GW := gw_of (i := 585) (by decide +kernel) (by decide +kernel)
theorem v_586 : Cond.code Lib.Math.min.name Lib.Math.min.code 2 (some .int) ∈ GW := gw_of (i := 586) (by decide +kernel) (by decide +kernel)
theorem v_625 : Cond.methodLink RX3 168 yX3_secondsOfGreenBehind ∈ GW := gw_of (i := 625) (by decide +kernel) (by decide +kernel)
theorem v_628 : Cond.code yX3_secondsOfGreenBehind cX3_secondsOfGreenBehind 5 (some .int) ∈ GW := gw_of (i := 628) (by decide +kernel) (by decide +kernel)
theorem v_627 : Cond.instanceMethod yX3_secondsOfGreenBehind ∈ GW := gw_of (i := 627) (by decide +kernel) (by decide +kernel)
theorem v_18 : Cond.selects RX3 yX3_secondsOfGreenBehind yX3_secondsOfGreenBehind ∈ GW := gw_of (i := 18) (by decide +kernel) (by decide +kernel)
theorem k_X3_168 (g : GC) : gcV (wC g) RX3 168 3 yX3_secondsOfGreenBehind cX3_secondsOfGreenBehind 5 (some .int) 2 := mkV (ob_3 g) v_625 v_627 v_18 v_628 v_30 ⟨by decide +kernel, by decide +kernel, by decide +kernel⟩
theorem gf_X3_47 {cc : ByteArray} {nL : Nat} {rm : Room} {X : MX} {g : GC} {cn sn : Nat} {S : Mem} {L : List (Nat × Value)} {pc pc' : Nat} {st : List Value} {k : Nat} (h0 : CX RX3 cc nL rm X (wC g)) (hk : k < 5) (hdg : decode cc pc = .ok (.getfield 47, 3)) (e : pc + 3 = pc') (kk : GV X (wC g) nL cn sn S L pc' (.int (S.1 3 k 12) :: st)) : GV X (wC g) nL cn sn S L pc (.ref (wA (wC g) 3 k) :: st) :=
  r_get (T := TX3) h0 hk rfl rfl inX3 12 (by decide) v_115 rfl rfl hdg e kk
theorem gf_X4_15 {cc : ByteArray} {nL : Nat} {rm : Room} {X : MX} {g : GC} {cn sn : Nat} {S : Mem} {L : List (Nat × Value)} {pc pc' : Nat} {st : List Value} {k : Nat} (h0 : CX RX4 cc nL rm X (wC g)) (hk : k < 5) (hdg : decode cc pc = .ok (.getfield 15, 3)) (e : pc + 3 = pc') (kk : GV X (wC g) nL cn sn S L pc' (.int (S.1 4 k 1) :: st)) : GV X (wC g) nL cn sn S L pc (.ref (wA (wC g) 4 k) :: st) :=
  r_get (T := TX4) h0 hk rfl rfl inX4 1 (by decide) v_73 rfl rfl hdg e kk
theorem v_558 : Cond.methodLinkNest RX4 31 yX7_modulo "Greenwave" ∈ NW := nw_of (i := 558) (by decide +kernel) (by decide +kernel)
theorem k_X4_31 (g : GC) : gcS (wC g) RX4 31 yX7_modulo cX7_modulo 3 (some .int) 2 := mkSN v_558 v_559 v_560 v_28 ⟨by decide +kernel, by decide +kernel, by decide +kernel⟩
theorem v_561 : Cond.methodLinkNest RX4 35 yX7_read "Greenwave" ∈ NW := nw_of (i := 561) (by decide +kernel) (by decide +kernel)
theorem k_X4_35 (g : GC) : gcS (wC g) RX4 35 yX7_read cX7_read 2 (some .int) 2 := mkSN v_561 v_354 v_355 v_28 ⟨by decide +kernel, by decide +kernel, by decide +kernel⟩
theorem v_562 : Cond.methodLinkNest RX4 39 yX7_write "Greenwave" ∈ NW := nw_of (i := 562) (by decide +kernel) (by decide +kernel)
theorem k_X4_39 (g : GC) : gcS (wC g) RX4 39 yX7_write cX7_write 3 none 3 := mkSN v_562 v_343 v_344 v_28 ⟨by decide +kernel, by decide +kernel, by decide +kernel⟩
theorem gf_X4_22 {cc : ByteArray} {nL : Nat} {rm : Room} {X : MX} {g : GC} {cn sn : Nat} {S : Mem} {L : List (Nat × Value)} {pc pc' : Nat} {st : List Value} {k : Nat} (h0 : CX RX4 cc nL rm X (wC g)) (hk : k < 5) (hdg : decode cc pc = .ok (.getfield 22, 3)) (e : pc + 3 = pc') (kk : GV X (wC g) nL cn sn S L pc' (.int (S.1 4 k 3) :: st)) : GV X (wC g) nL cn sn S L pc (.ref (wA (wC g) 4 k) :: st) :=
  r_get (T := TX4) h0 hk rfl rfl inX4 3 (by decide) v_79 rfl rfl hdg e kk
theorem v_228 : Cond.fieldLink RX6 15 RX6 "second" "I" ∈ GW := gw_of (i := 228) (by decide +kernel) (by decide +kernel)
theorem pf_X6_15 {cc : ByteArray} {nL : Nat} {rm : Room} {X : MX} {g : GC} {cn sn : Nat} {S : Mem} {L : List (Nat × Value)} {pc pc' : Nat} {st : List Value} {v : Int32} (h0 : CX RX6 cc nL rm X (wC g)) (hk : 0 < 1) (hdg : decode cc pc = .ok (.putfield 15, 3)) (e : pc + 3 = pc') (kk : GV X (wC g) nL cn sn (wI S 6 0 1 v) L pc' st) : GV X (wC g) nL cn sn S L pc (.int v :: .ref (wA (wC g) 6 0) :: st) :=
  r_put (S' := (wI S 6 0 1 v)) (T := TX6) h0 hk rfl rfl inX6 tyX6 tyX6_ok nmX6 1 (by decide) v_228 rfl rfl (rfl) rfl (Nat.le_of_ble_eq_true rfl) wI_off ((congrArg (fun z => wCe (wC g) z (S.2 6 0) 6 0) wI_on).trans rfl) hdg e kk
theorem v_230 : Cond.fieldLink RX6 19 RX6 "arrivals" "I" ∈ GW := gw_of (i := 230) (by decide +kernel) (by decide +kernel)
theorem pf_X6_19 {cc : ByteArray} {nL : Nat} {rm : Room} {X : MX} {g : GC} {cn sn : Nat} {S : Mem} {L : List (Nat × Value)} {pc pc' : Nat} {st : List Value} {v : Int32} (h0 : CX RX6 cc nL rm X (wC g)) (hk : 0 < 1) (hdg : decode cc pc = .ok (.putfield 19, 3)) (e : pc + 3 = pc') (kk : GV X (wC g) nL cn sn (wI S 6 0 2 v) L pc' st) : GV X (wC g) nL cn sn S L pc (.int v :: .ref (wA (wC g) 6 0) :: st) :=
  r_put (S' := (wI S 6 0 2 v)) (T := TX6) h0 hk rfl rfl inX6 tyX6 tyX6_ok nmX6 2 (by decide) v_230 rfl rfl (rfl) rfl (Nat.le_of_ble_eq_true rfl) wI_off ((congrArg (fun z => wCe (wC g) z (S.2 6 0) 6 0) wI_on).trans rfl) hdg e kk
theorem v_231 : Cond.fieldLink RX6 22 RX6 "come" "I" ∈ GW := gw_of (i := 231) (by decide +kernel) (by decide +kernel)
theorem pf_X6_22 {cc : ByteArray} {nL : Nat} {rm : Room} {X : MX} {g : GC} {cn sn : Nat} {S : Mem} {L : List (Nat × Value)} {pc pc' : Nat} {st : List Value} {v : Int32} (h0 : CX RX6 cc nL rm X (wC g)) (hk : 0 < 1) (hdg : decode cc pc = .ok (.putfield 22, 3)) (e : pc + 3 = pc') (kk : GV X (wC g) nL cn sn (wI S 6 0 3 v) L pc' st) : GV X (wC g) nL cn sn S L pc (.int v :: .ref (wA (wC g) 6 0) :: st) :=
  r_put (S' := (wI S 6 0 3 v)) (T := TX6) h0 hk rfl rfl inX6 tyX6 tyX6_ok nmX6 3 (by decide) v_231 rfl rfl (rfl) rfl (Nat.le_of_ble_eq_true rfl) wI_off ((congrArg (fun z => wCe (wC g) z (S.2 6 0) 6 0) wI_on).trans rfl) hdg e kk
theorem v_233 : Cond.fieldLink RX6 25 RX6 "through" "I" ∈ GW := gw_of (i := 233) (by decide +kernel) (by decide +kernel)
theorem pf_X6_25 {cc : ByteArray} {nL : Nat} {rm : Room} {X : MX} {g : GC} {cn sn : Nat} {S : Mem} {L : List (Nat × Value)} {pc pc' : Nat} {st : List Value} {v : Int32} (h0 : CX RX6 cc nL rm X (wC g)) (hk : 0 < 1) (hdg : decode cc pc = .ok (.putfield 25, 3)) (e : pc + 3 = pc') (kk : GV X (wC g) nL cn sn (wI S 6 0 4 v) L pc' st) : GV X (wC g) nL cn sn S L pc (.int v :: .ref (wA (wC g) 6 0) :: st) :=
  r_put (S' := (wI S 6 0 4 v)) (T := TX6) h0 hk rfl rfl inX6 tyX6 tyX6_ok nmX6 4 (by decide) v_233 rfl rfl (rfl) rfl (Nat.le_of_ble_eq_true rfl) wI_off ((congrArg (fun z => wCe (wC g) z (S.2 6 0) 6 0) wI_on).trans rfl) hdg e kk
theorem v_235 : Cond.fieldLink RX6 28 RX6 "hasBegun" "Z" ∈ GW := gw_of (i := 235) (by decide +kernel) (by decide +kernel)
theorem pf_X6_28 {cc : ByteArray} {nL : Nat} {rm : Room} {X : MX} {g : GC} {cn sn : Nat} {S : Mem} {L : List (Nat × Value)} {pc pc' : Nat} {st : List Value} {v : Int32} (h0 : CX RX6 cc nL rm X (wC g)) (hk : 0 < 1) (hdg : decode cc pc = .ok (.putfield 28, 3)) (e : pc + 3 = pc') (hz : nb v = v) (kk : GV X (wC g) nL cn sn (wI S 6 0 5 v) L pc' st) : GV X (wC g) nL cn sn S L pc (.int v :: .ref (wA (wC g) 6 0) :: st) :=
  r_put (S' := (wI S 6 0 5 v)) (T := TX6) h0 hk rfl rfl inX6 tyX6 tyX6_ok nmX6 5 (by decide) v_235 rfl rfl (nbz hz) (nbf hz) (Nat.le_of_ble_eq_true rfl) wI_off ((congrArg (fun z => wCe (wC g) z (S.2 6 0) 6 0) wI_on).trans rfl) hdg e kk
theorem gf_X6_19 {cc : ByteArray} {nL : Nat} {rm : Room} {X : MX} {g : GC} {cn sn : Nat} {S : Mem} {L : List (Nat × Value)} {pc pc' : Nat} {st : List Value} (h0 : CX RX6 cc nL rm X (wC g)) (hk : 0 < 1) (hdg : decode cc pc = .ok (.getfield 19, 3)) (e : pc + 3 = pc') (kk : GV X (wC g) nL cn sn S L pc' (.int (S.1 6 0 2) :: st)) : GV X (wC g) nL cn sn S L pc (.ref (wA (wC g) 6 0) :: st) :=
  r_get (T := TX6) h0 hk rfl rfl inX6 2 (by decide) v_230 rfl rfl hdg e kk
theorem v_552 : Cond.methodLink RX6 77 yX3_flowOf ∈ GW := gw_of (i := 552) (by decide +kernel) (by decide +kernel)
theorem v_497 : Cond.code yX3_flowOf cX3_flowOf 2 (some .int) ∈ GW := gw_of (i := 497) (by decide +kernel) (by decide +kernel)
theorem v_495 : Cond.instanceMethod yX3_flowOf ∈ GW := gw_of (i := 495) (by decide +kernel) (by decide +kernel)
theorem v_496 : Cond.selects RX3 yX3_flowOf yX3_flowOf ∈ GW := gw_of (i := 496) (by decide +kernel) (by decide +kernel)
theorem k_X6_77 (g : GC) : gcV (wC g) RX6 77 3 yX3_flowOf cX3_flowOf 2 (some .int) 1 := mkV (ob_3 g) v_552 v_495 v_496 v_497 v_30 ⟨by decide +kernel, by decide +kernel, by decide +kernel⟩
theorem v_112 : Cond.fieldLinkNest RX6 48 RX3 "waiting" "I" "Greenwave" ∈ NW := nw_of (i := 112) (by decide +kernel) (by decide +kernel)
theorem gf_X6_48 {cc : ByteArray} {nL : Nat} {rm : Room} {X : MX} {g : GC} {cn sn : Nat} {S : Mem} {L : List (Nat × Value)} {pc pc' : Nat} {st : List Value} {k : Nat} (h0 : CX RX6 cc nL rm X (wC g)) (hk : k < 5) (hdg : decode cc pc = .ok (.getfield 48, 3)) (e : pc + 3 = pc') (kk : GV X (wC g) nL cn sn S L pc' (.int (S.1 3 k 11) :: st)) : GV X (wC g) nL cn sn S L pc (.ref (wA (wC g) 3 k) :: st) :=
  r_getN (T := TX3) h0 hk rfl rfl inX3 11 (by decide) v_112 rfl rfl hdg e kk
theorem pf_X6_48 {cc : ByteArray} {nL : Nat} {rm : Room} {X : MX} {g : GC} {cn sn : Nat} {S : Mem} {L : List (Nat × Value)} {pc pc' : Nat} {st : List Value} {k : Nat} {v : Int32} (h0 : CX RX6 cc nL rm X (wC g)) (hk : k < 5) (hdg : decode cc pc = .ok (.putfield 48, 3)) (e : pc + 3 = pc') (kk : GV X (wC g) nL cn sn (wI S 3 k 11 v) L pc' st) : GV X (wC g) nL cn sn S L pc (.int v :: .ref (wA (wC g) 3 k) :: st) :=
  r_putN (S' := (wI S 3 k 11 v)) (T := TX3) h0 hk rfl rfl inX3 tyX3 tyX3_ok nmX3 11 (by decide) v_112 rfl rfl (rfl) rfl (Nat.le_of_ble_eq_true rfl) wI_off ((congrArg (fun z => wCe (wC g) z (S.2 3 k) 3 k) wI_on).trans rfl) hdg e kk
theorem gf_X6_22 {cc : ByteArray} {nL : Nat} {rm : Room} {X : MX} {g : GC} {cn sn : Nat} {S : Mem} {L : List (Nat × Value)} {pc pc' : Nat} {st : List Value} (h0 : CX RX6 cc nL rm X (wC g)) (hk : 0 < 1) (hdg : decode cc pc = .ok (.getfield 22, 3)) (e : pc + 3 = pc') (kk : GV X (wC g) nL cn sn S L pc' (.int (S.1 6 0 3) :: st)) : GV X (wC g) nL cn sn S L pc (.ref (wA (wC g) 6 0) :: st) :=
  r_get (T := TX6) h0 hk rfl rfl inX6 3 (by decide) v_231 rfl rfl hdg e kk
theorem v_227 : Cond.fieldLink RX6 9 RX6 "corridor" "LGreenwave$Corridor;" ∈ GW := gw_of (i := 227) (by decide +kernel) (by decide +kernel)
theorem gf_X6_9 {cc : ByteArray} {nL : Nat} {rm : Room} {X : MX} {g : GC} {cn sn : Nat} {S : Mem} {L : List (Nat × Value)} {pc pc' : Nat} {st : List Value} (h0 : CX RX6 cc nL rm X (wC g)) (hk : 0 < 1) (hdg : decode cc pc = .ok (.getfield 9, 3)) (e : pc + 3 = pc') (kk : GV X (wC g) nL cn sn S L pc' (.ref (wA (wC g) 1 0) :: st)) : GV X (wC g) nL cn sn S L pc (.ref (wA (wC g) 6 0) :: st) :=
  r_get (T := TX6) h0 hk rfl rfl inX6 0 (by decide) v_227 rfl rfl hdg e kk
theorem v_591 : Cond.methodLink RX6 80 yX1_isLast ∈ GW := gw_of (i := 591) (by decide +kernel) (by decide +kernel)
theorem k_X6_80 (g : GC) : gcV (wC g) RX6 80 1 yX1_isLast cX1_isLast 2 (some .boolean) 1 := mkV (ob_1 g) v_591 v_519 v_520 v_521 v_29 ⟨by decide +kernel, by decide +kernel, by decide +kernel⟩
theorem v_592 : Cond.methodLink RX6 83 yX1_vehiclesOnLinkFrom ∈ GW := gw_of (i := 592) (by decide +kernel) (by decide +kernel)
theorem v_595 : Cond.code yX1_vehiclesOnLinkFrom cX1_vehiclesOnLinkFrom 2 (some .int) ∈ GW := gw_of (i := 595) (by decide +kernel) (by decide +kernel)
theorem v_593 : Cond.instanceMethod yX1_vehiclesOnLinkFrom ∈ GW := gw_of (i := 593) (by decide +kernel) (by decide +kernel)
theorem v_594 : Cond.selects RX1 yX1_vehiclesOnLinkFrom yX1_vehiclesOnLinkFrom ∈ GW := gw_of (i := 594) (by decide +kernel) (by decide +kernel)
theorem k_X6_83 (g : GC) : gcV (wC g) RX6 83 1 yX1_vehiclesOnLinkFrom cX1_vehiclesOnLinkFrom 2 (some .int) 1 := mkV (ob_1 g) v_592 v_593 v_594 v_595 v_29 ⟨by decide +kernel, by decide +kernel, by decide +kernel⟩
theorem v_553 : Cond.methodLink RX6 53 yX1_linkFrom ∈ GW := gw_of (i := 553) (by decide +kernel) (by decide +kernel)
theorem k_X6_53 (g : GC) : gcV (wC g) RX6 53 1 yX1_linkFrom cX1_linkFrom 3 (some (.object "Greenwave$Link")) 1 := mkV (ob_1 g) v_553 v_515 v_516 v_517 v_29 ⟨by decide +kernel, by decide +kernel, by decide +kernel⟩
theorem v_77 : Cond.fieldLinkNest RX6 86 RX4 "room" "I" "Greenwave" ∈ NW := nw_of (i := 77) (by decide +kernel) (by decide +kernel)
theorem gf_X6_86 {cc : ByteArray} {nL : Nat} {rm : Room} {X : MX} {g : GC} {cn sn : Nat} {S : Mem} {L : List (Nat × Value)} {pc pc' : Nat} {st : List Value} {k : Nat} (h0 : CX RX6 cc nL rm X (wC g)) (hk : k < 5) (hdg : decode cc pc = .ok (.getfield 86, 3)) (e : pc + 3 = pc') (kk : GV X (wC g) nL cn sn S L pc' (.int (S.1 4 k 2) :: st)) : GV X (wC g) nL cn sn S L pc (.ref (wA (wC g) 4 k) :: st) :=
  r_getN (T := TX4) h0 hk rfl rfl inX4 2 (by decide) v_77 rfl rfl hdg e kk
theorem v_547 : Cond.methodLink RX6 40 yX1_at ∈ GW := gw_of (i := 547) (by decide +kernel) (by decide +kernel)
theorem k_X6_40 (g : GC) : gcV (wC g) RX6 40 1 yX1_at cX1_at 2 (some (.object "Greenwave$Junction")) 1 := mkV (ob_1 g) v_547 v_255 v_256 v_257 v_29 ⟨by decide +kernel, by decide +kernel, by decide +kernel⟩
theorem v_116 : Cond.fieldLinkNest RX6 67 RX3 "ready" "I" "Greenwave" ∈ NW := nw_of (i := 116) (by decide +kernel) (by decide +kernel)
theorem pf_X6_67 {cc : ByteArray} {nL : Nat} {rm : Room} {X : MX} {g : GC} {cn sn : Nat} {S : Mem} {L : List (Nat × Value)} {pc pc' : Nat} {st : List Value} {k : Nat} {v : Int32} (h0 : CX RX6 cc nL rm X (wC g)) (hk : k < 5) (hdg : decode cc pc = .ok (.putfield 67, 3)) (e : pc + 3 = pc') (kk : GV X (wC g) nL cn sn (wI S 3 k 12 v) L pc' st) : GV X (wC g) nL cn sn S L pc (.int v :: .ref (wA (wC g) 3 k) :: st) :=
  r_putN (S' := (wI S 3 k 12 v)) (T := TX3) h0 hk rfl rfl inX3 tyX3 tyX3_ok nmX3 12 (by decide) v_116 rfl rfl (rfl) rfl (Nat.le_of_ble_eq_true rfl) wI_off ((congrArg (fun z => wCe (wC g) z (S.2 3 k) 3 k) wI_on).trans rfl) hdg e kk
theorem v_101 : Cond.fieldLinkNest RX6 89 RX3 "link" "LGreenwave$Link;" "Greenwave" ∈ NW := nw_of (i := 101) (by decide +kernel) (by decide +kernel)
theorem gf_X6_89 {cc : ByteArray} {nL : Nat} {rm : Room} {X : MX} {g : GC} {cn sn : Nat} {S : Mem} {L : List (Nat × Value)} {pc pc' : Nat} {st : List Value} {k : Nat} (h0 : CX RX6 cc nL rm X (wC g)) (hk : k < 5) (hdg : decode cc pc = .ok (.getfield 89, 3)) (e : pc + 3 = pc') (kk : GV X (wC g) nL cn sn S L pc' (.ref (wA (wC g) 4 k) :: st)) : GV X (wC g) nL cn sn S L pc (.ref (wA (wC g) 3 k) :: st) :=
  r_getN (T := TX3) h0 hk rfl rfl inX3 6 (by decide) v_101 rfl rfl hdg e kk
theorem gf_X6_15 {cc : ByteArray} {nL : Nat} {rm : Room} {X : MX} {g : GC} {cn sn : Nat} {S : Mem} {L : List (Nat × Value)} {pc pc' : Nat} {st : List Value} (h0 : CX RX6 cc nL rm X (wC g)) (hk : 0 < 1) (hdg : decode cc pc = .ok (.getfield 15, 3)) (e : pc + 3 = pc') (kk : GV X (wC g) nL cn sn S L pc' (.int (S.1 6 0 1) :: st)) : GV X (wC g) nL cn sn S L pc (.ref (wA (wC g) 6 0) :: st) :=
  r_get (T := TX6) h0 hk rfl rfl inX6 1 (by decide) v_228 rfl rfl hdg e kk
theorem v_601 : Cond.methodLink RX6 93 yX4_send ∈ GW := gw_of (i := 601) (by decide +kernel) (by decide +kernel)
theorem v_604 : Cond.code yX4_send cX4_send 3 none ∈ GW := gw_of (i := 604) (by decide +kernel) (by decide +kernel)
theorem v_602 : Cond.instanceMethod yX4_send ∈ GW := gw_of (i := 602) (by decide +kernel) (by decide +kernel)
theorem v_603 : Cond.selects RX4 yX4_send yX4_send ∈ GW := gw_of (i := 603) (by decide +kernel) (by decide +kernel)
theorem k_X6_93 (g : GC) : gcV (wC g) RX6 93 4 yX4_send cX4_send 3 none 1 := mkV (ob_4 g) v_601 v_602 v_603 v_604 v_31 ⟨by decide +kernel, by decide +kernel, by decide +kernel⟩
theorem gf_X6_25 {cc : ByteArray} {nL : Nat} {rm : Room} {X : MX} {g : GC} {cn sn : Nat} {S : Mem} {L : List (Nat × Value)} {pc pc' : Nat} {st : List Value} (h0 : CX RX6 cc nL rm X (wC g)) (hk : 0 < 1) (hdg : decode cc pc = .ok (.getfield 25, 3)) (e : pc + 3 = pc') (kk : GV X (wC g) nL cn sn S L pc' (.int (S.1 6 0 4) :: st)) : GV X (wC g) nL cn sn S L pc (.ref (wA (wC g) 6 0) :: st) :=
  r_get (T := TX6) h0 hk rfl rfl inX6 4 (by decide) v_233 rfl rfl hdg e kk
theorem v_159 : Cond.fieldLinkNest RX6 35 RX1 "size" "I" "Greenwave" ∈ NW := nw_of (i := 159) (by decide +kernel) (by decide +kernel)
theorem gf_X6_35 {cc : ByteArray} {nL : Nat} {rm : Room} {X : MX} {g : GC} {cn sn : Nat} {S : Mem} {L : List (Nat × Value)} {pc pc' : Nat} {st : List Value} (h0 : CX RX6 cc nL rm X (wC g)) (hk : 0 < 1) (hdg : decode cc pc = .ok (.getfield 35, 3)) (e : pc + 3 = pc') (kk : GV X (wC g) nL cn sn S L pc' (.int (S.1 1 0 1) :: st)) : GV X (wC g) nL cn sn S L pc (.ref (wA (wC g) 1 0) :: st) :=
  r_getN (T := TX1) h0 hk rfl rfl inX1 1 (by decide) v_159 rfl rfl hdg e kk
theorem v_554 : Cond.methodLink RX6 57 yX4_land ∈ GW := gw_of (i := 554) (by decide +kernel) (by decide +kernel)
theorem v_557 : Cond.code yX4_land cX4_land 4 (some .int) ∈ GW := gw_of (i := 557) (by decide +kernel) (by decide +kernel)
theorem v_555 : Cond.instanceMethod yX4_land ∈ GW := gw_of (i := 555) (by decide +kernel) (by decide +kernel)
theorem v_556 : Cond.selects RX4 yX4_land yX4_land ∈ GW := gw_of (i := 556) (by decide +kernel) (by decide +kernel)
theorem k_X6_57 (g : GC) : gcV (wC g) RX6 57 4 yX4_land cX4_land 4 (some .int) 1 := mkV (ob_4 g) v_554 v_555 v_556 v_557 v_31 ⟨by decide +kernel, by decide +kernel, by decide +kernel⟩
theorem v_548 : Cond.methodLink RX6 44 yX6_letCome ∈ GW := gw_of (i := 548) (by decide +kernel) (by decide +kernel)
theorem v_551 : Cond.code yX6_letCome cX6_letCome 2 none ∈ GW := gw_of (i := 551) (by decide +kernel) (by decide +kernel)
theorem v_35 : Cond.initialized RX6 ∈ GW := gw_of (i := 35) (by decide +kernel) (by decide +kernel)
theorem v_550 : Cond.instanceMethod yX6_letCome ∈ GW := gw_of (i := 550) (by decide +kernel) (by decide +kernel)
theorem v_12 : Cond.selects RX6 yX6_letCome yX6_letCome ∈ GW := gw_of (i := 12) (by decide +kernel) (by decide +kernel)
theorem k_X6_44 (g : GC) : gcV (wC g) RX6 44 6 yX6_letCome cX6_letCome 2 none 1 := mkV (ob_6 g) v_548 v_550 v_12 v_551 v_35 ⟨by decide +kernel, by decide +kernel, by decide +kernel⟩
theorem v_563 : Cond.methodLink RX6 63 yX3_growReady ∈ GW := gw_of (i := 563) (by decide +kernel) (by decide +kernel)
theorem v_566 : Cond.code yX3_growReady cX3_growReady 4 none ∈ GW := gw_of (i := 566) (by decide +kernel) (by decide +kernel)
theorem v_564 : Cond.instanceMethod yX3_growReady ∈ GW := gw_of (i := 564) (by decide +kernel) (by decide +kernel)
theorem v_565 : Cond.selects RX3 yX3_growReady yX3_growReady ∈ GW := gw_of (i := 565) (by decide +kernel) (by decide +kernel)
theorem k_X6_63 (g : GC) : gcV (wC g) RX6 63 3 yX3_growReady cX3_growReady 4 none 1 := mkV (ob_3 g) v_563 v_564 v_565 v_566 v_30 ⟨by decide +kernel, by decide +kernel, by decide +kernel⟩
theorem gf_X6_67 {cc : ByteArray} {nL : Nat} {rm : Room} {X : MX} {g : GC} {cn sn : Nat} {S : Mem} {L : List (Nat × Value)} {pc pc' : Nat} {st : List Value} {k : Nat} (h0 : CX RX6 cc nL rm X (wC g)) (hk : k < 5) (hdg : decode cc pc = .ok (.getfield 67, 3)) (e : pc + 3 = pc') (kk : GV X (wC g) nL cn sn S L pc' (.int (S.1 3 k 12) :: st)) : GV X (wC g) nL cn sn S L pc (.ref (wA (wC g) 3 k) :: st) :=
  r_getN (T := TX3) h0 hk rfl rfl inX3 12 (by decide) v_116 rfl rfl hdg e kk
theorem v_587 : Cond.methodLink RX6 70 yX6_hasRoomBehind ∈ GW := gw_of (i := 587) (by decide +kernel) (by decide +kernel)
theorem v_590 : Cond.code yX6_hasRoomBehind cX6_hasRoomBehind 2 (some .boolean) ∈ GW := gw_of (i := 590) (by decide +kernel) (by decide +kernel)
theorem v_589 : Cond.instanceMethod yX6_hasRoomBehind ∈ GW := gw_of (i := 589) (by decide +kernel) (by decide +kernel)
theorem v_15 : Cond.selects RX6 yX6_hasRoomBehind yX6_hasRoomBehind ∈ GW := gw_of (i := 15) (by decide +kernel) (by decide +kernel)
theorem k_X6_70 (g : GC) : gcV (wC g) RX6 70 6 yX6_hasRoomBehind cX6_hasRoomBehind 2 (some .boolean) 1 := mkV (ob_6 g) v_587 v_589 v_15 v_590 v_35 ⟨by decide +kernel, by decide +kernel, by decide +kernel⟩
theorem v_597 : Cond.methodLink RX6 74 yX6_letLeave ∈ GW := gw_of (i := 597) (by decide +kernel) (by decide +kernel)
theorem v_600 : Cond.code yX6_letLeave cX6_letLeave 3 none ∈ GW := gw_of (i := 600) (by decide +kernel) (by decide +kernel)
theorem v_599 : Cond.instanceMethod yX6_letLeave ∈ GW := gw_of (i := 599) (by decide +kernel) (by decide +kernel)
theorem v_16 : Cond.selects RX6 yX6_letLeave yX6_letLeave ∈ GW := gw_of (i := 16) (by decide +kernel) (by decide +kernel)
theorem k_X6_74 (g : GC) : gcV (wC g) RX6 74 6 yX6_letLeave cX6_letLeave 3 none 1 := mkV (ob_6 g) v_597 v_599 v_16 v_600 v_35 ⟨by decide +kernel, by decide +kernel, by decide +kernel⟩
theorem v_543 : Cond.methodLink RX6 32 yX6_passSecond ∈ GW := gw_of (i := 543) (by decide +kernel) (by decide +kernel)
theorem v_546 : Cond.code yX6_passSecond cX6_passSecond 3 none ∈ GW := gw_of (i := 546) (by decide +kernel) (by decide +kernel)
theorem v_545 : Cond.instanceMethod yX6_passSecond ∈ GW := gw_of (i := 545) (by decide +kernel) (by decide +kernel)
theorem v_11 : Cond.selects RX6 yX6_passSecond yX6_passSecond ∈ GW := gw_of (i := 11) (by decide +kernel) (by decide +kernel)
theorem k_X6_32 (g : GC) : gcV (wC g) RX6 32 6 yX6_passSecond cX6_passSecond 3 none 0 := mkV (ob_6 g) v_543 v_545 v_11 v_546 v_35 ⟨by decide +kernel, by decide +kernel, by decide +kernel⟩
theorem v_389 : Cond.fieldLink RX7 10 RX7 "corridor" "LGreenwave$Corridor;" ∈ GW := gw_of (i := 389) (by decide +kernel) (by decide +kernel)
theorem gf_X7_10 {cc : ByteArray} {nL : Nat} {rm : Room} {X : MX} {g : GC} {cn sn : Nat} {S : Mem} {L : List (Nat × Value)} {pc pc' : Nat} {st : List Value} (h0 : CX RX7 cc nL rm X (wC g)) (hk : 0 < 1) (hdg : decode cc pc = .ok (.getfield 10, 3)) (e : pc + 3 = pc') (kk : GV X (wC g) nL cn sn S L pc' (.ref (wA (wC g) 1 0) :: st)) : GV X (wC g) nL cn sn S L pc (.ref (wA (wC g) 7 0) :: st) :=
  r_get (T := TX7) h0 hk rfl rfl inX7 0 (by decide) v_389 rfl rfl hdg e kk
theorem v_160 : Cond.fieldLinkNest RX7 133 RX1 "size" "I" "Greenwave" ∈ NW := nw_of (i := 160) (by decide +kernel) (by decide +kernel)
theorem gf_X7_133 {cc : ByteArray} {nL : Nat} {rm : Room} {X : MX} {g : GC} {cn sn : Nat} {S : Mem} {L : List (Nat × Value)} {pc pc' : Nat} {st : List Value} (h0 : CX RX7 cc nL rm X (wC g)) (hk : 0 < 1) (hdg : decode cc pc = .ok (.getfield 133, 3)) (e : pc + 3 = pc') (kk : GV X (wC g) nL cn sn S L pc' (.int (S.1 1 0 1) :: st)) : GV X (wC g) nL cn sn S L pc (.ref (wA (wC g) 1 0) :: st) :=
  r_getN (T := TX1) h0 hk rfl rfl inX1 1 (by decide) v_160 rfl rfl hdg e kk
theorem v_391 : Cond.fieldLink RX7 28 RX7 "traffic" "LGreenwave$Traffic;" ∈ GW := gw_of (i := 391) (by decide +kernel) (by decide +kernel)
theorem gf_X7_28 {cc : ByteArray} {nL : Nat} {rm : Room} {X : MX} {g : GC} {cn sn : Nat} {S : Mem} {L : List (Nat × Value)} {pc pc' : Nat} {st : List Value} (h0 : CX RX7 cc nL rm X (wC g)) (hk : 0 < 1) (hdg : decode cc pc = .ok (.getfield 28, 3)) (e : pc + 3 = pc') (kk : GV X (wC g) nL cn sn S L pc' (.ref (wA (wC g) 6 0) :: st)) : GV X (wC g) nL cn sn S L pc (.ref (wA (wC g) 7 0) :: st) :=
  r_get (T := TX7) h0 hk rfl rfl inX7 2 (by decide) v_391 rfl rfl hdg e kk
theorem v_229 : Cond.fieldLinkNest RX7 179 RX6 "second" "I" "Greenwave" ∈ NW := nw_of (i := 229) (by decide +kernel) (by decide +kernel)
theorem gf_X7_179 {cc : ByteArray} {nL : Nat} {rm : Room} {X : MX} {g : GC} {cn sn : Nat} {S : Mem} {L : List (Nat × Value)} {pc pc' : Nat} {st : List Value} (h0 : CX RX7 cc nL rm X (wC g)) (hk : 0 < 1) (hdg : decode cc pc = .ok (.getfield 179, 3)) (e : pc + 3 = pc') (kk : GV X (wC g) nL cn sn S L pc' (.int (S.1 6 0 1) :: st)) : GV X (wC g) nL cn sn S L pc (.ref (wA (wC g) 6 0) :: st) :=
  r_getN (T := TX6) h0 hk rfl rfl inX6 1 (by decide) v_229 rfl rfl hdg e kk
theorem v_232 : Cond.fieldLinkNest RX7 212 RX6 "come" "I" "Greenwave" ∈ NW := nw_of (i := 232) (by decide +kernel) (by decide +kernel)
theorem gf_X7_212 {cc : ByteArray} {nL : Nat} {rm : Room} {X : MX} {g : GC} {cn sn : Nat} {S : Mem} {L : List (Nat × Value)} {pc pc' : Nat} {st : List Value} (h0 : CX RX7 cc nL rm X (wC g)) (hk : 0 < 1) (hdg : decode cc pc = .ok (.getfield 212, 3)) (e : pc + 3 = pc') (kk : GV X (wC g) nL cn sn S L pc' (.int (S.1 6 0 3) :: st)) : GV X (wC g) nL cn sn S L pc (.ref (wA (wC g) 6 0) :: st) :=
  r_getN (T := TX6) h0 hk rfl rfl inX6 3 (by decide) v_232 rfl rfl hdg e kk
theorem v_234 : Cond.fieldLinkNest RX7 215 RX6 "through" "I" "Greenwave" ∈ NW := nw_of (i := 234) (by decide +kernel) (by decide +kernel)
theorem gf_X7_215 {cc : ByteArray} {nL : Nat} {rm : Room} {X : MX} {g : GC} {cn sn : Nat} {S : Mem} {L : List (Nat × Value)} {pc pc' : Nat} {st : List Value} (h0 : CX RX7 cc nL rm X (wC g)) (hk : 0 < 1) (hdg : decode cc pc = .ok (.getfield 215, 3)) (e : pc + 3 = pc') (kk : GV X (wC g) nL cn sn S L pc' (.int (S.1 6 0 4) :: st)) : GV X (wC g) nL cn sn S L pc (.ref (wA (wC g) 6 0) :: st) :=
  r_getN (T := TX6) h0 hk rfl rfl inX6 4 (by decide) v_234 rfl rfl hdg e kk
theorem v_420 : Cond.methodLink RX7 49 yX1_at ∈ GW := gw_of (i := 420) (by decide +kernel) (by decide +kernel)
theorem k_X7_49 (g : GC) : gcV (wC g) RX7 49 1 yX1_at cX1_at 2 (some (.object "Greenwave$Junction")) 1 := mkV (ob_1 g) v_420 v_255 v_256 v_257 v_29 ⟨by decide +kernel, by decide +kernel, by decide +kernel⟩
theorem v_109 : Cond.fieldLinkNest RX7 136 RX3 "isPlanned" "Z" "Greenwave" ∈ NW := nw_of (i := 109) (by decide +kernel) (by decide +kernel)
theorem gf_X7_136 {cc : ByteArray} {nL : Nat} {rm : Room} {X : MX} {g : GC} {cn sn : Nat} {S : Mem} {L : List (Nat × Value)} {pc pc' : Nat} {st : List Value} {k : Nat} (h0 : CX RX7 cc nL rm X (wC g)) (hk : k < 5) (hdg : decode cc pc = .ok (.getfield 136, 3)) (e : pc + 3 = pc') (kk : GV X (wC g) nL cn sn S L pc' (.int (S.1 3 k 10) :: st)) : GV X (wC g) nL cn sn S L pc (.ref (wA (wC g) 3 k) :: st) :=
  r_getN (T := TX3) h0 hk rfl rfl inX3 10 (by decide) v_109 rfl rfl hdg e kk
theorem v_102 : Cond.fieldLinkNest RX7 91 RX3 "phases" "I" "Greenwave" ∈ NW := nw_of (i := 102) (by decide +kernel) (by decide +kernel)
theorem gf_X7_91 {cc : ByteArray} {nL : Nat} {rm : Room} {X : MX} {g : GC} {cn sn : Nat} {S : Mem} {L : List (Nat × Value)} {pc pc' : Nat} {st : List Value} {k : Nat} (h0 : CX RX7 cc nL rm X (wC g)) (hk : k < 5) (hdg : decode cc pc = .ok (.getfield 91, 3)) (e : pc + 3 = pc') (kk : GV X (wC g) nL cn sn S L pc' (.int (S.1 3 k 7) :: st)) : GV X (wC g) nL cn sn S L pc (.ref (wA (wC g) 3 k) :: st) :=
  r_getN (T := TX3) h0 hk rfl rfl inX3 7 (by decide) v_102 rfl rfl hdg e kk
theorem v_792 : Cond.methodLink RX7 140 yX7_checkPhase ∈ GW := gw_of (i := 792) (by decide +kernel) (by decide +kernel)
theorem v_794 : Cond.code yX7_checkPhase cX7_checkPhase 2 none ∈ GW := gw_of (i := 794) (by decide +kernel) (by decide +kernel)
theorem v_793 : Cond.static yX7_checkPhase ∈ GW := gw_of (i := 793) (by decide +kernel) (by decide +kernel)
theorem k_X7_140 (g : GC) : gcS (wC g) RX7 140 yX7_checkPhase cX7_checkPhase 2 none 2 := mkS v_792 v_793 v_794 v_28 ⟨by decide +kernel, by decide +kernel, by decide +kernel⟩
theorem v_97 : Cond.fieldLinkNest RX7 156 RX3 "clearings" "[I" "Greenwave" ∈ NW := nw_of (i := 97) (by decide +kernel) (by decide +kernel)
theorem gf_X7_156 {cc : ByteArray} {nL : Nat} {rm : Room} {X : MX} {g : GC} {cn sn : Nat} {S : Mem} {L : List (Nat × Value)} {pc pc' : Nat} {st : List Value} {k : Nat} (h0 : CX RX7 cc nL rm X (wC g)) (hk : k < 5) (hdg : decode cc pc = .ok (.getfield 156, 3)) (e : pc + 3 = pc') (kk : GV X (wC g) nL cn sn S L pc' (.ref (wA (wC g) 15 k) :: st)) : GV X (wC g) nL cn sn S L pc (.ref (wA (wC g) 3 k) :: st) :=
  r_getN (T := TX3) h0 hk rfl rfl inX3 4 (by decide) v_97 rfl rfl hdg e kk
theorem v_796 : Cond.methodLink RX7 152 yX7_read ∈ GW := gw_of (i := 796) (by decide +kernel) (by decide +kernel)
theorem k_X7_152 (g : GC) : gcS (wC g) RX7 152 yX7_read cX7_read 2 (some .int) 2 := mkS v_796 v_354 v_355 v_28 ⟨by decide +kernel, by decide +kernel, by decide +kernel⟩
theorem v_107 : Cond.fieldLinkNest RX7 123 RX3 "start" "I" "Greenwave" ∈ NW := nw_of (i := 107) (by decide +kernel) (by decide +kernel)
theorem gf_X7_123 {cc : ByteArray} {nL : Nat} {rm : Room} {X : MX} {g : GC} {cn sn : Nat} {S : Mem} {L : List (Nat × Value)} {pc pc' : Nat} {st : List Value} {k : Nat} (h0 : CX RX7 cc nL rm X (wC g)) (hk : k < 5) (hdg : decode cc pc = .ok (.getfield 123, 3)) (e : pc + 3 = pc') (kk : GV X (wC g) nL cn sn S L pc' (.int (S.1 3 k 9) :: st)) : GV X (wC g) nL cn sn S L pc (.ref (wA (wC g) 3 k) :: st) :=
  r_getN (T := TX3) h0 hk rfl rfl inX3 9 (by decide) v_107 rfl rfl hdg e kk
theorem v_473 : Cond.methodLink RX7 53 yX7_checkMovement ∈ GW := gw_of (i := 473) (by decide +kernel) (by decide +kernel)
theorem v_475 : Cond.code yX7_checkMovement cX7_checkMovement 1 none ∈ GW := gw_of (i := 475) (by decide +kernel) (by decide +kernel)
theorem v_474 : Cond.static yX7_checkMovement ∈ GW := gw_of (i := 474) (by decide +kernel) (by decide +kernel)
theorem k_X7_53 (g : GC) : gcS (wC g) RX7 53 yX7_checkMovement cX7_checkMovement 1 none 1 := mkS v_473 v_474 v_475 v_28 ⟨by decide +kernel, by decide +kernel, by decide +kernel⟩
theorem v_811 : Cond.constant RX7 159 100000 ∈ GW := gw_of (i := 811) (by decide +kernel) (by decide +kernel)
theorem v_421 : Cond.methodLink RX7 36 yX7_isOutside ∈ GW := gw_of (i := 421) (by decide +kernel) (by decide +kernel)
theorem v_423 : Cond.code yX7_isOutside cX7_isOutside 3 (some .boolean) ∈ GW := gw_of (i := 423) (by decide +kernel) (by decide +kernel)
theorem v_422 : Cond.static yX7_isOutside ∈ GW := gw_of (i := 422) (by decide +kernel) (by decide +kernel)
theorem k_X7_36 (g : GC) : gcS (wC g) RX7 36 yX7_isOutside cX7_isOutside 3 (some .boolean) 3 := mkS v_421 v_422 v_423 v_28 ⟨by decide +kernel, by decide +kernel, by decide +kernel⟩
theorem v_780 : Cond.methodLink RX7 144 yX7_checkPlan ∈ GW := gw_of (i := 780) (by decide +kernel) (by decide +kernel)
theorem v_782 : Cond.code yX7_checkPlan cX7_checkPlan 1 none ∈ GW := gw_of (i := 782) (by decide +kernel) (by decide +kernel)
theorem v_781 : Cond.static yX7_checkPlan ∈ GW := gw_of (i := 781) (by decide +kernel) (by decide +kernel)
theorem k_X7_144 (g : GC) : gcS (wC g) RX7 144 yX7_checkPlan cX7_checkPlan 1 none 1 := mkS v_780 v_781 v_782 v_28 ⟨by decide +kernel, by decide +kernel, by decide +kernel⟩
theorem v_813 : Cond.methodLink RX7 162 yX3_isLit ∈ GW := gw_of (i := 813) (by decide +kernel) (by decide +kernel)
theorem k_X7_162 (g : GC) : gcV (wC g) RX7 162 3 yX3_isLit cX3_isLit 3 (some .boolean) 2 := mkV (ob_3 g) v_813 v_814 v_815 v_816 v_30 ⟨by decide +kernel, by decide +kernel, by decide +kernel⟩
theorem v_822 : Cond.methodLink RX7 165 yX3_countBreaches ∈ GW := gw_of (i := 822) (by decide +kernel) (by decide +kernel)
theorem v_825 : Cond.code yX3_countBreaches cX3_countBreaches 3 (some .int) ∈ GW := gw_of (i := 825) (by decide +kernel) (by decide +kernel)
theorem v_823 : Cond.instanceMethod yX3_countBreaches ∈ GW := gw_of (i := 823) (by decide +kernel) (by decide +kernel)
theorem v_824 : Cond.selects RX3 yX3_countBreaches yX3_countBreaches ∈ GW := gw_of (i := 824) (by decide +kernel) (by decide +kernel)
theorem k_X7_165 (g : GC) : gcV (wC g) RX7 165 3 yX3_countBreaches cX3_countBreaches 3 (some .int) 0 := mkV (ob_3 g) v_822 v_823 v_824 v_825 v_30 ⟨by decide +kernel, by decide +kernel, by decide +kernel⟩
theorem v_114 : Cond.fieldLinkNest RX7 206 RX3 "waiting" "I" "Greenwave" ∈ NW := nw_of (i := 114) (by decide +kernel) (by decide +kernel)
theorem gf_X7_206 {cc : ByteArray} {nL : Nat} {rm : Room} {X : MX} {g : GC} {cn sn : Nat} {S : Mem} {L : List (Nat × Value)} {pc pc' : Nat} {st : List Value} {k : Nat} (h0 : CX RX7 cc nL rm X (wC g)) (hk : k < 5) (hdg : decode cc pc = .ok (.getfield 206, 3)) (e : pc + 3 = pc') (kk : GV X (wC g) nL cn sn S L pc' (.int (S.1 3 k 11) :: st)) : GV X (wC g) nL cn sn S L pc (.ref (wA (wC g) 3 k) :: st) :=
  r_getN (T := TX3) h0 hk rfl rfl inX3 11 (by decide) v_114 rfl rfl hdg e kk
theorem v_842 : Cond.methodLink RX7 209 yX1_vehiclesOnLinkFrom ∈ GW := gw_of (i := 842) (by decide +kernel) (by decide +kernel)
theorem k_X7_209 (g : GC) : gcV (wC g) RX7 209 1 yX1_vehiclesOnLinkFrom cX1_vehiclesOnLinkFrom 2 (some .int) 1 := mkV (ob_1 g) v_842 v_593 v_594 v_595 v_29 ⟨by decide +kernel, by decide +kernel, by decide +kernel⟩
abbrev rm_X1_at : Room := { frames := 0, cells := 0, slots := 0, locals := 0 }
abbrev rm_X1_secondsBetween : Room := { frames := 1, cells := 0, slots := 0, locals := 21 }
abbrev rm_X5_clear : Room := { frames := 0, cells := 0, slots := 0, locals := 0 }
abbrev rm_X2_clear : Room := { frames := 1, cells := 0, slots := 0, locals := 20 }
abbrev rm_X7_modulo : Room := { frames := 0, cells := 0, slots := 0, locals := 0 }
abbrev rm_X7_read : Room := { frames := 0, cells := 0, slots := 0, locals := 0 }
abbrev rm_X7_hasBit : Room := { frames := 0, cells := 0, slots := 0, locals := 0 }
abbrev rm_X3_isLitFrom : Room := { frames := 1, cells := 0, slots := 0, locals := 22 }
abbrev rm_X5_add : Room := { frames := 0, cells := 0, slots := 0, locals := 0 }
abbrev rm_X0_fillFrom : Room := { frames := 2, cells := 0, slots := 0, locals := 45 }
abbrev rm_X2_addAll : Room := { frames := 1, cells := 0, slots := 0, locals := 21 }
abbrev rm_X5_becomeCommon : Room := { frames := 0, cells := 0, slots := 0, locals := 0 }
abbrev rm_X2_becomeCommon : Room := { frames := 1, cells := 0, slots := 0, locals := 22 }
abbrev rm_X0_fillCommon : Room := { frames := 3, cells := 0, slots := 0, locals := 72 }
abbrev rm_J13_bitCount_95d88 : Room := { frames := 0, cells := 0, slots := 0, locals := 0 }
abbrev rm_X5_countCommon : Room := { frames := 1, cells := 0, slots := 0, locals := 21 }
abbrev rm_X0_width : Room := { frames := 4, cells := 0, slots := 0, locals := 94 }
abbrev rm_X2_countCommon : Room := { frames := 2, cells := 0, slots := 0, locals := 42 }
abbrev rm_X5_has : Room := { frames := 0, cells := 0, slots := 0, locals := 0 }
abbrev rm_X5_remove : Room := { frames := 0, cells := 0, slots := 0, locals := 0 }
abbrev rm_X5_turn : Room := { frames := 1, cells := 0, slots := 0, locals := 23 }
abbrev rm_X2_turn : Room := { frames := 2, cells := 0, slots := 0, locals := 46 }
abbrev rm_X0_lowestBestOffset : Room := { frames := 3, cells := 0, slots := 0, locals := 67 }
abbrev rm_X0_improveOffset : Room := { frames := 4, cells := 0, slots := 0, locals := 94 }
abbrev rm_X0_improveOffsets : Room := { frames := 5, cells := 0, slots := 0, locals := 117 }
abbrev rm_J7_fill_53178 : Room := { frames := 0, cells := 0, slots := 0, locals := 0 }
abbrev rm_X4_reset : Room := { frames := 1, cells := 0, slots := 0, locals := 23 }
abbrev rm_X7_write : Room := { frames := 0, cells := 0, slots := 0, locals := 0 }
abbrev rm_X3_writeClearance : Room := { frames := 1, cells := 0, slots := 0, locals := 22 }
abbrev rm_X3_writeSets : Room := { frames := 1, cells := 0, slots := 0, locals := 22 }
abbrev rm_X3_clearanceOf : Room := { frames := 1, cells := 0, slots := 0, locals := 21 }
abbrev rm_X3_greatestClearance : Room := { frames := 2, cells := 0, slots := 0, locals := 43 }
abbrev rm_X3_leastGreen : Room := { frames := 1, cells := 0, slots := 0, locals := 21 }
abbrev rm_X3_weightOf : Room := { frames := 1, cells := 0, slots := 0, locals := 21 }
abbrev rm_X7_share : Room := { frames := 0, cells := 0, slots := 0, locals := 0 }
abbrev rm_X3_shareOut : Room := { frames := 2, cells := 0, slots := 0, locals := 44 }
abbrev rm_X3_drawLights : Room := { frames := 1, cells := 0, slots := 0, locals := 22 }
abbrev rm_X3_makePlan : Room := { frames := 3, cells := 0, slots := 0, locals := 69 }
abbrev rm_X3_reset : Room := { frames := 4, cells := 0, slots := 0, locals := 94 }
abbrev rm_X1_reset : Room := { frames := 5, cells := 0, slots := 0, locals := 115 }
abbrev rm_X1_isLast : Room := { frames := 0, cells := 0, slots := 0, locals := 0 }
abbrev rm_X1_linkFrom : Room := { frames := 1, cells := 0, slots := 0, locals := 21 }
abbrev rm_X1_vehiclesOnLinkFrom : Room := { frames := 2, cells := 0, slots := 0, locals := 43 }
abbrev rm_X1_isPlanned : Room := { frames := 1, cells := 0, slots := 0, locals := 21 }
abbrev rm_X3_changeClearance : Room := { frames := 4, cells := 0, slots := 0, locals := 94 }
abbrev rm_X3_changePhases : Room := { frames := 4, cells := 0, slots := 0, locals := 94 }
abbrev rm_X3_flowOf : Room := { frames := 1, cells := 0, slots := 0, locals := 21 }
abbrev rm_X3_changeFlow : Room := { frames := 4, cells := 0, slots := 0, locals := 94 }
abbrev rm_X3_haveOnePhase : Room := { frames := 1, cells := 0, slots := 0, locals := 21 }
abbrev rm_X3_hasConflictIn : Room := { frames := 3, cells := 0, slots := 0, locals := 68 }
abbrev rm_X3_isLit : Room := { frames := 2, cells := 0, slots := 0, locals := 45 }
abbrev rm_X3_isLitTooSoon : Room := { frames := 3, cells := 0, slots := 0, locals := 67 }
abbrev rm_X3_isBreached : Room := { frames := 4, cells := 0, slots := 0, locals := 91 }
abbrev rm_X3_countBreaches : Room := { frames := 5, cells := 0, slots := 0, locals := 114 }
abbrev rm_X3_placeInCycle : Room := { frames := 1, cells := 0, slots := 0, locals := 22 }
abbrev rm_X3_hasBusIn : Room := { frames := 0, cells := 0, slots := 0, locals := 0 }
abbrev rm_X3_changedGreen : Room := { frames := 1, cells := 0, slots := 0, locals := 21 }
abbrev rm_X3_phaseIn : Room := { frames := 2, cells := 0, slots := 0, locals := 43 }
abbrev rm_X3_lowestPhaseWith : Room := { frames := 1, cells := 0, slots := 0, locals := 21 }
abbrev rm_X3_spareGreen : Room := { frames := 2, cells := 0, slots := 0, locals := 42 }
abbrev rm_X3_secondsOfGreenBehind : Room := { frames := 2, cells := 0, slots := 0, locals := 43 }
abbrev rm_X3_takeBus : Room := { frames := 3, cells := 0, slots := 0, locals := 68 }
abbrev rm_X3_growReady : Room := { frames := 3, cells := 0, slots := 0, locals := 68 }
abbrev rm_X4_send : Room := { frames := 1, cells := 0, slots := 0, locals := 22 }
abbrev rm_X4_land : Room := { frames := 1, cells := 0, slots := 0, locals := 22 }
abbrev rm_X6_reset : Room := { frames := 0, cells := 0, slots := 0, locals := 0 }
abbrev rm_X6_letCome : Room := { frames := 2, cells := 0, slots := 0, locals := 42 }
abbrev rm_X6_hasRoomBehind : Room := { frames := 3, cells := 0, slots := 0, locals := 64 }
abbrev rm_X6_letLeave : Room := { frames := 2, cells := 0, slots := 0, locals := 44 }
abbrev rm_X6_passSecond : Room := { frames := 4, cells := 0, slots := 0, locals := 91 }
abbrev rm_X6_pass : Room := { frames := 5, cells := 0, slots := 0, locals := 113 }
abbrev rm_X7_junctions : Room := { frames := 0, cells := 0, slots := 0, locals := 0 }
abbrev rm_X7_clock : Room := { frames := 0, cells := 0, slots := 0, locals := 0 }
abbrev rm_X7_come : Room := { frames := 0, cells := 0, slots := 0, locals := 0 }
abbrev rm_X7_through : Room := { frames := 0, cells := 0, slots := 0, locals := 0 }
abbrev rm_X7_isOutside : Room := { frames := 0, cells := 0, slots := 0, locals := 0 }
abbrev rm_X7_hasPlan : Room := { frames := 1, cells := 0, slots := 0, locals := 21 }
abbrev rm_X7_checkPhase : Room := { frames := 0, cells := 0, slots := 0, locals := 0 }
abbrev rm_X7_clearing : Room := { frames := 1, cells := 0, slots := 0, locals := 21 }
abbrev rm_X7_offset : Room := { frames := 1, cells := 0, slots := 0, locals := 21 }
abbrev rm_X7_checkMovement : Room := { frames := 0, cells := 0, slots := 0, locals := 0 }
abbrev rm_X7_checkPlan : Room := { frames := 0, cells := 0, slots := 0, locals := 0 }
abbrev rm_X7_isGreen : Room := { frames := 3, cells := 0, slots := 0, locals := 67 }
abbrev rm_X7_breaches : Room := { frames := 6, cells := 0, slots := 0, locals := 136 }
abbrev rm_X7_queue : Room := { frames := 1, cells := 0, slots := 0, locals := 21 }
abbrev rm_X7_held : Room := { frames := 3, cells := 0, slots := 0, locals := 64 }
theorem r_vretR {own : String} {cc : ByteArray} {nL : Nat} {rm : Room} {X : MX} {w : WX} {S : Mem} {L : List (Nat × Value)} {pc : Nat} (h0 : CX own cc nL rm X w) (hE : EN none none S X w) (hdg : decode cc pc = .ok (.return_, 1)) (h : some () = some ()) : GV X w nL 0 0 S L pc [] := r_vret h0 hE hdg (by cases h; rfl)
