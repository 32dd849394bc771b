theorem v_190 : Cond.fieldLink RX1 18 RX1 "size" "I" ∈ GW := gw_of (i := 190) (by decide +kernel) (by decide +kernel)
theorem gf_X1_18 {cc : ByteArray} {nL : Nat} {rm : Room} {X : MX} {g : GC} {cn sn : Nat} {S : Mem} {L : List (Nat × Value)} {pc pc' : Nat} {st : List Value} (h0 : CX RX1 cc nL rm X (wC g)) (hk : 0 < 1) (hdg : decode cc pc = .ok (.getfield 18, 3)) (e : pc + 3 = pc') (kk : GV X (wC g) nL cn sn S L pc' (.int (S.1 1 0 1) :: st)) : GV X (wC g) nL cn sn S L pc (.ref (wA (wC g) 1 0) :: st) :=
  r_get (T := TX1) h0 hk rfl rfl inX1 1 (by decide) v_190 rfl rfl hdg e kk
theorem v_189 : Cond.fieldLink RX1 11 RX1 "all" "[LGreenwave$Junction;" ∈ GW := gw_of (i := 189) (by decide +kernel) (by decide +kernel)
theorem gf_X1_11 {cc : ByteArray} {nL : Nat} {rm : Room} {X : MX} {g : GC} {cn sn : Nat} {S : Mem} {L : List (Nat × Value)} {pc pc' : Nat} {st : List Value} (h0 : CX RX1 cc nL rm X (wC g)) (hk : 0 < 1) (hdg : decode cc pc = .ok (.getfield 11, 3)) (e : pc + 3 = pc') (kk : GV X (wC g) nL cn sn S L pc' (.ref (wA (wC g) 10 0) :: st)) : GV X (wC g) nL cn sn S L pc (.ref (wA (wC g) 1 0) :: st) :=
  r_get (T := TX1) h0 hk rfl rfl inX1 0 (by decide) v_189 rfl rfl hdg e kk
theorem v_287 : Cond.methodLink RX1 25 yX1_at ∈ GW := gw_of (i := 287) (by decide +kernel) (by decide +kernel)
theorem v_290 : Cond.code yX1_at cX1_at 2 (some (.object "Greenwave$Junction")) ∈ GW := gw_of (i := 290) (by decide +kernel) (by decide +kernel)
theorem v_61 : Cond.initialized RX1 ∈ GW := gw_of (i := 61) (by decide +kernel) (by decide +kernel)
theorem v_288 : Cond.instanceMethod yX1_at ∈ GW := gw_of (i := 288) (by decide +kernel) (by decide +kernel)
theorem v_289 : Cond.selects RX1 yX1_at yX1_at ∈ GW := gw_of (i := 289) (by decide +kernel) (by decide +kernel)
theorem k_X1_25 (g : GC) : gcV (wC g) RX1 25 1 yX1_at cX1_at 2 (some (.object "Greenwave$Junction")) 1 := mkV (ob_1 g) v_287 v_288 v_289 v_290 v_61 ⟨by decide +kernel, by decide +kernel, by decide +kernel⟩
theorem v_133 : Cond.fieldLinkNest RX1 46 RX3 "link" "LGreenwave$Link;" "Greenwave" ∈ NW := nw_of (i := 133) (by decide +kernel) (by decide +kernel)
theorem gf_X1_46 {cc : ByteArray} {nL : Nat} {rm : Room} {X : MX} {g : GC} {cn sn : Nat} {S : Mem} {L : List (Nat × Value)} {pc pc' : Nat} {st : List Value} {k : Nat} (h0 : CX RX1 cc nL rm X (wC g)) (hk : k < 5) (hdg : decode cc pc = .ok (.getfield 46, 3)) (e : pc + 3 = pc') (kk : GV X (wC g) nL cn sn S L pc' (.ref (wA (wC g) 4 k) :: st)) : GV X (wC g) nL cn sn S L pc (.ref (wA (wC g) 3 k) :: st) :=
  r_getN (T := TX3) h0 hk rfl rfl inX3 6 (by decide) v_133 rfl rfl hdg e kk
theorem v_108 : Cond.fieldLinkNest RX1 62 RX4 "seconds" "I" "Greenwave" ∈ NW := nw_of (i := 108) (by decide +kernel) (by decide +kernel)
theorem gf_X1_62 {cc : ByteArray} {nL : Nat} {rm : Room} {X : MX} {g : GC} {cn sn : Nat} {S : Mem} {L : List (Nat × Value)} {pc pc' : Nat} {st : List Value} {k : Nat} (h0 : CX RX1 cc nL rm X (wC g)) (hk : k < 5) (hdg : decode cc pc = .ok (.getfield 62, 3)) (e : pc + 3 = pc') (kk : GV X (wC g) nL cn sn S L pc' (.int (S.1 4 k 1) :: st)) : GV X (wC g) nL cn sn S L pc (.ref (wA (wC g) 4 k) :: st) :=
  r_getN (T := TX4) h0 hk rfl rfl inX4 1 (by decide) v_108 rfl rfl hdg e kk
theorem v_222 : Cond.fieldLink RX5 7 RX5 "low" "J" ∈ GW := gw_of (i := 222) (by decide +kernel) (by decide +kernel)
theorem pf_X5_7 {cc : ByteArray} {nL : Nat} {rm : Room} {X : MX} {g : GC} {cn sn : Nat} {S : Mem} {L : List (Nat × Value)} {pc pc' : Nat} {st : List Value} {k : Nat} {v : Int64} (h0 : CX RX5 cc nL rm X (wC g)) (hk : k < 8) (hdg : decode cc pc = .ok (.putfield 7, 3)) (e : pc + 3 = pc') (kk : GV X (wC g) nL cn sn (wL S 5 k 0 v) L pc' st) : GV X (wC g) nL cn sn S L pc (.long v :: .ref (wA (wC g) 5 k) :: st) :=
  r_put (S' := (wL S 5 k 0 v)) (T := TX5) h0 hk rfl rfl inX5 tyX5 tyX5_ok nmX5 0 (by decide) v_222 rfl rfl (rfl) rfl (Nat.le_of_ble_eq_true rfl) wL_off ((congrArg (fun z => wCe (wC g) (S.1 5 k) z 5 k) wL_on).trans rfl) hdg e kk
theorem v_223 : Cond.fieldLink RX5 13 RX5 "high" "J" ∈ GW := gw_of (i := 223) (by decide +kernel) (by decide +kernel)
theorem pf_X5_13 {cc : ByteArray} {nL : Nat} {rm : Room} {X : MX} {g : GC} {cn sn : Nat} {S : Mem} {L : List (Nat × Value)} {pc pc' : Nat} {st : List Value} {k : Nat} {v : Int64} (h0 : CX RX5 cc nL rm X (wC g)) (hk : k < 8) (hdg : decode cc pc = .ok (.putfield 13, 3)) (e : pc + 3 = pc') (kk : GV X (wC g) nL cn sn (wL S 5 k 1 v) L pc' st) : GV X (wC g) nL cn sn S L pc (.long v :: .ref (wA (wC g) 5 k) :: st) :=
  r_put (S' := (wL S 5 k 1 v)) (T := TX5) h0 hk rfl rfl inX5 tyX5 tyX5_ok nmX5 1 (by decide) v_223 rfl rfl (rfl) rfl (Nat.le_of_ble_eq_true rfl) wL_off ((congrArg (fun z => wCe (wC g) (S.1 5 k) z 5 k) wL_on).trans rfl) hdg e kk
theorem v_229 : Cond.fieldLink RX2 10 RX2 "forward" "LGreenwave$Seconds;" ∈ GW := gw_of (i := 229) (by decide +kernel) (by decide +kernel)
theorem gf_X2_10 {cc : ByteArray} {nL : Nat} {rm : Room} {X : MX} {g : GC} {cn sn : Nat} {S : Mem} {L : List (Nat × Value)} {pc pc' : Nat} {st : List Value} {k : Nat} (h0 : CX RX2 cc nL rm X (wC g)) (hk : k < 4) (hdg : decode cc pc = .ok (.getfield 10, 3)) (e : pc + 3 = pc') (kk : GV X (wC g) nL cn sn S L pc' (.ref (wA (wC g) 5 (2 * k)) :: st)) : GV X (wC g) nL cn sn S L pc (.ref (wA (wC g) 2 k) :: st) :=
  r_get (T := TX2) h0 hk rfl rfl inX2 0 (by decide) v_229 rfl rfl hdg e kk
theorem v_616 : Cond.methodLink RX2 19 yX5_clear ∈ GW := gw_of (i := 616) (by decide +kernel) (by decide +kernel)
theorem v_619 : Cond.code yX5_clear cX5_clear 1 none ∈ GW := gw_of (i := 619) (by decide +kernel) (by decide +kernel)
theorem v_66 : Cond.initialized RX5 ∈ GW := gw_of (i := 66) (by decide +kernel) (by decide +kernel)
theorem v_617 : Cond.instanceMethod yX5_clear ∈ GW := gw_of (i := 617) (by decide +kernel) (by decide +kernel)
theorem v_618 : Cond.selects RX5 yX5_clear yX5_clear ∈ GW := gw_of (i := 618) (by decide +kernel) (by decide +kernel)
theorem k_X2_19 (g : GC) : gcV (wC g) RX2 19 5 yX5_clear cX5_clear 1 none 0 := mkV (ob_5 g) v_616 v_617 v_618 v_619 v_66 ⟨by decide +kernel, by decide +kernel, by decide +kernel⟩
theorem v_231 : Cond.fieldLink RX2 16 RX2 "backward" "LGreenwave$Seconds;" ∈ GW := gw_of (i := 231) (by decide +kernel) (by decide +kernel)
theorem gf_X2_16 {cc : ByteArray} {nL : Nat} {rm : Room} {X : MX} {g : GC} {cn sn : Nat} {S : Mem} {L : List (Nat × Value)} {pc pc' : Nat} {st : List Value} {k : Nat} (h0 : CX RX2 cc nL rm X (wC g)) (hk : k < 4) (hdg : decode cc pc = .ok (.getfield 16, 3)) (e : pc + 3 = pc') (kk : GV X (wC g) nL cn sn S L pc' (.ref (wA (wC g) 5 (2 * k + 1)) :: st)) : GV X (wC g) nL cn sn S L pc (.ref (wA (wC g) 2 k) :: st) :=
  r_get (T := TX2) h0 hk rfl rfl inX2 1 (by decide) v_231 rfl rfl hdg e kk
theorem v_131 : Cond.fieldLink RX3 27 RX3 "lights" "[I" ∈ GW := gw_of (i := 131) (by decide +kernel) (by decide +kernel)
theorem gf_X3_27 {cc : ByteArray} {nL : Nat} {rm : Room} {X : MX} {g : GC} {cn sn : Nat} {S : Mem} {L : List (Nat × Value)} {pc pc' : Nat} {st : List Value} {k : Nat} (h0 : CX RX3 cc nL rm X (wC g)) (hk : k < 5) (hdg : decode cc pc = .ok (.getfield 27, 3)) (e : pc + 3 = pc') (kk : GV X (wC g) nL cn sn S L pc' (.ref (wA (wC g) 16 k) :: st)) : GV X (wC g) nL cn sn S L pc (.ref (wA (wC g) 3 k) :: st) :=
  r_get (T := TX3) h0 hk rfl rfl inX3 5 (by decide) v_131 rfl rfl hdg e kk
theorem v_137 : Cond.fieldLink RX3 37 RX3 "cycle" "I" ∈ GW := gw_of (i := 137) (by decide +kernel) (by decide +kernel)
theorem gf_X3_37 {cc : ByteArray} {nL : Nat} {rm : Room} {X : MX} {g : GC} {cn sn : Nat} {S : Mem} {L : List (Nat × Value)} {pc pc' : Nat} {st : List Value} {k : Nat} (h0 : CX RX3 cc nL rm X (wC g)) (hk : k < 5) (hdg : decode cc pc = .ok (.getfield 37, 3)) (e : pc + 3 = pc') (kk : GV X (wC g) nL cn sn S L pc' (.int (S.1 3 k 8) :: st)) : GV X (wC g) nL cn sn S L pc (.ref (wA (wC g) 3 k) :: st) :=
  r_get (T := TX3) h0 hk rfl rfl inX3 8 (by decide) v_137 rfl rfl hdg e kk
theorem v_640 : Cond.methodLinkNest RX3 134 yX7_modulo "Greenwave" ∈ NW := nw_of (i := 640) (by decide +kernel) (by decide +kernel)
theorem v_642 : Cond.code yX7_modulo cX7_modulo 3 (some .int) ∈ GW := gw_of (i := 642) (by decide +kernel) (by decide +kernel)
theorem v_60 : Cond.initialized RX7 ∈ GW := gw_of (i := 60) (by decide +kernel) (by decide +kernel)
theorem v_641 : Cond.static yX7_modulo ∈ GW := gw_of (i := 641) (by decide +kernel) (by decide +kernel)
theorem k_X3_134 (g : GC) : gcS (wC g) RX3 134 yX7_modulo cX7_modulo 3 (some .int) 2 := mkSN v_640 v_641 v_642 v_60 ⟨by decide +kernel, by decide +kernel, by decide +kernel⟩
theorem v_386 : Cond.methodLinkNest RX3 82 yX7_read "Greenwave" ∈ NW := nw_of (i := 386) (by decide +kernel) (by decide +kernel)
theorem v_388 : Cond.code yX7_read cX7_read 2 (some .int) ∈ GW := gw_of (i := 388) (by decide +kernel) (by decide +kernel)
theorem v_387 : Cond.static yX7_read ∈ GW := gw_of (i := 387) (by decide +kernel) (by decide +kernel)
theorem k_X3_82 (g : GC) : gcS (wC g) RX3 82 yX7_read cX7_read 2 (some .int) 2 := mkSN v_386 v_387 v_388 v_60 ⟨by decide +kernel, by decide +kernel, by decide +kernel⟩
theorem v_393 : Cond.methodLinkNest RX3 93 yX7_hasBit "Greenwave" ∈ NW := nw_of (i := 393) (by decide +kernel) (by decide +kernel)
theorem v_395 : Cond.code yX7_hasBit cX7_hasBit 2 (some .boolean) ∈ GW := gw_of (i := 395) (by decide +kernel) (by decide +kernel)
theorem v_394 : Cond.static yX7_hasBit ∈ GW := gw_of (i := 394) (by decide +kernel) (by decide +kernel)
theorem k_X3_93 (g : GC) : gcS (wC g) RX3 93 yX7_hasBit cX7_hasBit 2 (some .boolean) 2 := mkSN v_393 v_394 v_395 v_60 ⟨by decide +kernel, by decide +kernel, by decide +kernel⟩
theorem gf_X5_13 {cc : ByteArray} {nL : Nat} {rm : Room} {X : MX} {g : GC} {cn sn : Nat} {S : Mem} {L : List (Nat × Value)} {pc pc' : Nat} {st : List Value} {k : Nat} (h0 : CX RX5 cc nL rm X (wC g)) (hk : k < 8) (hdg : decode cc pc = .ok (.getfield 13, 3)) (e : pc + 3 = pc') (kk : GV X (wC g) nL cn sn S L pc' (.long (S.2 5 k 1) :: st)) : GV X (wC g) nL cn sn S L pc (.ref (wA (wC g) 5 k) :: st) :=
  r_get (T := TX5) h0 hk rfl rfl inX5 1 (by decide) v_223 rfl rfl hdg e kk
theorem gf_X5_7 {cc : ByteArray} {nL : Nat} {rm : Room} {X : MX} {g : GC} {cn sn : Nat} {S : Mem} {L : List (Nat × Value)} {pc pc' : Nat} {st : List Value} {k : Nat} (h0 : CX RX5 cc nL rm X (wC g)) (hk : k < 8) (hdg : decode cc pc = .ok (.getfield 7, 3)) (e : pc + 3 = pc') (kk : GV X (wC g) nL cn sn S L pc' (.long (S.2 5 k 0) :: st)) : GV X (wC g) nL cn sn S L pc (.ref (wA (wC g) 5 k) :: st) :=
  r_get (T := TX5) h0 hk rfl rfl inX5 0 (by decide) v_222 rfl rfl hdg e kk
theorem v_238 : Cond.fieldLink RX0 27 RX0 "corridor" "LGreenwave$Corridor;" ∈ GW := gw_of (i := 238) (by decide +kernel) (by decide +kernel)
theorem gf_X0_27 {cc : ByteArray} {nL : Nat} {rm : Room} {X : MX} {g : GC} {cn sn : Nat} {S : Mem} {L : List (Nat × Value)} {pc pc' : Nat} {st : List Value} (h0 : CX RX0 cc nL rm X (wC g)) (hk : 0 < 1) (hdg : decode cc pc = .ok (.getfield 27, 3)) (e : pc + 3 = pc') (kk : GV X (wC g) nL cn sn S L pc' (.ref (wA (wC g) 1 0) :: st)) : GV X (wC g) nL cn sn S L pc (.ref (wA (wC g) 0 0) :: st) :=
  r_get (T := TX0) h0 hk rfl rfl inX0 0 (by decide) v_238 rfl rfl hdg e kk
theorem v_607 : Cond.methodLink RX0 31 yX1_at ∈ GW := gw_of (i := 607) (by decide +kernel) (by decide +kernel)
theorem k_X0_31 (g : GC) : gcV (wC g) RX0 31 1 yX1_at cX1_at 2 (some (.object "Greenwave$Junction")) 1 := mkV (ob_1 g) v_607 v_288 v_289 v_290 v_61 ⟨by decide +kernel, by decide +kernel, by decide +kernel⟩
theorem v_632 : Cond.methodLink RX0 37 yX1_secondsBetween ∈ GW := gw_of (i := 632) (by decide +kernel) (by decide +kernel)
theorem v_635 : Cond.code yX1_secondsBetween cX1_secondsBetween 5 (some .int) ∈ GW := gw_of (i := 635) (by decide +kernel) (by decide +kernel)
theorem v_633 : Cond.instanceMethod yX1_secondsBetween ∈ GW := gw_of (i := 633) (by decide +kernel) (by decide +kernel)
theorem v_634 : Cond.selects RX1 yX1_secondsBetween yX1_secondsBetween ∈ GW := gw_of (i := 634) (by decide +kernel) (by decide +kernel)
theorem k_X0_37 (g : GC) : gcV (wC g) RX0 37 1 yX1_secondsBetween cX1_secondsBetween 5 (some .int) 2 := mkV (ob_1 g) v_632 v_633 v_634 v_635 v_61 ⟨by decide +kernel, by decide +kernel, by decide +kernel⟩
theorem v_191 : Cond.fieldLinkNest RX0 41 RX1 "size" "I" "Greenwave" ∈ NW := nw_of (i := 191) (by decide +kernel) (by decide +kernel)
theorem gf_X0_41 {cc : ByteArray} {nL : Nat} {rm : Room} {X : MX} {g : GC} {cn sn : Nat} {S : Mem} {L : List (Nat × Value)} {pc pc' : Nat} {st : List Value} (h0 : CX RX0 cc nL rm X (wC g)) (hk : 0 < 1) (hdg : decode cc pc = .ok (.getfield 41, 3)) (e : pc + 3 = pc') (kk : GV X (wC g) nL cn sn S L pc' (.int (S.1 1 0 1) :: st)) : GV X (wC g) nL cn sn S L pc (.ref (wA (wC g) 1 0) :: st) :=
  r_getN (T := TX1) h0 hk rfl rfl inX1 1 (by decide) v_191 rfl rfl hdg e kk
theorem v_612 : Cond.methodLink RX0 45 yX2_clear ∈ GW := gw_of (i := 612) (by decide +kernel) (by decide +kernel)
theorem v_615 : Cond.code yX2_clear cX2_clear 1 none ∈ GW := gw_of (i := 615) (by decide +kernel) (by decide +kernel)
theorem v_65 : Cond.initialized RX2 ∈ GW := gw_of (i := 65) (by decide +kernel) (by decide +kernel)
theorem v_613 : Cond.instanceMethod yX2_clear ∈ GW := gw_of (i := 613) (by decide +kernel) (by decide +kernel)
theorem v_614 : Cond.selects RX2 yX2_clear yX2_clear ∈ GW := gw_of (i := 614) (by decide +kernel) (by decide +kernel)
theorem k_X0_45 (g : GC) : gcV (wC g) RX0 45 2 yX2_clear cX2_clear 1 none 0 := mkV (ob_2 g) v_612 v_613 v_614 v_615 v_65 ⟨by decide +kernel, by decide +kernel, by decide +kernel⟩
theorem v_195 : Cond.fieldLinkNest RX0 48 RX1 "cycle" "I" "Greenwave" ∈ NW := nw_of (i := 195) (by decide +kernel) (by decide +kernel)
theorem gf_X0_48 {cc : ByteArray} {nL : Nat} {rm : Room} {X : MX} {g : GC} {cn sn : Nat} {S : Mem} {L : List (Nat × Value)} {pc pc' : Nat} {st : List Value} (h0 : CX RX0 cc nL rm X (wC g)) (hk : 0 < 1) (hdg : decode cc pc = .ok (.getfield 48, 3)) (e : pc + 3 = pc') (kk : GV X (wC g) nL cn sn S L pc' (.int (S.1 1 0 2) :: st)) : GV X (wC g) nL cn sn S L pc (.ref (wA (wC g) 1 0) :: st) :=
  r_getN (T := TX1) h0 hk rfl rfl inX1 2 (by decide) v_195 rfl rfl hdg e kk
theorem v_636 : Cond.methodLink RX0 51 yX3_isLitFrom ∈ GW := gw_of (i := 636) (by decide +kernel) (by decide +kernel)
theorem v_639 : Cond.code yX3_isLitFrom cX3_isLitFrom 4 (some .boolean) ∈ GW := gw_of (i := 639) (by decide +kernel) (by decide +kernel)
theorem v_62 : Cond.initialized RX3 ∈ GW := gw_of (i := 62) (by decide +kernel) (by decide +kernel)
theorem v_637 : Cond.instanceMethod yX3_isLitFrom ∈ GW := gw_of (i := 637) (by decide +kernel) (by decide +kernel)
theorem v_638 : Cond.selects RX3 yX3_isLitFrom yX3_isLitFrom ∈ GW := gw_of (i := 638) (by decide +kernel) (by decide +kernel)
theorem k_X0_51 (g : GC) : gcV (wC g) RX0 51 3 yX3_isLitFrom cX3_isLitFrom 4 (some .boolean) 3 := mkV (ob_3 g) v_636 v_637 v_638 v_639 v_62 ⟨by decide +kernel, by decide +kernel, by decide +kernel⟩
theorem v_230 : Cond.fieldLinkNest RX0 57 RX2 "forward" "LGreenwave$Seconds;" "Greenwave" ∈ NW := nw_of (i := 230) (by decide +kernel) (by decide +kernel)
theorem gf_X0_57 {cc : ByteArray} {nL : Nat} {rm : Room} {X : MX} {g : GC} {cn sn : Nat} {S : Mem} {L : List (Nat × Value)} {pc pc' : Nat} {st : List Value} {k : Nat} (h0 : CX RX0 cc nL rm X (wC g)) (hk : k < 4) (hdg : decode cc pc = .ok (.getfield 57, 3)) (e : pc + 3 = pc') (kk : GV X (wC g) nL cn sn S L pc' (.ref (wA (wC g) 5 (2 * k)) :: st)) : GV X (wC g) nL cn sn S L pc (.ref (wA (wC g) 2 k) :: st) :=
  r_getN (T := TX2) h0 hk rfl rfl inX2 0 (by decide) v_230 rfl rfl hdg e kk
theorem v_643 : Cond.methodLink RX0 61 yX5_add ∈ GW := gw_of (i := 643) (by decide +kernel) (by decide +kernel)
theorem v_627 : Cond.code yX5_add cX5_add 2 none ∈ GW := gw_of (i := 627) (by decide +kernel) (by decide +kernel)
theorem v_625 : Cond.instanceMethod yX5_add ∈ GW := gw_of (i := 625) (by decide +kernel) (by decide +kernel)
theorem v_626 : Cond.selects RX5 yX5_add yX5_add ∈ GW := gw_of (i := 626) (by decide +kernel) (by decide +kernel)
theorem k_X0_61 (g : GC) : gcV (wC g) RX0 61 5 yX5_add cX5_add 2 none 1 := mkV (ob_5 g) v_643 v_625 v_626 v_627 v_66 ⟨by decide +kernel, by decide +kernel, by decide +kernel⟩
theorem v_232 : Cond.fieldLinkNest RX0 67 RX2 "backward" "LGreenwave$Seconds;" "Greenwave" ∈ NW := nw_of (i := 232) (by decide +kernel) (by decide +kernel)
theorem gf_X0_67 {cc : ByteArray} {nL : Nat} {rm : Room} {X : MX} {g : GC} {cn sn : Nat} {S : Mem} {L : List (Nat × Value)} {pc pc' : Nat} {st : List Value} {k : Nat} (h0 : CX RX0 cc nL rm X (wC g)) (hk : k < 4) (hdg : decode cc pc = .ok (.getfield 67, 3)) (e : pc + 3 = pc') (kk : GV X (wC g) nL cn sn S L pc' (.ref (wA (wC g) 5 (2 * k + 1)) :: st)) : GV X (wC g) nL cn sn S L pc (.ref (wA (wC g) 2 k) :: st) :=
  r_getN (T := TX2) h0 hk rfl rfl inX2 1 (by decide) v_232 rfl rfl hdg e kk
theorem v_624 : Cond.methodLink RX2 22 yX5_add ∈ GW := gw_of (i := 624) (by decide +kernel) (by decide +kernel)
theorem k_X2_22 (g : GC) : gcV (wC g) RX2 22 5 yX5_add cX5_add 2 none 1 := mkV (ob_5 g) v_624 v_625 v_626 v_627 v_66 ⟨by decide +kernel, by decide +kernel, by decide +kernel⟩
theorem v_648 : Cond.methodLink RX2 26 yX5_becomeCommon ∈ GW := gw_of (i := 648) (by decide +kernel) (by decide +kernel)
theorem v_651 : Cond.code yX5_becomeCommon cX5_becomeCommon 3 none ∈ GW := gw_of (i := 651) (by decide +kernel) (by decide +kernel)
theorem v_649 : Cond.instanceMethod yX5_becomeCommon ∈ GW := gw_of (i := 649) (by decide +kernel) (by decide +kernel)
theorem v_650 : Cond.selects RX5 yX5_becomeCommon yX5_becomeCommon ∈ GW := gw_of (i := 650) (by decide +kernel) (by decide +kernel)
theorem k_X2_26 (g : GC) : gcV (wC g) RX2 26 5 yX5_becomeCommon cX5_becomeCommon 3 none 2 := mkV (ob_5 g) v_648 v_649 v_650 v_651 v_66 ⟨by decide +kernel, by decide +kernel, by decide +kernel⟩
theorem v_239 : Cond.fieldLink RX0 12 RX0 "common" "LGreenwave$FreeSeconds;" ∈ GW := gw_of (i := 239) (by decide +kernel) (by decide +kernel)
theorem gf_X0_12 {cc : ByteArray} {nL : Nat} {rm : Room} {X : MX} {g : GC} {cn sn : Nat} {S : Mem} {L : List (Nat × Value)} {pc pc' : Nat} {st : List Value} (h0 : CX RX0 cc nL rm X (wC g)) (hk : 0 < 1) (hdg : decode cc pc = .ok (.getfield 12, 3)) (e : pc + 3 = pc') (kk : GV X (wC g) nL cn sn S L pc' (.ref (wA (wC g) 2 0) :: st)) : GV X (wC g) nL cn sn S L pc (.ref (wA (wC g) 0 0) :: st) :=
  r_get (T := TX0) h0 hk rfl rfl inX0 1 (by decide) v_239 rfl rfl hdg e kk
theorem v_620 : Cond.methodLink RX0 70 yX2_addAll ∈ GW := gw_of (i := 620) (by decide +kernel) (by decide +kernel)
theorem v_623 : Cond.code yX2_addAll cX2_addAll 3 none ∈ GW := gw_of (i := 623) (by decide +kernel) (by decide +kernel)
theorem v_621 : Cond.instanceMethod yX2_addAll ∈ GW := gw_of (i := 621) (by decide +kernel) (by decide +kernel)
theorem v_622 : Cond.selects RX2 yX2_addAll yX2_addAll ∈ GW := gw_of (i := 622) (by decide +kernel) (by decide +kernel)
theorem k_X0_70 (g : GC) : gcV (wC g) RX0 70 2 yX2_addAll cX2_addAll 3 none 1 := mkV (ob_2 g) v_620 v_621 v_622 v_623 v_65 ⟨by decide +kernel, by decide +kernel, by decide +kernel⟩
theorem v_139 : Cond.fieldLinkNest RX0 73 RX3 "start" "I" "Greenwave" ∈ NW := nw_of (i := 139) (by decide +kernel) (by decide +kernel)
theorem gf_X0_73 {cc : ByteArray} {nL : Nat} {rm : Room} {X : MX} {g : GC} {cn sn : Nat} {S : Mem} {L : List (Nat × Value)} {pc pc' : Nat} {st : List Value} {k : Nat} (h0 : CX RX0 cc nL rm X (wC g)) (hk : k < 5) (hdg : decode cc pc = .ok (.getfield 73, 3)) (e : pc + 3 = pc') (kk : GV X (wC g) nL cn sn S L pc' (.int (S.1 3 k 9) :: st)) : GV X (wC g) nL cn sn S L pc (.ref (wA (wC g) 3 k) :: st) :=
  r_getN (T := TX3) h0 hk rfl rfl inX3 9 (by decide) v_139 rfl rfl hdg e kk
theorem v_240 : Cond.fieldLink RX0 18 RX0 "single" "LGreenwave$FreeSeconds;" ∈ GW := gw_of (i := 240) (by decide +kernel) (by decide +kernel)
theorem gf_X0_18 {cc : ByteArray} {nL : Nat} {rm : Room} {X : MX} {g : GC} {cn sn : Nat} {S : Mem} {L : List (Nat × Value)} {pc pc' : Nat} {st : List Value} (h0 : CX RX0 cc nL rm X (wC g)) (hk : 0 < 1) (hdg : decode cc pc = .ok (.getfield 18, 3)) (e : pc + 3 = pc') (kk : GV X (wC g) nL cn sn S L pc' (.ref (wA (wC g) 2 1) :: st)) : GV X (wC g) nL cn sn S L pc (.ref (wA (wC g) 0 0) :: st) :=
  r_get (T := TX0) h0 hk rfl rfl inX0 2 (by decide) v_240 rfl rfl hdg e kk
theorem v_628 : Cond.methodLink RX0 76 yX0_fillFrom ∈ GW := gw_of (i := 628) (by decide +kernel) (by decide +kernel)
theorem v_631 : Cond.code yX0_fillFrom cX0_fillFrom 8 none ∈ GW := gw_of (i := 631) (by decide +kernel) (by decide +kernel)
theorem v_64 : Cond.initialized RX0 ∈ GW := gw_of (i := 64) (by decide +kernel) (by decide +kernel)
theorem v_630 : Cond.instanceMethod yX0_fillFrom ∈ GW := gw_of (i := 630) (by decide +kernel) (by decide +kernel)
theorem v_13 : Cond.selects RX0 yX0_fillFrom yX0_fillFrom ∈ GW := gw_of (i := 13) (by decide +kernel) (by decide +kernel)
theorem k_X0_76 (g : GC) : gcV (wC g) RX0 76 0 yX0_fillFrom cX0_fillFrom 8 none 3 := mkV (ob_0 g) v_628 v_630 v_13 v_631 v_64 ⟨by decide +kernel, by decide +kernel, by decide +kernel⟩
theorem v_644 : Cond.methodLink RX0 80 yX2_becomeCommon ∈ GW := gw_of (i := 644) (by decide +kernel) (by decide +kernel)
theorem v_647 : Cond.code yX2_becomeCommon cX2_becomeCommon 3 none ∈ GW := gw_of (i := 647) (by decide +kernel) (by decide +kernel)
theorem v_645 : Cond.instanceMethod yX2_becomeCommon ∈ GW := gw_of (i := 645) (by decide +kernel) (by decide +kernel)
theorem v_646 : Cond.selects RX2 yX2_becomeCommon yX2_becomeCommon ∈ GW := gw_of (i := 646) (by decide +kernel) (by decide +kernel)
theorem k_X0_80 (g : GC) : gcV (wC g) RX0 80 2 yX2_becomeCommon cX2_becomeCommon 3 none 2 := mkV (ob_2 g) v_644 v_645 v_646 v_647 v_65 ⟨by decide +kernel, by decide +kernel, by decide +kernel⟩
theorem v_667 : Cond.constantLong RJ13 314 6148914691236517205 ∈ GW := gw_of (i := 667) (by decide +kernel) (by decide +kernel)
theorem v_668 : Cond.constantLong RJ13 316 3689348814741910323 ∈ GW := gw_of (i := 668) (by decide +kernel) (by decide +kernel)
theorem v_669 : Cond.constantLong RJ13 318 1085102592571150095 ∈ GW := gw_of (i := 669) (by decide +kernel) (by decide +kernel)
theorem v_664 : Cond.methodLink RX5 18 yJ13_bitCount_95d88 ∈ GW := gw_of (i := 664) (by decide +kernel) (by decide +kernel)
theorem v_666 : Cond.code yJ13_bitCount_95d88 cJ13_bitCount_95d88 2 (some .int) ∈ GW := gw_of (i := 666) (by decide +kernel) (by decide +kernel)
theorem v_77 : Cond.initialized RJ13 ∈ GW := gw_of (i := 77) (by decide +kernel) (by decide +kernel)
theorem v_665 : Cond.static yJ13_bitCount_95d88 ∈ GW := gw_of (i := 665) (by decide +kernel) (by decide +kernel)
theorem k_X5_18 (g : GC) : gcS (wC g) RX5 18 yJ13_bitCount_95d88 cJ13_bitCount_95d88 2 (some .int) 1 := mkS v_664 v_665 v_666 v_77 ⟨by decide +kernel, by decide +kernel, by decide +kernel⟩
theorem v_608 : Cond.methodLink RX0 84 yX0_fillCommon ∈ GW := gw_of (i := 608) (by decide +kernel) (by decide +kernel)
theorem v_611 : Cond.code yX0_fillCommon cX0_fillCommon 3 none ∈ GW := gw_of (i := 611) (by decide +kernel) (by decide +kernel)
theorem v_610 : Cond.instanceMethod yX0_fillCommon ∈ GW := gw_of (i := 610) (by decide +kernel) (by decide +kernel)
theorem v_12 : Cond.selects RX0 yX0_fillCommon yX0_fillCommon ∈ GW := gw_of (i := 12) (by decide +kernel) (by decide +kernel)
theorem k_X0_84 (g : GC) : gcV (wC g) RX0 84 0 yX0_fillCommon cX0_fillCommon 3 none 1 := mkV (ob_0 g) v_608 v_610 v_12 v_611 v_64 ⟨by decide +kernel, by decide +kernel, by decide +kernel⟩
theorem v_769 : Cond.methodLink RX0 87 yX5_countCommon ∈ GW := gw_of (i := 769) (by decide +kernel) (by decide +kernel)
theorem v_663 : Cond.code yX5_countCommon cX5_countCommon 2 (some .int) ∈ GW := gw_of (i := 663) (by decide +kernel) (by decide +kernel)
theorem v_661 : Cond.instanceMethod yX5_countCommon ∈ GW := gw_of (i := 661) (by decide +kernel) (by decide +kernel)
theorem v_662 : Cond.selects RX5 yX5_countCommon yX5_countCommon ∈ GW := gw_of (i := 662) (by decide +kernel) (by decide +kernel)
theorem k_X0_87 (g : GC) : gcV (wC g) RX0 87 5 yX5_countCommon cX5_countCommon 2 (some .int) 1 := mkV (ob_5 g) v_769 v_661 v_662 v_663 v_66 ⟨by decide +kernel, by decide +kernel, by decide +kernel⟩
theorem v_660 : Cond.methodLink RX2 30 yX5_countCommon ∈ GW := gw_of (i := 660) (by decide +kernel) (by decide +kernel)
theorem k_X2_30 (g : GC) : gcV (wC g) RX2 30 5 yX5_countCommon cX5_countCommon 2 (some .int) 1 := mkV (ob_5 g) v_660 v_661 v_662 v_663 v_66 ⟨by decide +kernel, by decide +kernel, by decide +kernel⟩
theorem v_686 : Cond.constantLong RX5 16 (-1) ∈ GW := gw_of (i := 686) (by decide +kernel) (by decide +kernel)
theorem v_678 : Cond.methodLink RX5 24 yX5_has ∈ GW := gw_of (i := 678) (by decide +kernel) (by decide +kernel)
theorem v_681 : Cond.code yX5_has cX5_has 4 (some .boolean) ∈ GW := gw_of (i := 681) (by decide +kernel) (by decide +kernel)
theorem v_680 : Cond.instanceMethod yX5_has ∈ GW := gw_of (i := 680) (by decide +kernel) (by decide +kernel)
theorem v_15 : Cond.selects RX5 yX5_has yX5_has ∈ GW := gw_of (i := 15) (by decide +kernel) (by decide +kernel)
theorem k_X5_24 (g : GC) : gcV (wC g) RX5 24 5 yX5_has cX5_has 4 (some .boolean) 1 := mkV (ob_5 g) v_678 v_680 v_15 v_681 v_66 ⟨by decide +kernel, by decide +kernel, by decide +kernel⟩
theorem v_682 : Cond.methodLink RX5 28 yX5_remove ∈ GW := gw_of (i := 682) (by decide +kernel) (by decide +kernel)
theorem v_685 : Cond.code yX5_remove cX5_remove 2 none ∈ GW := gw_of (i := 685) (by decide +kernel) (by decide +kernel)
theorem v_684 : Cond.instanceMethod yX5_remove ∈ GW := gw_of (i := 684) (by decide +kernel) (by decide +kernel)
theorem v_16 : Cond.selects RX5 yX5_remove yX5_remove ∈ GW := gw_of (i := 16) (by decide +kernel) (by decide +kernel)
theorem k_X5_28 (g : GC) : gcV (wC g) RX5 28 5 yX5_remove cX5_remove 2 none 1 := mkV (ob_5 g) v_682 v_684 v_16 v_685 v_66 ⟨by decide +kernel, by decide +kernel, by decide +kernel⟩
theorem v_674 : Cond.methodLink RX2 34 yX5_turn ∈ GW := gw_of (i := 674) (by decide +kernel) (by decide +kernel)
theorem v_677 : Cond.code yX5_turn cX5_turn 4 none ∈ GW := gw_of (i := 677) (by decide +kernel) (by decide +kernel)
theorem v_675 : Cond.instanceMethod yX5_turn ∈ GW := gw_of (i := 675) (by decide +kernel) (by decide +kernel)
theorem v_676 : Cond.selects RX5 yX5_turn yX5_turn ∈ GW := gw_of (i := 676) (by decide +kernel) (by decide +kernel)
theorem k_X2_34 (g : GC) : gcV (wC g) RX2 34 5 yX5_turn cX5_turn 4 none 1 := mkV (ob_5 g) v_674 v_675 v_676 v_677 v_66 ⟨by decide +kernel, by decide +kernel, by decide +kernel⟩
theorem v_656 : Cond.methodLink RX0 95 yX2_countCommon ∈ GW := gw_of (i := 656) (by decide +kernel) (by decide +kernel)
theorem v_659 : Cond.code yX2_countCommon cX2_countCommon 2 (some .int) ∈ GW := gw_of (i := 659) (by decide +kernel) (by decide +kernel)
theorem v_657 : Cond.instanceMethod yX2_countCommon ∈ GW := gw_of (i := 657) (by decide +kernel) (by decide +kernel)
theorem v_658 : Cond.selects RX2 yX2_countCommon yX2_countCommon ∈ GW := gw_of (i := 658) (by decide +kernel) (by decide +kernel)
theorem k_X0_95 (g : GC) : gcV (wC g) RX0 95 2 yX2_countCommon cX2_countCommon 2 (some .int) 1 := mkV (ob_2 g) v_656 v_657 v_658 v_659 v_65 ⟨by decide +kernel, by decide +kernel, by decide +kernel⟩
theorem v_670 : Cond.methodLink RX0 102 yX2_turn ∈ GW := gw_of (i := 670) (by decide +kernel) (by decide +kernel)
theorem v_673 : Cond.code yX2_turn cX2_turn 2 none ∈ GW := gw_of (i := 673) (by decide +kernel) (by decide +kernel)
theorem v_671 : Cond.instanceMethod yX2_turn ∈ GW := gw_of (i := 671) (by decide +kernel) (by decide +kernel)
theorem v_672 : Cond.selects RX2 yX2_turn yX2_turn ∈ GW := gw_of (i := 672) (by decide +kernel) (by decide +kernel)
theorem k_X0_102 (g : GC) : gcV (wC g) RX0 102 2 yX2_turn cX2_turn 2 none 1 := mkV (ob_2 g) v_670 v_671 v_672 v_673 v_65 ⟨by decide +kernel, by decide +kernel, by decide +kernel⟩
theorem v_652 : Cond.methodLink RX0 98 yX0_lowestBestOffset ∈ GW := gw_of (i := 652) (by decide +kernel) (by decide +kernel)
theorem v_655 : Cond.code yX0_lowestBestOffset cX0_lowestBestOffset 5 (some .int) ∈ GW := gw_of (i := 655) (by decide +kernel) (by decide +kernel)
theorem v_654 : Cond.instanceMethod yX0_lowestBestOffset ∈ GW := gw_of (i := 654) (by decide +kernel) (by decide +kernel)
theorem v_14 : Cond.selects RX0 yX0_lowestBestOffset yX0_lowestBestOffset ∈ GW := gw_of (i := 14) (by decide +kernel) (by decide +kernel)
theorem k_X0_98 (g : GC) : gcV (wC g) RX0 98 0 yX0_lowestBestOffset cX0_lowestBestOffset 5 (some .int) 0 := mkV (ob_0 g) v_652 v_654 v_14 v_655 v_64 ⟨by decide +kernel, by decide +kernel, by decide +kernel⟩
theorem pf_X0_73 {cc : ByteArray} {nL : Nat} {rm : Room} {X : MX} {g : GC} {cn sn : Nat} {S : Mem} {L : List (Nat × Value)} {pc pc' : Nat} {st : List Value} {k : Nat} {v : Int32} (h0 : CX RX0 cc nL rm X (wC g)) (hk : k < 5) (hdg : decode cc pc = .ok (.putfield 73, 3)) (e : pc + 3 = pc') (kk : GV X (wC g) nL cn sn (wI S 3 k 9 v) L pc' st) : GV X (wC g) nL cn sn S L pc (.int v :: .ref (wA (wC g) 3 k) :: st) :=
  r_putN (S' := (wI S 3 k 9 v)) (T := TX3) h0 hk rfl rfl inX3 tyX3 tyX3_ok nmX3 9 (by decide) v_139 rfl rfl (rfl) rfl (Nat.le_of_ble_eq_true rfl) wI_off ((congrArg (fun z => wCe (wC g) z (S.2 3 k) 3 k) wI_on).trans rfl) hdg e kk
theorem v_603 : Cond.methodLink RX0 91 yX0_improveOffset ∈ GW := gw_of (i := 603) (by decide +kernel) (by decide +kernel)
theorem v_606 : Cond.code yX0_improveOffset cX0_improveOffset 4 (some .boolean) ∈ GW := gw_of (i := 606) (by decide +kernel) (by decide +kernel)
theorem v_605 : Cond.instanceMethod yX0_improveOffset ∈ GW := gw_of (i := 605) (by decide +kernel) (by decide +kernel)
theorem v_11 : Cond.selects RX0 yX0_improveOffset yX0_improveOffset ∈ GW := gw_of (i := 11) (by decide +kernel) (by decide +kernel)
theorem k_X0_91 (g : GC) : gcV (wC g) RX0 91 0 yX0_improveOffset cX0_improveOffset 4 (some .boolean) 1 := mkV (ob_0 g) v_603 v_605 v_11 v_606 v_64 ⟨by decide +kernel, by decide +kernel, by decide +kernel⟩
theorem v_786 : Cond.methodLink RX0 105 Lib.Math.max.name ∈ GW := gw_of (i := 786) (by decide +kernel) (by decide +kernel)
theorem v_401 : Cond.static Lib.Math.max.name ∈ GW := gw_of (i := 401) (by decide +kernel) (by decide +kernel)
theorem v_73 : Cond.initialized "java/lang/Math" ∈ GW := gw_of (i := 73) (by decide +kernel) (by decide +kernel)
theorem v_402 : Cond.code Lib.Math.max.name Lib.Math.max.code 2 (some .int) ∈ GW := gw_of (i := 402) (by decide +kernel) (by decide +kernel)
theorem v_242 : Cond.fieldLink RX0 24 RX0 "third" "LGreenwave$FreeSeconds;" ∈ GW := gw_of (i := 242) (by decide +kernel) (by decide +kernel)
theorem gf_X0_24 {cc : ByteArray} {nL : Nat} {rm : Room} {X : MX} {g : GC} {cn sn : Nat} {S : Mem} {L : List (Nat × Value)} {pc pc' : Nat} {st : List Value} (h0 : CX RX0 cc nL rm X (wC g)) (hk : 0 < 1) (hdg : decode cc pc = .ok (.getfield 24, 3)) (e : pc + 3 = pc') (kk : GV X (wC g) nL cn sn S L pc' (.ref (wA (wC g) 2 3) :: st)) : GV X (wC g) nL cn sn S L pc (.ref (wA (wC g) 0 0) :: st) :=
  r_get (T := TX0) h0 hk rfl rfl inX0 4 (by decide) v_242 rfl rfl hdg e kk
theorem v_782 : Cond.methodLink RX0 110 yX0_greatestOverOffsets ∈ GW := gw_of (i := 782) (by decide +kernel) (by decide +kernel)
theorem v_785 : Cond.code yX0_greatestOverOffsets cX0_greatestOverOffsets 5 (some .int) ∈ GW := gw_of (i := 785) (by decide +kernel) (by decide +kernel)
theorem v_784 : Cond.instanceMethod yX0_greatestOverOffsets ∈ GW := gw_of (i := 784) (by decide +kernel) (by decide +kernel)
theorem v_19 : Cond.selects RX0 yX0_greatestOverOffsets yX0_greatestOverOffsets ∈ GW := gw_of (i := 19) (by decide +kernel) (by decide +kernel)
theorem k_X0_110 (g : GC) : gcV (wC g) RX0 110 0 yX0_greatestOverOffsets cX0_greatestOverOffsets 5 (some .int) 2 := mkV (ob_0 g) v_782 v_784 v_19 v_785 v_64 ⟨by decide +kernel, by decide +kernel, by decide +kernel⟩
theorem v_241 : Cond.fieldLink RX0 21 RX0 "pair" "LGreenwave$FreeSeconds;" ∈ GW := gw_of (i := 241) (by decide +kernel) (by decide +kernel)
theorem gf_X0_21 {cc : ByteArray} {nL : Nat} {rm : Room} {X : MX} {g : GC} {cn sn : Nat} {S : Mem} {L : List (Nat × Value)} {pc pc' : Nat} {st : List Value} (h0 : CX RX0 cc nL rm X (wC g)) (hk : 0 < 1) (hdg : decode cc pc = .ok (.getfield 21, 3)) (e : pc + 3 = pc') (kk : GV X (wC g) nL cn sn S L pc' (.ref (wA (wC g) 2 2) :: st)) : GV X (wC g) nL cn sn S L pc (.ref (wA (wC g) 0 0) :: st) :=
  r_get (T := TX0) h0 hk rfl rfl inX0 3 (by decide) v_241 rfl rfl hdg e kk
theorem v_106 : Cond.fieldLink RX4 15 RX4 "seconds" "I" ∈ GW := gw_of (i := 106) (by decide +kernel) (by decide +kernel)
theorem pf_X4_15 {cc : ByteArray} {nL : Nat} {rm : Room} {X : MX} {g : GC} {cn sn : Nat} {S : Mem} {L : List (Nat × Value)} {pc pc' : Nat} {st : List Value} {k : Nat} {v : Int32} (h0 : CX RX4 cc nL rm X (wC g)) (hk : k < 5) (hdg : decode cc pc = .ok (.putfield 15, 3)) (e : pc + 3 = pc') (kk : GV X (wC g) nL cn sn (wI S 4 k 1 v) L pc' st) : GV X (wC g) nL cn sn S L pc (.int v :: .ref (wA (wC g) 4 k) :: st) :=
  r_put (S' := (wI S 4 k 1 v)) (T := TX4) h0 hk rfl rfl inX4 tyX4 tyX4_ok nmX4 1 (by decide) v_106 rfl rfl (rfl) rfl (Nat.le_of_ble_eq_true rfl) wI_off ((congrArg (fun z => wCe (wC g) z (S.2 4 k) 4 k) wI_on).trans rfl) hdg e kk
theorem v_109 : Cond.fieldLink RX4 19 RX4 "room" "I" ∈ GW := gw_of (i := 109) (by decide +kernel) (by decide +kernel)
theorem pf_X4_19 {cc : ByteArray} {nL : Nat} {rm : Room} {X : MX} {g : GC} {cn sn : Nat} {S : Mem} {L : List (Nat × Value)} {pc pc' : Nat} {st : List Value} {k : Nat} {v : Int32} (h0 : CX RX4 cc nL rm X (wC g)) (hk : k < 5) (hdg : decode cc pc = .ok (.putfield 19, 3)) (e : pc + 3 = pc') (kk : GV X (wC g) nL cn sn (wI S 4 k 2 v) L pc' st) : GV X (wC g) nL cn sn S L pc (.int v :: .ref (wA (wC g) 4 k) :: st) :=
  r_put (S' := (wI S 4 k 2 v)) (T := TX4) h0 hk rfl rfl inX4 tyX4 tyX4_ok nmX4 2 (by decide) v_109 rfl rfl (rfl) rfl (Nat.le_of_ble_eq_true rfl) wI_off ((congrArg (fun z => wCe (wC g) z (S.2 4 k) 4 k) wI_on).trans rfl) hdg e kk
theorem v_112 : Cond.fieldLink RX4 22 RX4 "moving" "I" ∈ GW := gw_of (i := 112) (by decide +kernel) (by decide +kernel)
theorem pf_X4_22 {cc : ByteArray} {nL : Nat} {rm : Room} {X : MX} {g : GC} {cn sn : Nat} {S : Mem} {L : List (Nat × Value)} {pc pc' : Nat} {st : List Value} {k : Nat} {v : Int32} (h0 : CX RX4 cc nL rm X (wC g)) (hk : k < 5) (hdg : decode cc pc = .ok (.putfield 22, 3)) (e : pc + 3 = pc') (kk : GV X (wC g) nL cn sn (wI S 4 k 3 v) L pc' st) : GV X (wC g) nL cn sn S L pc (.int v :: .ref (wA (wC g) 4 k) :: st) :=
  r_put (S' := (wI S 4 k 3 v)) (T := TX4) h0 hk rfl rfl inX4 tyX4 tyX4_ok nmX4 3 (by decide) v_112 rfl rfl (rfl) rfl (Nat.le_of_ble_eq_true rfl) wI_off ((congrArg (fun z => wCe (wC g) z (S.2 4 k) 4 k) wI_on).trans rfl) hdg e kk
theorem v_105 : Cond.fieldLink RX4 11 RX4 "due" "[I" ∈ GW := gw_of (i := 105) (by decide +kernel) (by decide +kernel)
theorem gf_X4_11 {cc : ByteArray} {nL : Nat} {rm : Room} {X : MX} {g : GC} {cn sn : Nat} {S : Mem} {L : List (Nat × Value)} {pc pc' : Nat} {st : List Value} {k : Nat} (h0 : CX RX4 cc nL rm X (wC g)) (hk : k < 5) (hdg : decode cc pc = .ok (.getfield 11, 3)) (e : pc + 3 = pc') (kk : GV X (wC g) nL cn sn S L pc' (.ref (wA (wC g) 17 k) :: st)) : GV X (wC g) nL cn sn S L pc (.ref (wA (wC g) 4 k) :: st) :=
  r_get (T := TX4) h0 hk rfl rfl inX4 0 (by decide) v_105 rfl rfl hdg e kk
theorem v_367 : Cond.methodLink RX4 25 yJ7_fill_53178 ∈ GW := gw_of (i := 367) (by decide +kernel) (by decide +kernel)
theorem v_369 : Cond.code yJ7_fill_53178 cJ7_fill_53178 4 none ∈ GW := gw_of (i := 369) (by decide +kernel) (by decide +kernel)
theorem v_72 : Cond.initialized RJ7 ∈ GW := gw_of (i := 72) (by decide +kernel) (by decide +kernel)
theorem v_368 : Cond.static yJ7_fill_53178 ∈ GW := gw_of (i := 368) (by decide +kernel) (by decide +kernel)
theorem k_X4_25 (g : GC) : gcS (wC g) RX4 25 yJ7_fill_53178 cJ7_fill_53178 4 none 2 := mkS v_367 v_368 v_369 v_72 ⟨by decide +kernel, by decide +kernel, by decide +kernel⟩
theorem v_124 : Cond.fieldLink RX3 9 RX3 "clearances" "[I" ∈ GW := gw_of (i := 124) (by decide +kernel) (by decide +kernel)
theorem gf_X3_9 {cc : ByteArray} {nL : Nat} {rm : Room} {X : MX} {g : GC} {cn sn : Nat} {S : Mem} {L : List (Nat × Value)} {pc pc' : Nat} {st : List Value} {k : Nat} (h0 : CX RX3 cc nL rm X (wC g)) (hk : k < 5) (hdg : decode cc pc = .ok (.getfield 9, 3)) (e : pc + 3 = pc') (kk : GV X (wC g) nL cn sn S L pc' (.ref (wA (wC g) 11 k) :: st)) : GV X (wC g) nL cn sn S L pc (.ref (wA (wC g) 3 k) :: st) :=
  r_get (T := TX3) h0 hk rfl rfl inX3 0 (by decide) v_124 rfl rfl hdg e kk
theorem v_375 : Cond.methodLinkNest RX3 86 yX7_write "Greenwave" ∈ NW := nw_of (i := 375) (by decide +kernel) (by decide +kernel)
theorem v_377 : Cond.code yX7_write cX7_write 3 none ∈ GW := gw_of (i := 377) (by decide +kernel) (by decide +kernel)
theorem v_376 : Cond.static yX7_write ∈ GW := gw_of (i := 376) (by decide +kernel) (by decide +kernel)
theorem k_X3_86 (g : GC) : gcS (wC g) RX3 86 yX7_write cX7_write 3 none 3 := mkSN v_375 v_376 v_377 v_60 ⟨by decide +kernel, by decide +kernel, by decide +kernel⟩
theorem v_125 : Cond.fieldLink RX3 15 RX3 "sets" "[I" ∈ GW := gw_of (i := 125) (by decide +kernel) (by decide +kernel)
theorem gf_X3_15 {cc : ByteArray} {nL : Nat} {rm : Room} {X : MX} {g : GC} {cn sn : Nat} {S : Mem} {L : List (Nat × Value)} {pc pc' : Nat} {st : List Value} {k : Nat} (h0 : CX RX3 cc nL rm X (wC g)) (hk : k < 5) (hdg : decode cc pc = .ok (.getfield 15, 3)) (e : pc + 3 = pc') (kk : GV X (wC g) nL cn sn S L pc' (.ref (wA (wC g) 12 k) :: st)) : GV X (wC g) nL cn sn S L pc (.ref (wA (wC g) 3 k) :: st) :=
  r_get (T := TX3) h0 hk rfl rfl inX3 1 (by decide) v_125 rfl rfl hdg e kk
theorem v_136 : Cond.fieldLink RX3 90 RX3 "phases" "I" ∈ GW := gw_of (i := 136) (by decide +kernel) (by decide +kernel)
theorem pf_X3_90 {cc : ByteArray} {nL : Nat} {rm : Room} {X : MX} {g : GC} {cn sn : Nat} {S : Mem} {L : List (Nat × Value)} {pc pc' : Nat} {st : List Value} {k : Nat} {v : Int32} (h0 : CX RX3 cc nL rm X (wC g)) (hk : k < 5) (hdg : decode cc pc = .ok (.putfield 90, 3)) (e : pc + 3 = pc') (kk : GV X (wC g) nL cn sn (wI S 3 k 7 v) L pc' st) : GV X (wC g) nL cn sn S L pc (.int v :: .ref (wA (wC g) 3 k) :: st) :=
  r_put (S' := (wI S 3 k 7 v)) (T := TX3) h0 hk rfl rfl inX3 tyX3 tyX3_ok nmX3 7 (by decide) v_136 rfl rfl (rfl) rfl (Nat.le_of_ble_eq_true rfl) wI_off ((congrArg (fun z => wCe (wC g) z (S.2 3 k) 3 k) wI_on).trans rfl) hdg e kk
theorem v_396 : Cond.methodLink RX3 101 yX3_clearanceOf ∈ GW := gw_of (i := 396) (by decide +kernel) (by decide +kernel)
theorem v_399 : Cond.code yX3_clearanceOf cX3_clearanceOf 3 (some .int) ∈ GW := gw_of (i := 399) (by decide +kernel) (by decide +kernel)
theorem v_397 : Cond.instanceMethod yX3_clearanceOf ∈ GW := gw_of (i := 397) (by decide +kernel) (by decide +kernel)
theorem v_398 : Cond.selects RX3 yX3_clearanceOf yX3_clearanceOf ∈ GW := gw_of (i := 398) (by decide +kernel) (by decide +kernel)
theorem k_X3_101 (g : GC) : gcV (wC g) RX3 101 3 yX3_clearanceOf cX3_clearanceOf 3 (some .int) 2 := mkV (ob_3 g) v_396 v_397 v_398 v_399 v_62 ⟨by decide +kernel, by decide +kernel, by decide +kernel⟩
theorem v_400 : Cond.methodLink RX3 104 Lib.Math.max.name ∈ GW := gw_of (i := 400) (by decide +kernel) (by decide +kernel)
theorem v_126 : Cond.fieldLink RX3 18 RX3 "flows" "[I" ∈ GW := gw_of (i := 126) (by decide +kernel) (by decide +kernel)
theorem gf_X3_18 {cc : ByteArray} {nL : Nat} {rm : Room} {X : MX} {g : GC} {cn sn : Nat} {S : Mem} {L : List (Nat × Value)} {pc pc' : Nat} {st : List Value} {k : Nat} (h0 : CX RX3 cc nL rm X (wC g)) (hk : k < 5) (hdg : decode cc pc = .ok (.getfield 18, 3)) (e : pc + 3 = pc') (kk : GV X (wC g) nL cn sn S L pc' (.ref (wA (wC g) 13 k) :: st)) : GV X (wC g) nL cn sn S L pc (.ref (wA (wC g) 3 k) :: st) :=
  r_get (T := TX3) h0 hk rfl rfl inX3 2 (by decide) v_126 rfl rfl hdg e kk
theorem gf_X3_90 {cc : ByteArray} {nL : Nat} {rm : Room} {X : MX} {g : GC} {cn sn : Nat} {S : Mem} {L : List (Nat × Value)} {pc pc' : Nat} {st : List Value} {k : Nat} (h0 : CX RX3 cc nL rm X (wC g)) (hk : k < 5) (hdg : decode cc pc = .ok (.getfield 90, 3)) (e : pc + 3 = pc') (kk : GV X (wC g) nL cn sn S L pc' (.int (S.1 3 k 7) :: st)) : GV X (wC g) nL cn sn S L pc (.ref (wA (wC g) 3 k) :: st) :=
  r_get (T := TX3) h0 hk rfl rfl inX3 7 (by decide) v_136 rfl rfl hdg e kk
theorem v_407 : Cond.methodLink RX3 113 yX3_weightOf ∈ GW := gw_of (i := 407) (by decide +kernel) (by decide +kernel)
theorem v_410 : Cond.code yX3_weightOf cX3_weightOf 4 (some .int) ∈ GW := gw_of (i := 410) (by decide +kernel) (by decide +kernel)
theorem v_409 : Cond.instanceMethod yX3_weightOf ∈ GW := gw_of (i := 409) (by decide +kernel) (by decide +kernel)
theorem v_6 : Cond.selects RX3 yX3_weightOf yX3_weightOf ∈ GW := gw_of (i := 6) (by decide +kernel) (by decide +kernel)
theorem k_X3_113 (g : GC) : gcV (wC g) RX3 113 3 yX3_weightOf cX3_weightOf 4 (some .int) 1 := mkV (ob_3 g) v_407 v_409 v_6 v_410 v_62 ⟨by decide +kernel, by decide +kernel, by decide +kernel⟩
theorem v_415 : Cond.methodLinkNest RX3 127 yX7_share "Greenwave" ∈ NW := nw_of (i := 415) (by decide +kernel) (by decide +kernel)
theorem v_417 : Cond.code yX7_share cX7_share 2 (some .int) ∈ GW := gw_of (i := 417) (by decide +kernel) (by decide +kernel)
theorem v_416 : Cond.static yX7_share ∈ GW := gw_of (i := 416) (by decide +kernel) (by decide +kernel)
theorem k_X3_127 (g : GC) : gcS (wC g) RX3 127 yX7_share cX7_share 2 (some .int) 2 := mkSN v_415 v_416 v_417 v_60 ⟨by decide +kernel, by decide +kernel, by decide +kernel⟩
theorem v_127 : Cond.fieldLink RX3 21 RX3 "greens" "[I" ∈ GW := gw_of (i := 127) (by decide +kernel) (by decide +kernel)
theorem gf_X3_21 {cc : ByteArray} {nL : Nat} {rm : Room} {X : MX} {g : GC} {cn sn : Nat} {S : Mem} {L : List (Nat × Value)} {pc pc' : Nat} {st : List Value} {k : Nat} (h0 : CX RX3 cc nL rm X (wC g)) (hk : k < 5) (hdg : decode cc pc = .ok (.getfield 21, 3)) (e : pc + 3 = pc') (kk : GV X (wC g) nL cn sn S L pc' (.ref (wA (wC g) 14 k) :: st)) : GV X (wC g) nL cn sn S L pc (.ref (wA (wC g) 3 k) :: st) :=
  r_get (T := TX3) h0 hk rfl rfl inX3 3 (by decide) v_127 rfl rfl hdg e kk
theorem v_403 : Cond.methodLink RX3 109 yX3_leastGreen ∈ GW := gw_of (i := 403) (by decide +kernel) (by decide +kernel)
theorem v_406 : Cond.code yX3_leastGreen cX3_leastGreen 2 (some .int) ∈ GW := gw_of (i := 406) (by decide +kernel) (by decide +kernel)
theorem v_405 : Cond.instanceMethod yX3_leastGreen ∈ GW := gw_of (i := 405) (by decide +kernel) (by decide +kernel)
theorem v_5 : Cond.selects RX3 yX3_leastGreen yX3_leastGreen ∈ GW := gw_of (i := 5) (by decide +kernel) (by decide +kernel)
theorem k_X3_109 (g : GC) : gcV (wC g) RX3 109 3 yX3_leastGreen cX3_leastGreen 2 (some .int) 1 := mkV (ob_3 g) v_403 v_405 v_5 v_406 v_62 ⟨by decide +kernel, by decide +kernel, by decide +kernel⟩
theorem v_129 : Cond.fieldLink RX3 24 RX3 "clearings" "[I" ∈ GW := gw_of (i := 129) (by decide +kernel) (by decide +kernel)
theorem gf_X3_24 {cc : ByteArray} {nL : Nat} {rm : Room} {X : MX} {g : GC} {cn sn : Nat} {S : Mem} {L : List (Nat × Value)} {pc pc' : Nat} {st : List Value} {k : Nat} (h0 : CX RX3 cc nL rm X (wC g)) (hk : k < 5) (hdg : decode cc pc = .ok (.getfield 24, 3)) (e : pc + 3 = pc') (kk : GV X (wC g) nL cn sn S L pc' (.ref (wA (wC g) 15 k) :: st)) : GV X (wC g) nL cn sn S L pc (.ref (wA (wC g) 3 k) :: st) :=
  r_get (T := TX3) h0 hk rfl rfl inX3 4 (by decide) v_129 rfl rfl hdg e kk
theorem v_143 : Cond.fieldLink RX3 116 RX3 "isPlanned" "Z" ∈ GW := gw_of (i := 143) (by decide +kernel) (by decide +kernel)
theorem pf_X3_116 {cc : ByteArray} {nL : Nat} {rm : Room} {X : MX} {g : GC} {cn sn : Nat} {S : Mem} {L : List (Nat × Value)} {pc pc' : Nat} {st : List Value} {k : Nat} {v : Int32} (h0 : CX RX3 cc nL rm X (wC g)) (hk : k < 5) (hdg : decode cc pc = .ok (.putfield 116, 3)) (e : pc + 3 = pc') (hz : nb v = v) (kk : GV X (wC g) nL cn sn (wI S 3 k 10 v) L pc' st) : GV X (wC g) nL cn sn S L pc (.int v :: .ref (wA (wC g) 3 k) :: st) :=
  r_put (S' := (wI S 3 k 10 v)) (T := TX3) h0 hk rfl rfl inX3 tyX3 tyX3_ok nmX3 10 (by decide) v_143 rfl rfl (nbz hz) (nbf hz) (Nat.le_of_ble_eq_true rfl) wI_off ((congrArg (fun z => wCe (wC g) z (S.2 3 k) 3 k) wI_on).trans rfl) hdg e kk
theorem gf_X3_116 {cc : ByteArray} {nL : Nat} {rm : Room} {X : MX} {g : GC} {cn sn : Nat} {S : Mem} {L : List (Nat × Value)} {pc pc' : Nat} {st : List Value} {k : Nat} (h0 : CX RX3 cc nL rm X (wC g)) (hk : k < 5) (hdg : decode cc pc = .ok (.getfield 116, 3)) (e : pc + 3 = pc') (kk : GV X (wC g) nL cn sn S L pc' (.int (S.1 3 k 10) :: st)) : GV X (wC g) nL cn sn S L pc (.ref (wA (wC g) 3 k) :: st) :=
  r_get (T := TX3) h0 hk rfl rfl inX3 10 (by decide) v_143 rfl rfl hdg e kk
theorem v_411 : Cond.methodLink RX3 120 yX3_shareOut ∈ GW := gw_of (i := 411) (by decide +kernel) (by decide +kernel)
theorem v_414 : Cond.code yX3_shareOut cX3_shareOut 6 none ∈ GW := gw_of (i := 414) (by decide +kernel) (by decide +kernel)
theorem v_413 : Cond.instanceMethod yX3_shareOut ∈ GW := gw_of (i := 413) (by decide +kernel) (by decide +kernel)
theorem v_7 : Cond.selects RX3 yX3_shareOut yX3_shareOut ∈ GW := gw_of (i := 7) (by decide +kernel) (by decide +kernel)
theorem k_X3_120 (g : GC) : gcV (wC g) RX3 120 3 yX3_shareOut cX3_shareOut 6 none 2 := mkV (ob_3 g) v_411 v_413 v_7 v_414 v_62 ⟨by decide +kernel, by decide +kernel, by decide +kernel⟩
theorem v_418 : Cond.methodLink RX3 124 yX3_drawLights ∈ GW := gw_of (i := 418) (by decide +kernel) (by decide +kernel)
theorem v_421 : Cond.code yX3_drawLights cX3_drawLights 6 none ∈ GW := gw_of (i := 421) (by decide +kernel) (by decide +kernel)
theorem v_420 : Cond.instanceMethod yX3_drawLights ∈ GW := gw_of (i := 420) (by decide +kernel) (by decide +kernel)
theorem v_8 : Cond.selects RX3 yX3_drawLights yX3_drawLights ∈ GW := gw_of (i := 8) (by decide +kernel) (by decide +kernel)
theorem k_X3_124 (g : GC) : gcV (wC g) RX3 124 3 yX3_drawLights cX3_drawLights 6 none 0 := mkV (ob_3 g) v_418 v_420 v_8 v_421 v_62 ⟨by decide +kernel, by decide +kernel, by decide +kernel⟩
theorem v_389 : Cond.methodLink RX3 97 yX3_greatestClearance ∈ GW := gw_of (i := 389) (by decide +kernel) (by decide +kernel)
theorem v_392 : Cond.code yX3_greatestClearance cX3_greatestClearance 6 (some .int) ∈ GW := gw_of (i := 392) (by decide +kernel) (by decide +kernel)
theorem v_391 : Cond.instanceMethod yX3_greatestClearance ∈ GW := gw_of (i := 391) (by decide +kernel) (by decide +kernel)
theorem v_4 : Cond.selects RX3 yX3_greatestClearance yX3_greatestClearance ∈ GW := gw_of (i := 4) (by decide +kernel) (by decide +kernel)
theorem k_X3_97 (g : GC) : gcV (wC g) RX3 97 3 yX3_greatestClearance cX3_greatestClearance 6 (some .int) 2 := mkV (ob_3 g) v_389 v_391 v_4 v_392 v_62 ⟨by decide +kernel, by decide +kernel, by decide +kernel⟩
theorem pf_X3_37 {cc : ByteArray} {nL : Nat} {rm : Room} {X : MX} {g : GC} {cn sn : Nat} {S : Mem} {L : List (Nat × Value)} {pc pc' : Nat} {st : List Value} {k : Nat} {v : Int32} (h0 : CX RX3 cc nL rm X (wC g)) (hk : k < 5) (hdg : decode cc pc = .ok (.putfield 37, 3)) (e : pc + 3 = pc') (kk : GV X (wC g) nL cn sn (wI S 3 k 8 v) L pc' st) : GV X (wC g) nL cn sn S L pc (.int v :: .ref (wA (wC g) 3 k) :: st) :=
  r_put (S' := (wI S 3 k 8 v)) (T := TX3) h0 hk rfl rfl inX3 tyX3 tyX3_ok nmX3 8 (by decide) v_137 rfl rfl (rfl) rfl (Nat.le_of_ble_eq_true rfl) wI_off ((congrArg (fun z => wCe (wC g) z (S.2 3 k) 3 k) wI_on).trans rfl) hdg e kk
theorem v_138 : Cond.fieldLink RX3 41 RX3 "start" "I" ∈ GW := gw_of (i := 138) (by decide +kernel) (by decide +kernel)
theorem pf_X3_41 {cc : ByteArray} {nL : Nat} {rm : Room} {X : MX} {g : GC} {cn sn : Nat} {S : Mem} {L : List (Nat × Value)} {pc pc' : Nat} {st : List Value} {k : Nat} {v : Int32} (h0 : CX RX3 cc nL rm X (wC g)) (hk : k < 5) (hdg : decode cc pc = .ok (.putfield 41, 3)) (e : pc + 3 = pc') (kk : GV X (wC g) nL cn sn (wI S 3 k 9 v) L pc' st) : GV X (wC g) nL cn sn S L pc (.int v :: .ref (wA (wC g) 3 k) :: st) :=
  r_put (S' := (wI S 3 k 9 v)) (T := TX3) h0 hk rfl rfl inX3 tyX3 tyX3_ok nmX3 9 (by decide) v_138 rfl rfl (rfl) rfl (Nat.le_of_ble_eq_true rfl) wI_off ((congrArg (fun z => wCe (wC g) z (S.2 3 k) 3 k) wI_on).trans rfl) hdg e kk
theorem v_144 : Cond.fieldLink RX3 44 RX3 "waiting" "I" ∈ GW := gw_of (i := 144) (by decide +kernel) (by decide +kernel)
theorem pf_X3_44 {cc : ByteArray} {nL : Nat} {rm : Room} {X : MX} {g : GC} {cn sn : Nat} {S : Mem} {L : List (Nat × Value)} {pc pc' : Nat} {st : List Value} {k : Nat} {v : Int32} (h0 : CX RX3 cc nL rm X (wC g)) (hk : k < 5) (hdg : decode cc pc = .ok (.putfield 44, 3)) (e : pc + 3 = pc') (kk : GV X (wC g) nL cn sn (wI S 3 k 11 v) L pc' st) : GV X (wC g) nL cn sn S L pc (.int v :: .ref (wA (wC g) 3 k) :: st) :=
  r_put (S' := (wI S 3 k 11 v)) (T := TX3) h0 hk rfl rfl inX3 tyX3 tyX3_ok nmX3 11 (by decide) v_144 rfl rfl (rfl) rfl (Nat.le_of_ble_eq_true rfl) wI_off ((congrArg (fun z => wCe (wC g) z (S.2 3 k) 3 k) wI_on).trans rfl) hdg e kk
theorem v_148 : Cond.fieldLink RX3 47 RX3 "ready" "I" ∈ GW := gw_of (i := 148) (by decide +kernel) (by decide +kernel)
theorem pf_X3_47 {cc : ByteArray} {nL : Nat} {rm : Room} {X : MX} {g : GC} {cn sn : Nat} {S : Mem} {L : List (Nat × Value)} {pc pc' : Nat} {st : List Value} {k : Nat} {v : Int32} (h0 : CX RX3 cc nL rm X (wC g)) (hk : k < 5) (hdg : decode cc pc = .ok (.putfield 47, 3)) (e : pc + 3 = pc') (kk : GV X (wC g) nL cn sn (wI S 3 k 12 v) L pc' st) : GV X (wC g) nL cn sn S L pc (.int v :: .ref (wA (wC g) 3 k) :: st) :=
  r_put (S' := (wI S 3 k 12 v)) (T := TX3) h0 hk rfl rfl inX3 tyX3 tyX3_ok nmX3 12 (by decide) v_148 rfl rfl (rfl) rfl (Nat.le_of_ble_eq_true rfl) wI_off ((congrArg (fun z => wCe (wC g) z (S.2 3 k) 3 k) wI_on).trans rfl) hdg e kk
theorem v_150 : Cond.fieldLink RX3 50 RX3 "busCycleEnd" "I" ∈ GW := gw_of (i := 150) (by decide +kernel) (by decide +kernel)
theorem pf_X3_50 {cc : ByteArray} {nL : Nat} {rm : Room} {X : MX} {g : GC} {cn sn : Nat} {S : Mem} {L : List (Nat × Value)} {pc pc' : Nat} {st : List Value} {k : Nat} {v : Int32} (h0 : CX RX3 cc nL rm X (wC g)) (hk : k < 5) (hdg : decode cc pc = .ok (.putfield 50, 3)) (e : pc + 3 = pc') (kk : GV X (wC g) nL cn sn (wI S 3 k 13 v) L pc' st) : GV X (wC g) nL cn sn S L pc (.int v :: .ref (wA (wC g) 3 k) :: st) :=
  r_put (S' := (wI S 3 k 13 v)) (T := TX3) h0 hk rfl rfl inX3 tyX3 tyX3_ok nmX3 13 (by decide) v_150 rfl rfl (rfl) rfl (Nat.le_of_ble_eq_true rfl) wI_off ((congrArg (fun z => wCe (wC g) z (S.2 3 k) 3 k) wI_on).trans rfl) hdg e kk
theorem v_151 : Cond.fieldLink RX3 53 RX3 "giver" "I" ∈ GW := gw_of (i := 151) (by decide +kernel) (by decide +kernel)
theorem pf_X3_53 {cc : ByteArray} {nL : Nat} {rm : Room} {X : MX} {g : GC} {cn sn : Nat} {S : Mem} {L : List (Nat × Value)} {pc pc' : Nat} {st : List Value} {k : Nat} {v : Int32} (h0 : CX RX3 cc nL rm X (wC g)) (hk : k < 5) (hdg : decode cc pc = .ok (.putfield 53, 3)) (e : pc + 3 = pc') (kk : GV X (wC g) nL cn sn (wI S 3 k 14 v) L pc' st) : GV X (wC g) nL cn sn S L pc (.int v :: .ref (wA (wC g) 3 k) :: st) :=
  r_put (S' := (wI S 3 k 14 v)) (T := TX3) h0 hk rfl rfl inX3 tyX3 tyX3_ok nmX3 14 (by decide) v_151 rfl rfl (rfl) rfl (Nat.le_of_ble_eq_true rfl) wI_off ((congrArg (fun z => wCe (wC g) z (S.2 3 k) 3 k) wI_on).trans rfl) hdg e kk
theorem v_152 : Cond.fieldLink RX3 56 RX3 "taker" "I" ∈ GW := gw_of (i := 152) (by decide +kernel) (by decide +kernel)
theorem pf_X3_56 {cc : ByteArray} {nL : Nat} {rm : Room} {X : MX} {g : GC} {cn sn : Nat} {S : Mem} {L : List (Nat × Value)} {pc pc' : Nat} {st : List Value} {k : Nat} {v : Int32} (h0 : CX RX3 cc nL rm X (wC g)) (hk : k < 5) (hdg : decode cc pc = .ok (.putfield 56, 3)) (e : pc + 3 = pc') (kk : GV X (wC g) nL cn sn (wI S 3 k 15 v) L pc' st) : GV X (wC g) nL cn sn S L pc (.int v :: .ref (wA (wC g) 3 k) :: st) :=
  r_put (S' := (wI S 3 k 15 v)) (T := TX3) h0 hk rfl rfl inX3 tyX3 tyX3_ok nmX3 15 (by decide) v_152 rfl rfl (rfl) rfl (Nat.le_of_ble_eq_true rfl) wI_off ((congrArg (fun z => wCe (wC g) z (S.2 3 k) 3 k) wI_on).trans rfl) hdg e kk
theorem v_153 : Cond.fieldLink RX3 59 RX3 "given" "I" ∈ GW := gw_of (i := 153) (by decide +kernel) (by decide +kernel)
theorem pf_X3_59 {cc : ByteArray} {nL : Nat} {rm : Room} {X : MX} {g : GC} {cn sn : Nat} {S : Mem} {L : List (Nat × Value)} {pc pc' : Nat} {st : List Value} {k : Nat} {v : Int32} (h0 : CX RX3 cc nL rm X (wC g)) (hk : k < 5) (hdg : decode cc pc = .ok (.putfield 59, 3)) (e : pc + 3 = pc') (kk : GV X (wC g) nL cn sn (wI S 3 k 16 v) L pc' st) : GV X (wC g) nL cn sn S L pc (.int v :: .ref (wA (wC g) 3 k) :: st) :=
  r_put (S' := (wI S 3 k 16 v)) (T := TX3) h0 hk rfl rfl inX3 tyX3 tyX3_ok nmX3 16 (by decide) v_153 rfl rfl (rfl) rfl (Nat.le_of_ble_eq_true rfl) wI_off ((congrArg (fun z => wCe (wC g) z (S.2 3 k) 3 k) wI_on).trans rfl) hdg e kk
theorem v_132 : Cond.fieldLink RX3 33 RX3 "link" "LGreenwave$Link;" ∈ GW := gw_of (i := 132) (by decide +kernel) (by decide +kernel)
theorem gf_X3_33 {cc : ByteArray} {nL : Nat} {rm : Room} {X : MX} {g : GC} {cn sn : Nat} {S : Mem} {L : List (Nat × Value)} {pc pc' : Nat} {st : List Value} {k : Nat} (h0 : CX RX3 cc nL rm X (wC g)) (hk : k < 5) (hdg : decode cc pc = .ok (.getfield 33, 3)) (e : pc + 3 = pc') (kk : GV X (wC g) nL cn sn S L pc' (.ref (wA (wC g) 4 k) :: st)) : GV X (wC g) nL cn sn S L pc (.ref (wA (wC g) 3 k) :: st) :=
  r_get (T := TX3) h0 hk rfl rfl inX3 6 (by decide) v_132 rfl rfl hdg e kk
theorem v_363 : Cond.methodLink RX3 62 yX4_reset ∈ GW := gw_of (i := 363) (by decide +kernel) (by decide +kernel)
theorem v_366 : Cond.code yX4_reset cX4_reset 1 none ∈ GW := gw_of (i := 366) (by decide +kernel) (by decide +kernel)
theorem v_63 : Cond.initialized RX4 ∈ GW := gw_of (i := 63) (by decide +kernel) (by decide +kernel)
theorem v_364 : Cond.instanceMethod yX4_reset ∈ GW := gw_of (i := 364) (by decide +kernel) (by decide +kernel)
theorem v_365 : Cond.selects RX4 yX4_reset yX4_reset ∈ GW := gw_of (i := 365) (by decide +kernel) (by decide +kernel)
theorem k_X3_62 (g : GC) : gcV (wC g) RX3 62 4 yX4_reset cX4_reset 1 none 0 := mkV (ob_4 g) v_363 v_364 v_365 v_366 v_63 ⟨by decide +kernel, by decide +kernel, by decide +kernel⟩
theorem v_370 : Cond.methodLink RX3 65 yJ7_fill_53178 ∈ GW := gw_of (i := 370) (by decide +kernel) (by decide +kernel)
theorem k_X3_65 (g : GC) : gcS (wC g) RX3 65 yJ7_fill_53178 cJ7_fill_53178 4 none 2 := mkS v_370 v_368 v_369 v_72 ⟨by decide +kernel, by decide +kernel, by decide +kernel⟩
theorem v_371 : Cond.methodLink RX3 71 yX3_writeClearance ∈ GW := gw_of (i := 371) (by decide +kernel) (by decide +kernel)
theorem v_374 : Cond.code yX3_writeClearance cX3_writeClearance 4 none ∈ GW := gw_of (i := 374) (by decide +kernel) (by decide +kernel)
theorem v_373 : Cond.instanceMethod yX3_writeClearance ∈ GW := gw_of (i := 373) (by decide +kernel) (by decide +kernel)
theorem v_1 : Cond.selects RX3 yX3_writeClearance yX3_writeClearance ∈ GW := gw_of (i := 1) (by decide +kernel) (by decide +kernel)
theorem k_X3_71 (g : GC) : gcV (wC g) RX3 71 3 yX3_writeClearance cX3_writeClearance 4 none 3 := mkV (ob_3 g) v_371 v_373 v_1 v_374 v_62 ⟨by decide +kernel, by decide +kernel, by decide +kernel⟩
theorem v_378 : Cond.methodLink RX3 75 yX3_writeSets ∈ GW := gw_of (i := 378) (by decide +kernel) (by decide +kernel)
theorem v_381 : Cond.code yX3_writeSets cX3_writeSets 5 none ∈ GW := gw_of (i := 381) (by decide +kernel) (by decide +kernel)
theorem v_380 : Cond.instanceMethod yX3_writeSets ∈ GW := gw_of (i := 380) (by decide +kernel) (by decide +kernel)
theorem v_2 : Cond.selects RX3 yX3_writeSets yX3_writeSets ∈ GW := gw_of (i := 2) (by decide +kernel) (by decide +kernel)
theorem k_X3_75 (g : GC) : gcV (wC g) RX3 75 3 yX3_writeSets cX3_writeSets 5 none 4 := mkV (ob_3 g) v_378 v_380 v_2 v_381 v_62 ⟨by decide +kernel, by decide +kernel, by decide +kernel⟩
theorem v_382 : Cond.methodLink RX3 79 yX3_makePlan ∈ GW := gw_of (i := 382) (by decide +kernel) (by decide +kernel)
theorem v_385 : Cond.code yX3_makePlan cX3_makePlan 6 none ∈ GW := gw_of (i := 385) (by decide +kernel) (by decide +kernel)
theorem v_384 : Cond.instanceMethod yX3_makePlan ∈ GW := gw_of (i := 384) (by decide +kernel) (by decide +kernel)
theorem v_3 : Cond.selects RX3 yX3_makePlan yX3_makePlan ∈ GW := gw_of (i := 3) (by decide +kernel) (by decide +kernel)
theorem k_X3_79 (g : GC) : gcV (wC g) RX3 79 3 yX3_makePlan cX3_makePlan 6 none 0 := mkV (ob_3 g) v_382 v_384 v_3 v_385 v_62 ⟨by decide +kernel, by decide +kernel, by decide +kernel⟩
theorem pf_X1_18 {cc : ByteArray} {nL : Nat} {rm : Room} {X : MX} {g : GC} {cn sn : Nat} {S : Mem} {L : List (Nat × Value)} {pc pc' : Nat} {st : List Value} {v : Int32} (h0 : CX RX1 cc nL rm X (wC g)) (hk : 0 < 1) (hdg : decode cc pc = .ok (.putfield 18, 3)) (e : pc + 3 = pc') (kk : GV X (wC g) nL cn sn (wI S 1 0 1 v) L pc' st) : GV X (wC g) nL cn sn S L pc (.int v :: .ref (wA (wC g) 1 0) :: st) :=
  r_put (S' := (wI S 1 0 1 v)) (T := TX1) h0 hk rfl rfl inX1 tyX1 tyX1_ok nmX1 1 (by decide) v_190 rfl rfl (rfl) rfl (Nat.le_of_ble_eq_true rfl) wI_off ((congrArg (fun z => wCe (wC g) z (S.2 1 0) 1 0) wI_on).trans rfl) hdg e kk
theorem v_194 : Cond.fieldLink RX1 22 RX1 "cycle" "I" ∈ GW := gw_of (i := 194) (by decide +kernel) (by decide +kernel)
theorem pf_X1_22 {cc : ByteArray} {nL : Nat} {rm : Room} {X : MX} {g : GC} {cn sn : Nat} {S : Mem} {L : List (Nat × Value)} {pc pc' : Nat} {st : List Value} {v : Int32} (h0 : CX RX1 cc nL rm X (wC g)) (hk : 0 < 1) (hdg : decode cc pc = .ok (.putfield 22, 3)) (e : pc + 3 = pc') (kk : GV X (wC g) nL cn sn (wI S 1 0 2 v) L pc' st) : GV X (wC g) nL cn sn S L pc (.int v :: .ref (wA (wC g) 1 0) :: st) :=
  r_put (S' := (wI S 1 0 2 v)) (T := TX1) h0 hk rfl rfl inX1 tyX1 tyX1_ok nmX1 2 (by decide) v_194 rfl rfl (rfl) rfl (Nat.le_of_ble_eq_true rfl) wI_off ((congrArg (fun z => wCe (wC g) z (S.2 1 0) 1 0) wI_on).trans rfl) hdg e kk
theorem v_359 : Cond.methodLink RX1 29 yX3_reset ∈ GW := gw_of (i := 359) (by decide +kernel) (by decide +kernel)
theorem v_362 : Cond.code yX3_reset cX3_reset 2 none ∈ GW := gw_of (i := 362) (by decide +kernel) (by decide +kernel)
theorem v_360 : Cond.instanceMethod yX3_reset ∈ GW := gw_of (i := 360) (by decide +kernel) (by decide +kernel)
theorem v_361 : Cond.selects RX3 yX3_reset yX3_reset ∈ GW := gw_of (i := 361) (by decide +kernel) (by decide +kernel)
theorem k_X1_29 (g : GC) : gcV (wC g) RX1 29 3 yX3_reset cX3_reset 2 none 1 := mkV (ob_3 g) v_359 v_360 v_361 v_362 v_62 ⟨by decide +kernel, by decide +kernel, by decide +kernel⟩
theorem v_569 : Cond.methodLink RX1 40 yX1_isLast ∈ GW := gw_of (i := 569) (by decide +kernel) (by decide +kernel)
theorem v_572 : Cond.code yX1_isLast cX1_isLast 2 (some .boolean) ∈ GW := gw_of (i := 572) (by decide +kernel) (by decide +kernel)
theorem v_570 : Cond.instanceMethod yX1_isLast ∈ GW := gw_of (i := 570) (by decide +kernel) (by decide +kernel)
theorem v_571 : Cond.selects RX1 yX1_isLast yX1_isLast ∈ GW := gw_of (i := 571) (by decide +kernel) (by decide +kernel)
theorem k_X1_40 (g : GC) : gcV (wC g) RX1 40 1 yX1_isLast cX1_isLast 2 (some .boolean) 1 := mkV (ob_1 g) v_569 v_570 v_571 v_572 v_61 ⟨by decide +kernel, by decide +kernel, by decide +kernel⟩
theorem v_850 : Cond.methodLink RX1 50 yX1_linkFrom ∈ GW := gw_of (i := 850) (by decide +kernel) (by decide +kernel)
theorem v_568 : Cond.code yX1_linkFrom cX1_linkFrom 3 (some (.object "Greenwave$Link")) ∈ GW := gw_of (i := 568) (by decide +kernel) (by decide +kernel)
theorem v_566 : Cond.instanceMethod yX1_linkFrom ∈ GW := gw_of (i := 566) (by decide +kernel) (by decide +kernel)
theorem v_567 : Cond.selects RX1 yX1_linkFrom yX1_linkFrom ∈ GW := gw_of (i := 567) (by decide +kernel) (by decide +kernel)
theorem k_X1_50 (g : GC) : gcV (wC g) RX1 50 1 yX1_linkFrom cX1_linkFrom 3 (some (.object "Greenwave$Link")) 1 := mkV (ob_1 g) v_850 v_566 v_567 v_568 v_61 ⟨by decide +kernel, by decide +kernel, by decide +kernel⟩
theorem v_113 : Cond.fieldLinkNest RX1 54 RX4 "moving" "I" "Greenwave" ∈ NW := nw_of (i := 113) (by decide +kernel) (by decide +kernel)
theorem gf_X1_54 {cc : ByteArray} {nL : Nat} {rm : Room} {X : MX} {g : GC} {cn sn : Nat} {S : Mem} {L : List (Nat × Value)} {pc pc' : Nat} {st : List Value} {k : Nat} (h0 : CX RX1 cc nL rm X (wC g)) (hk : k < 5) (hdg : decode cc pc = .ok (.getfield 54, 3)) (e : pc + 3 = pc') (kk : GV X (wC g) nL cn sn S L pc' (.int (S.1 4 k 3) :: st)) : GV X (wC g) nL cn sn S L pc (.ref (wA (wC g) 4 k) :: st) :=
  r_getN (T := TX4) h0 hk rfl rfl inX4 3 (by decide) v_113 rfl rfl hdg e kk
theorem v_146 : Cond.fieldLinkNest RX1 59 RX3 "waiting" "I" "Greenwave" ∈ NW := nw_of (i := 146) (by decide +kernel) (by decide +kernel)
theorem gf_X1_59 {cc : ByteArray} {nL : Nat} {rm : Room} {X : MX} {g : GC} {cn sn : Nat} {S : Mem} {L : List (Nat × Value)} {pc pc' : Nat} {st : List Value} {k : Nat} (h0 : CX RX1 cc nL rm X (wC g)) (hk : k < 5) (hdg : decode cc pc = .ok (.getfield 59, 3)) (e : pc + 3 = pc') (kk : GV X (wC g) nL cn sn S L pc' (.int (S.1 3 k 11) :: st)) : GV X (wC g) nL cn sn S L pc (.ref (wA (wC g) 3 k) :: st) :=
  r_getN (T := TX3) h0 hk rfl rfl inX3 11 (by decide) v_146 rfl rfl hdg e kk
theorem v_141 : Cond.fieldLinkNest RX1 65 RX3 "isPlanned" "Z" "Greenwave" ∈ NW := nw_of (i := 141) (by decide +kernel) (by decide +kernel)
theorem gf_X1_65 {cc : ByteArray} {nL : Nat} {rm : Room} {X : MX} {g : GC} {cn sn : Nat} {S : Mem} {L : List (Nat × Value)} {pc pc' : Nat} {st : List Value} {k : Nat} (h0 : CX RX1 cc nL rm X (wC g)) (hk : k < 5) (hdg : decode cc pc = .ok (.getfield 65, 3)) (e : pc + 3 = pc') (kk : GV X (wC g) nL cn sn S L pc' (.int (S.1 3 k 10) :: st)) : GV X (wC g) nL cn sn S L pc (.ref (wA (wC g) 3 k) :: st) :=
  r_getN (T := TX3) h0 hk rfl rfl inX3 10 (by decide) v_141 rfl rfl hdg e kk
theorem gf_X3_41 {cc : ByteArray} {nL : Nat} {rm : Room} {X : MX} {g : GC} {cn sn : Nat} {S : Mem} {L : List (Nat × Value)} {pc pc' : Nat} {st : List Value} {k : Nat} (h0 : CX RX3 cc nL rm X (wC g)) (hk : k < 5) (hdg : decode cc pc = .ok (.getfield 41, 3)) (e : pc + 3 = pc') (kk : GV X (wC g) nL cn sn S L pc' (.int (S.1 3 k 9) :: st)) : GV X (wC g) nL cn sn S L pc (.ref (wA (wC g) 3 k) :: st) :=
  r_get (T := TX3) h0 hk rfl rfl inX3 9 (by decide) v_138 rfl rfl hdg e kk
theorem v_737 : Cond.methodLink RX3 130 yX3_isLitFrom ∈ GW := gw_of (i := 737) (by decide +kernel) (by decide +kernel)
theorem k_X3_130 (g : GC) : gcV (wC g) RX3 130 3 yX3_isLitFrom cX3_isLitFrom 4 (some .boolean) 3 := mkV (ob_3 g) v_737 v_637 v_638 v_639 v_62 ⟨by decide +kernel, by decide +kernel, by decide +kernel⟩
theorem v_753 : Cond.methodLink RX3 141 yX3_isLit ∈ GW := gw_of (i := 753) (by decide +kernel) (by decide +kernel)
theorem v_736 : Cond.code yX3_isLit cX3_isLit 3 (some .boolean) ∈ GW := gw_of (i := 736) (by decide +kernel) (by decide +kernel)
theorem v_734 : Cond.instanceMethod yX3_isLit ∈ GW := gw_of (i := 734) (by decide +kernel) (by decide +kernel)
theorem v_735 : Cond.selects RX3 yX3_isLit yX3_isLit ∈ GW := gw_of (i := 735) (by decide +kernel) (by decide +kernel)
theorem k_X3_141 (g : GC) : gcV (wC g) RX3 141 3 yX3_isLit cX3_isLit 3 (some .boolean) 2 := mkV (ob_3 g) v_753 v_734 v_735 v_736 v_62 ⟨by decide +kernel, by decide +kernel, by decide +kernel⟩
theorem v_754 : Cond.methodLink RX3 144 yX3_isLitTooSoon ∈ GW := gw_of (i := 754) (by decide +kernel) (by decide +kernel)
theorem v_757 : Cond.code yX3_isLitTooSoon cX3_isLitTooSoon 5 (some .boolean) ∈ GW := gw_of (i := 757) (by decide +kernel) (by decide +kernel)
theorem v_756 : Cond.instanceMethod yX3_isLitTooSoon ∈ GW := gw_of (i := 756) (by decide +kernel) (by decide +kernel)
theorem v_18 : Cond.selects RX3 yX3_isLitTooSoon yX3_isLitTooSoon ∈ GW := gw_of (i := 18) (by decide +kernel) (by decide +kernel)
theorem k_X3_144 (g : GC) : gcV (wC g) RX3 144 3 yX3_isLitTooSoon cX3_isLitTooSoon 5 (some .boolean) 3 := mkV (ob_3 g) v_754 v_756 v_18 v_757 v_62 ⟨by decide +kernel, by decide +kernel, by decide +kernel⟩
theorem v_749 : Cond.methodLink RX3 137 yX3_isBreached ∈ GW := gw_of (i := 749) (by decide +kernel) (by decide +kernel)
theorem v_752 : Cond.code yX3_isBreached cX3_isBreached 4 (some .boolean) ∈ GW := gw_of (i := 752) (by decide +kernel) (by decide +kernel)
theorem v_751 : Cond.instanceMethod yX3_isBreached ∈ GW := gw_of (i := 751) (by decide +kernel) (by decide +kernel)
theorem v_17 : Cond.selects RX3 yX3_isBreached yX3_isBreached ∈ GW := gw_of (i := 17) (by decide +kernel) (by decide +kernel)
theorem k_X3_137 (g : GC) : gcV (wC g) RX3 137 3 yX3_isBreached cX3_isBreached 4 (some .boolean) 1 := mkV (ob_3 g) v_749 v_751 v_17 v_752 v_62 ⟨by decide +kernel, by decide +kernel, by decide +kernel⟩
theorem gf_X3_50 {cc : ByteArray} {nL : Nat} {rm : Room} {X : MX} {g : GC} {cn sn : Nat} {S : Mem} {L : List (Nat × Value)} {pc pc' : Nat} {st : List Value} {k : Nat} (h0 : CX RX3 cc nL rm X (wC g)) (hk : k < 5) (hdg : decode cc pc = .ok (.getfield 50, 3)) (e : pc + 3 = pc') (kk : GV X (wC g) nL cn sn S L pc' (.int (S.1 3 k 13) :: st)) : GV X (wC g) nL cn sn S L pc (.ref (wA (wC g) 3 k) :: st) :=
  r_get (T := TX3) h0 hk rfl rfl inX3 13 (by decide) v_150 rfl rfl hdg e kk
theorem gf_X3_56 {cc : ByteArray} {nL : Nat} {rm : Room} {X : MX} {g : GC} {cn sn : Nat} {S : Mem} {L : List (Nat × Value)} {pc pc' : Nat} {st : List Value} {k : Nat} (h0 : CX RX3 cc nL rm X (wC g)) (hk : k < 5) (hdg : decode cc pc = .ok (.getfield 56, 3)) (e : pc + 3 = pc') (kk : GV X (wC g) nL cn sn S L pc' (.int (S.1 3 k 15) :: st)) : GV X (wC g) nL cn sn S L pc (.ref (wA (wC g) 3 k) :: st) :=
  r_get (T := TX3) h0 hk rfl rfl inX3 15 (by decide) v_152 rfl rfl hdg e kk
theorem gf_X3_53 {cc : ByteArray} {nL : Nat} {rm : Room} {X : MX} {g : GC} {cn sn : Nat} {S : Mem} {L : List (Nat × Value)} {pc pc' : Nat} {st : List Value} {k : Nat} (h0 : CX RX3 cc nL rm X (wC g)) (hk : k < 5) (hdg : decode cc pc = .ok (.getfield 53, 3)) (e : pc + 3 = pc') (kk : GV X (wC g) nL cn sn S L pc' (.int (S.1 3 k 14) :: st)) : GV X (wC g) nL cn sn S L pc (.ref (wA (wC g) 3 k) :: st) :=
  r_get (T := TX3) h0 hk rfl rfl inX3 14 (by decide) v_151 rfl rfl hdg e kk
theorem gf_X3_59 {cc : ByteArray} {nL : Nat} {rm : Room} {X : MX} {g : GC} {cn sn : Nat} {S : Mem} {L : List (Nat × Value)} {pc pc' : Nat} {st : List Value} {k : Nat} (h0 : CX RX3 cc nL rm X (wC g)) (hk : k < 5) (hdg : decode cc pc = .ok (.getfield 59, 3)) (e : pc + 3 = pc') (kk : GV X (wC g) nL cn sn S L pc' (.int (S.1 3 k 16) :: st)) : GV X (wC g) nL cn sn S L pc (.ref (wA (wC g) 3 k) :: st) :=
  r_get (T := TX3) h0 hk rfl rfl inX3 16 (by decide) v_153 rfl rfl hdg e kk
theorem v_826 : Cond.methodLink RX3 147 yX3_hasBusIn ∈ GW := gw_of (i := 826) (by decide +kernel) (by decide +kernel)
theorem v_829 : Cond.code yX3_hasBusIn cX3_hasBusIn 2 (some .boolean) ∈ GW := gw_of (i := 829) (by decide +kernel) (by decide +kernel)
theorem v_827 : Cond.instanceMethod yX3_hasBusIn ∈ GW := gw_of (i := 827) (by decide +kernel) (by decide +kernel)
theorem v_828 : Cond.selects RX3 yX3_hasBusIn yX3_hasBusIn ∈ GW := gw_of (i := 828) (by decide +kernel) (by decide +kernel)
theorem k_X3_147 (g : GC) : gcV (wC g) RX3 147 3 yX3_hasBusIn cX3_hasBusIn 2 (some .boolean) 1 := mkV (ob_3 g) v_826 v_827 v_828 v_829 v_62 ⟨by decide +kernel, by decide +kernel, by decide +kernel⟩
theorem v_830 : Cond.methodLink RX3 150 yX3_placeInCycle ∈ GW := gw_of (i := 830) (by decide +kernel) (by decide +kernel)
theorem v_833 : Cond.code yX3_placeInCycle cX3_placeInCycle 2 (some .int) ∈ GW := gw_of (i := 833) (by decide +kernel) (by decide +kernel)
theorem v_832 : Cond.instanceMethod yX3_placeInCycle ∈ GW := gw_of (i := 832) (by decide +kernel) (by decide +kernel)
theorem v_22 : Cond.selects RX3 yX3_placeInCycle yX3_placeInCycle ∈ GW := gw_of (i := 22) (by decide +kernel) (by decide +kernel)
theorem k_X3_150 (g : GC) : gcV (wC g) RX3 150 3 yX3_placeInCycle cX3_placeInCycle 2 (some .int) 1 := mkV (ob_3 g) v_830 v_832 v_22 v_833 v_62 ⟨by decide +kernel, by decide +kernel, by decide +kernel⟩
theorem v_834 : Cond.methodLink RX3 153 yX3_changedGreen ∈ GW := gw_of (i := 834) (by decide +kernel) (by decide +kernel)
theorem v_837 : Cond.code yX3_changedGreen cX3_changedGreen 3 (some .int) ∈ GW := gw_of (i := 837) (by decide +kernel) (by decide +kernel)
theorem v_836 : Cond.instanceMethod yX3_changedGreen ∈ GW := gw_of (i := 836) (by decide +kernel) (by decide +kernel)
theorem v_23 : Cond.selects RX3 yX3_changedGreen yX3_changedGreen ∈ GW := gw_of (i := 23) (by decide +kernel) (by decide +kernel)
theorem k_X3_153 (g : GC) : gcV (wC g) RX3 153 3 yX3_changedGreen cX3_changedGreen 3 (some .int) 1 := mkV (ob_3 g) v_834 v_836 v_23 v_837 v_62 ⟨by decide +kernel, by decide +kernel, by decide +kernel⟩
theorem v_877 : Cond.methodLink RX3 156 yX3_lowestPhaseWith ∈ GW := gw_of (i := 877) (by decide +kernel) (by decide +kernel)
theorem v_869 : Cond.code yX3_lowestPhaseWith cX3_lowestPhaseWith 3 (some .int) ∈ GW := gw_of (i := 869) (by decide +kernel) (by decide +kernel)
theorem v_867 : Cond.instanceMethod yX3_lowestPhaseWith ∈ GW := gw_of (i := 867) (by decide +kernel) (by decide +kernel)
theorem v_868 : Cond.selects RX3 yX3_lowestPhaseWith yX3_lowestPhaseWith ∈ GW := gw_of (i := 868) (by decide +kernel) (by decide +kernel)
theorem k_X3_156 (g : GC) : gcV (wC g) RX3 156 3 yX3_lowestPhaseWith cX3_lowestPhaseWith 3 (some .int) 1 := mkV (ob_3 g) v_877 v_867 v_868 v_869 v_62 ⟨by decide +kernel, by decide +kernel, by decide +kernel⟩
theorem v_822 : Cond.methodLink RX3 159 yX3_phaseIn ∈ GW := gw_of (i := 822) (by decide +kernel) (by decide +kernel)
theorem v_825 : Cond.code yX3_phaseIn cX3_phaseIn 6 (some .int) ∈ GW := gw_of (i := 825) (by decide +kernel) (by decide +kernel)
theorem v_823 : Cond.instanceMethod yX3_phaseIn ∈ GW := gw_of (i := 823) (by decide +kernel) (by decide +kernel)
theorem v_824 : Cond.selects RX3 yX3_phaseIn yX3_phaseIn ∈ GW := gw_of (i := 824) (by decide +kernel) (by decide +kernel)
theorem k_X3_159 (g : GC) : gcV (wC g) RX3 159 3 yX3_phaseIn cX3_phaseIn 6 (some .int) 1 := mkV (ob_3 g) v_822 v_823 v_824 v_825 v_62 ⟨by decide +kernel, by decide +kernel, by decide +kernel⟩
theorem v_878 : Cond.methodLink RX3 162 yX3_spareGreen ∈ GW := gw_of (i := 878) (by decide +kernel) (by decide +kernel)
theorem v_881 : Cond.code yX3_spareGreen cX3_spareGreen 2 (some .int) ∈ GW := gw_of (i := 881) (by decide +kernel) (by decide +kernel)
theorem v_880 : Cond.instanceMethod yX3_spareGreen ∈ GW := gw_of (i := 880) (by decide +kernel) (by decide +kernel)
theorem v_26 : Cond.selects RX3 yX3_spareGreen yX3_spareGreen ∈ GW := gw_of (i := 26) (by decide +kernel) (by decide +kernel)
theorem k_X3_162 (g : GC) : gcV (wC g) RX3 162 3 yX3_spareGreen cX3_spareGreen 2 (some .int) 1 := mkV (ob_3 g) v_878 v_880 v_26 v_881 v_62 ⟨by decide +kernel, by decide +kernel, by decide +kernel⟩
theorem v_838 : Cond.methodLink RX3 165 Lib.Math.min.name ∈ GW := gw_of (i := 838) (by decide +kernel) (by decide +kernel)
theorem v_839 : Cond.static Lib.Math.min.name ∈ GW := gw_of (i := 839) (by decide +kernel) (by decide +kernel)
theorem v_840 : Cond.code Lib.Math.min.name Lib.Math.min.code 2 (some .int) ∈ GW := gw_of (i := 840) (by decide +kernel) (by decide +kernel)
theorem v_882 : Cond.methodLink RX3 168 yX3_secondsOfGreenBehind ∈ GW := gw_of (i := 882) (by decide +kernel) (by decide +kernel)
theorem v_885 : Cond.code yX3_secondsOfGreenBehind cX3_secondsOfGreenBehind 5 (some .int) ∈ GW := gw_of (i := 885) (by decide +kernel) (by decide +kernel)
theorem v_884 : Cond.instanceMethod yX3_secondsOfGreenBehind ∈ GW := gw_of (i := 884) (by decide +kernel) (by decide +kernel)
theorem v_27 : Cond.selects RX3 yX3_secondsOfGreenBehind yX3_secondsOfGreenBehind ∈ GW := gw_of (i := 27) (by decide +kernel) (by decide +kernel)
theorem k_X3_168 (g : GC) : gcV (wC g) RX3 168 3 yX3_secondsOfGreenBehind cX3_secondsOfGreenBehind 5 (some .int) 2 := mkV (ob_3 g) v_882 v_884 v_27 v_885 v_62 ⟨by decide +kernel, by decide +kernel, by decide +kernel⟩
theorem gf_X3_47 {cc : ByteArray} {nL : Nat} {rm : Room} {X : MX} {g : GC} {cn sn : Nat} {S : Mem} {L : List (Nat × Value)} {pc pc' : Nat} {st : List Value} {k : Nat} (h0 : CX RX3 cc nL rm X (wC g)) (hk : k < 5) (hdg : decode cc pc = .ok (.getfield 47, 3)) (e : pc + 3 = pc') (kk : GV X (wC g) nL cn sn S L pc' (.int (S.1 3 k 12) :: st)) : GV X (wC g) nL cn sn S L pc (.ref (wA (wC g) 3 k) :: st) :=
  r_get (T := TX3) h0 hk rfl rfl inX3 12 (by decide) v_148 rfl rfl hdg e kk
theorem gf_X4_15 {cc : ByteArray} {nL : Nat} {rm : Room} {X : MX} {g : GC} {cn sn : Nat} {S : Mem} {L : List (Nat × Value)} {pc pc' : Nat} {st : List Value} {k : Nat} (h0 : CX RX4 cc nL rm X (wC g)) (hk : k < 5) (hdg : decode cc pc = .ok (.getfield 15, 3)) (e : pc + 3 = pc') (kk : GV X (wC g) nL cn sn S L pc' (.int (S.1 4 k 1) :: st)) : GV X (wC g) nL cn sn S L pc (.ref (wA (wC g) 4 k) :: st) :=
  r_get (T := TX4) h0 hk rfl rfl inX4 1 (by decide) v_106 rfl rfl hdg e kk
theorem v_815 : Cond.methodLinkNest RX4 31 yX7_modulo "Greenwave" ∈ NW := nw_of (i := 815) (by decide +kernel) (by decide +kernel)
theorem k_X4_31 (g : GC) : gcS (wC g) RX4 31 yX7_modulo cX7_modulo 3 (some .int) 2 := mkSN v_815 v_641 v_642 v_60 ⟨by decide +kernel, by decide +kernel, by decide +kernel⟩
theorem v_816 : Cond.methodLinkNest RX4 35 yX7_read "Greenwave" ∈ NW := nw_of (i := 816) (by decide +kernel) (by decide +kernel)
theorem k_X4_35 (g : GC) : gcS (wC g) RX4 35 yX7_read cX7_read 2 (some .int) 2 := mkSN v_816 v_387 v_388 v_60 ⟨by decide +kernel, by decide +kernel, by decide +kernel⟩
theorem v_817 : Cond.methodLinkNest RX4 39 yX7_write "Greenwave" ∈ NW := nw_of (i := 817) (by decide +kernel) (by decide +kernel)
theorem k_X4_39 (g : GC) : gcS (wC g) RX4 39 yX7_write cX7_write 3 none 3 := mkSN v_817 v_376 v_377 v_60 ⟨by decide +kernel, by decide +kernel, by decide +kernel⟩
theorem gf_X4_22 {cc : ByteArray} {nL : Nat} {rm : Room} {X : MX} {g : GC} {cn sn : Nat} {S : Mem} {L : List (Nat × Value)} {pc pc' : Nat} {st : List Value} {k : Nat} (h0 : CX RX4 cc nL rm X (wC g)) (hk : k < 5) (hdg : decode cc pc = .ok (.getfield 22, 3)) (e : pc + 3 = pc') (kk : GV X (wC g) nL cn sn S L pc' (.int (S.1 4 k 3) :: st)) : GV X (wC g) nL cn sn S L pc (.ref (wA (wC g) 4 k) :: st) :=
  r_get (T := TX4) h0 hk rfl rfl inX4 3 (by decide) v_112 rfl rfl hdg e kk
theorem v_261 : Cond.fieldLink RX6 15 RX6 "second" "I" ∈ GW := gw_of (i := 261) (by decide +kernel) (by decide +kernel)
theorem pf_X6_15 {cc : ByteArray} {nL : Nat} {rm : Room} {X : MX} {g : GC} {cn sn : Nat} {S : Mem} {L : List (Nat × Value)} {pc pc' : Nat} {st : List Value} {v : Int32} (h0 : CX RX6 cc nL rm X (wC g)) (hk : 0 < 1) (hdg : decode cc pc = .ok (.putfield 15, 3)) (e : pc + 3 = pc') (kk : GV X (wC g) nL cn sn (wI S 6 0 1 v) L pc' st) : GV X (wC g) nL cn sn S L pc (.int v :: .ref (wA (wC g) 6 0) :: st) :=
  r_put (S' := (wI S 6 0 1 v)) (T := TX6) h0 hk rfl rfl inX6 tyX6 tyX6_ok nmX6 1 (by decide) v_261 rfl rfl (rfl) rfl (Nat.le_of_ble_eq_true rfl) wI_off ((congrArg (fun z => wCe (wC g) z (S.2 6 0) 6 0) wI_on).trans rfl) hdg e kk
theorem v_263 : Cond.fieldLink RX6 19 RX6 "arrivals" "I" ∈ GW := gw_of (i := 263) (by decide +kernel) (by decide +kernel)
theorem pf_X6_19 {cc : ByteArray} {nL : Nat} {rm : Room} {X : MX} {g : GC} {cn sn : Nat} {S : Mem} {L : List (Nat × Value)} {pc pc' : Nat} {st : List Value} {v : Int32} (h0 : CX RX6 cc nL rm X (wC g)) (hk : 0 < 1) (hdg : decode cc pc = .ok (.putfield 19, 3)) (e : pc + 3 = pc') (kk : GV X (wC g) nL cn sn (wI S 6 0 2 v) L pc' st) : GV X (wC g) nL cn sn S L pc (.int v :: .ref (wA (wC g) 6 0) :: st) :=
  r_put (S' := (wI S 6 0 2 v)) (T := TX6) h0 hk rfl rfl inX6 tyX6 tyX6_ok nmX6 2 (by decide) v_263 rfl rfl (rfl) rfl (Nat.le_of_ble_eq_true rfl) wI_off ((congrArg (fun z => wCe (wC g) z (S.2 6 0) 6 0) wI_on).trans rfl) hdg e kk
theorem v_264 : Cond.fieldLink RX6 22 RX6 "come" "I" ∈ GW := gw_of (i := 264) (by decide +kernel) (by decide +kernel)
theorem pf_X6_22 {cc : ByteArray} {nL : Nat} {rm : Room} {X : MX} {g : GC} {cn sn : Nat} {S : Mem} {L : List (Nat × Value)} {pc pc' : Nat} {st : List Value} {v : Int32} (h0 : CX RX6 cc nL rm X (wC g)) (hk : 0 < 1) (hdg : decode cc pc = .ok (.putfield 22, 3)) (e : pc + 3 = pc') (kk : GV X (wC g) nL cn sn (wI S 6 0 3 v) L pc' st) : GV X (wC g) nL cn sn S L pc (.int v :: .ref (wA (wC g) 6 0) :: st) :=
  r_put (S' := (wI S 6 0 3 v)) (T := TX6) h0 hk rfl rfl inX6 tyX6 tyX6_ok nmX6 3 (by decide) v_264 rfl rfl (rfl) rfl (Nat.le_of_ble_eq_true rfl) wI_off ((congrArg (fun z => wCe (wC g) z (S.2 6 0) 6 0) wI_on).trans rfl) hdg e kk
theorem v_266 : Cond.fieldLink RX6 25 RX6 "through" "I" ∈ GW := gw_of (i := 266) (by decide +kernel) (by decide +kernel)
theorem pf_X6_25 {cc : ByteArray} {nL : Nat} {rm : Room} {X : MX} {g : GC} {cn sn : Nat} {S : Mem} {L : List (Nat × Value)} {pc pc' : Nat} {st : List Value} {v : Int32} (h0 : CX RX6 cc nL rm X (wC g)) (hk : 0 < 1) (hdg : decode cc pc = .ok (.putfield 25, 3)) (e : pc + 3 = pc') (kk : GV X (wC g) nL cn sn (wI S 6 0 4 v) L pc' st) : GV X (wC g) nL cn sn S L pc (.int v :: .ref (wA (wC g) 6 0) :: st) :=
  r_put (S' := (wI S 6 0 4 v)) (T := TX6) h0 hk rfl rfl inX6 tyX6 tyX6_ok nmX6 4 (by decide) v_266 rfl rfl (rfl) rfl (Nat.le_of_ble_eq_true rfl) wI_off ((congrArg (fun z => wCe (wC g) z (S.2 6 0) 6 0) wI_on).trans rfl) hdg e kk
theorem v_268 : Cond.fieldLink RX6 28 RX6 "hasBegun" "Z" ∈ GW := gw_of (i := 268) (by decide +kernel) (by decide +kernel)
theorem pf_X6_28 {cc : ByteArray} {nL : Nat} {rm : Room} {X : MX} {g : GC} {cn sn : Nat} {S : Mem} {L : List (Nat × Value)} {pc pc' : Nat} {st : List Value} {v : Int32} (h0 : CX RX6 cc nL rm X (wC g)) (hk : 0 < 1) (hdg : decode cc pc = .ok (.putfield 28, 3)) (e : pc + 3 = pc') (hz : nb v = v) (kk : GV X (wC g) nL cn sn (wI S 6 0 5 v) L pc' st) : GV X (wC g) nL cn sn S L pc (.int v :: .ref (wA (wC g) 6 0) :: st) :=
  r_put (S' := (wI S 6 0 5 v)) (T := TX6) h0 hk rfl rfl inX6 tyX6 tyX6_ok nmX6 5 (by decide) v_268 rfl rfl (nbz hz) (nbf hz) (Nat.le_of_ble_eq_true rfl) wI_off ((congrArg (fun z => wCe (wC g) z (S.2 6 0) 6 0) wI_on).trans rfl) hdg e kk
theorem gf_X6_19 {cc : ByteArray} {nL : Nat} {rm : Room} {X : MX} {g : GC} {cn sn : Nat} {S : Mem} {L : List (Nat × Value)} {pc pc' : Nat} {st : List Value} (h0 : CX RX6 cc nL rm X (wC g)) (hk : 0 < 1) (hdg : decode cc pc = .ok (.getfield 19, 3)) (e : pc + 3 = pc') (kk : GV X (wC g) nL cn sn S L pc' (.int (S.1 6 0 2) :: st)) : GV X (wC g) nL cn sn S L pc (.ref (wA (wC g) 6 0) :: st) :=
  r_get (T := TX6) h0 hk rfl rfl inX6 2 (by decide) v_263 rfl rfl hdg e kk
theorem v_809 : Cond.methodLink RX6 77 yX3_flowOf ∈ GW := gw_of (i := 809) (by decide +kernel) (by decide +kernel)
theorem v_553 : Cond.code yX3_flowOf cX3_flowOf 2 (some .int) ∈ GW := gw_of (i := 553) (by decide +kernel) (by decide +kernel)
theorem v_551 : Cond.instanceMethod yX3_flowOf ∈ GW := gw_of (i := 551) (by decide +kernel) (by decide +kernel)
theorem v_552 : Cond.selects RX3 yX3_flowOf yX3_flowOf ∈ GW := gw_of (i := 552) (by decide +kernel) (by decide +kernel)
theorem k_X6_77 (g : GC) : gcV (wC g) RX6 77 3 yX3_flowOf cX3_flowOf 2 (some .int) 1 := mkV (ob_3 g) v_809 v_551 v_552 v_553 v_62 ⟨by decide +kernel, by decide +kernel, by decide +kernel⟩
theorem v_145 : Cond.fieldLinkNest RX6 48 RX3 "waiting" "I" "Greenwave" ∈ NW := nw_of (i := 145) (by decide +kernel) (by decide +kernel)
theorem gf_X6_48 {cc : ByteArray} {nL : Nat} {rm : Room} {X : MX} {g : GC} {cn sn : Nat} {S : Mem} {L : List (Nat × Value)} {pc pc' : Nat} {st : List Value} {k : Nat} (h0 : CX RX6 cc nL rm X (wC g)) (hk : k < 5) (hdg : decode cc pc = .ok (.getfield 48, 3)) (e : pc + 3 = pc') (kk : GV X (wC g) nL cn sn S L pc' (.int (S.1 3 k 11) :: st)) : GV X (wC g) nL cn sn S L pc (.ref (wA (wC g) 3 k) :: st) :=
  r_getN (T := TX3) h0 hk rfl rfl inX3 11 (by decide) v_145 rfl rfl hdg e kk
theorem pf_X6_48 {cc : ByteArray} {nL : Nat} {rm : Room} {X : MX} {g : GC} {cn sn : Nat} {S : Mem} {L : List (Nat × Value)} {pc pc' : Nat} {st : List Value} {k : Nat} {v : Int32} (h0 : CX RX6 cc nL rm X (wC g)) (hk : k < 5) (hdg : decode cc pc = .ok (.putfield 48, 3)) (e : pc + 3 = pc') (kk : GV X (wC g) nL cn sn (wI S 3 k 11 v) L pc' st) : GV X (wC g) nL cn sn S L pc (.int v :: .ref (wA (wC g) 3 k) :: st) :=
  r_putN (S' := (wI S 3 k 11 v)) (T := TX3) h0 hk rfl rfl inX3 tyX3 tyX3_ok nmX3 11 (by decide) v_145 rfl rfl (rfl) rfl (Nat.le_of_ble_eq_true rfl) wI_off ((congrArg (fun z => wCe (wC g) z (S.2 3 k) 3 k) wI_on).trans rfl) hdg e kk
theorem gf_X6_22 {cc : ByteArray} {nL : Nat} {rm : Room} {X : MX} {g : GC} {cn sn : Nat} {S : Mem} {L : List (Nat × Value)} {pc pc' : Nat} {st : List Value} (h0 : CX RX6 cc nL rm X (wC g)) (hk : 0 < 1) (hdg : decode cc pc = .ok (.getfield 22, 3)) (e : pc + 3 = pc') (kk : GV X (wC g) nL cn sn S L pc' (.int (S.1 6 0 3) :: st)) : GV X (wC g) nL cn sn S L pc (.ref (wA (wC g) 6 0) :: st) :=
  r_get (T := TX6) h0 hk rfl rfl inX6 3 (by decide) v_264 rfl rfl hdg e kk
theorem v_260 : Cond.fieldLink RX6 9 RX6 "corridor" "LGreenwave$Corridor;" ∈ GW := gw_of (i := 260) (by decide +kernel) (by decide +kernel)
theorem gf_X6_9 {cc : ByteArray} {nL : Nat} {rm : Room} {X : MX} {g : GC} {cn sn : Nat} {S : Mem} {L : List (Nat × Value)} {pc pc' : Nat} {st : List Value} (h0 : CX RX6 cc nL rm X (wC g)) (hk : 0 < 1) (hdg : decode cc pc = .ok (.getfield 9, 3)) (e : pc + 3 = pc') (kk : GV X (wC g) nL cn sn S L pc' (.ref (wA (wC g) 1 0) :: st)) : GV X (wC g) nL cn sn S L pc (.ref (wA (wC g) 6 0) :: st) :=
  r_get (T := TX6) h0 hk rfl rfl inX6 0 (by decide) v_260 rfl rfl hdg e kk
theorem v_845 : Cond.methodLink RX6 80 yX1_isLast ∈ GW := gw_of (i := 845) (by decide +kernel) (by decide +kernel)
theorem k_X6_80 (g : GC) : gcV (wC g) RX6 80 1 yX1_isLast cX1_isLast 2 (some .boolean) 1 := mkV (ob_1 g) v_845 v_570 v_571 v_572 v_61 ⟨by decide +kernel, by decide +kernel, by decide +kernel⟩
theorem v_846 : Cond.methodLink RX6 83 yX1_vehiclesOnLinkFrom ∈ GW := gw_of (i := 846) (by decide +kernel) (by decide +kernel)
theorem v_849 : Cond.code yX1_vehiclesOnLinkFrom cX1_vehiclesOnLinkFrom 2 (some .int) ∈ GW := gw_of (i := 849) (by decide +kernel) (by decide +kernel)
theorem v_847 : Cond.instanceMethod yX1_vehiclesOnLinkFrom ∈ GW := gw_of (i := 847) (by decide +kernel) (by decide +kernel)
theorem v_848 : Cond.selects RX1 yX1_vehiclesOnLinkFrom yX1_vehiclesOnLinkFrom ∈ GW := gw_of (i := 848) (by decide +kernel) (by decide +kernel)
theorem k_X6_83 (g : GC) : gcV (wC g) RX6 83 1 yX1_vehiclesOnLinkFrom cX1_vehiclesOnLinkFrom 2 (some .int) 1 := mkV (ob_1 g) v_846 v_847 v_848 v_849 v_61 ⟨by decide +kernel, by decide +kernel, by decide +kernel⟩
theorem v_810 : Cond.methodLink RX6 53 yX1_linkFrom ∈ GW := gw_of (i := 810) (by decide +kernel) (by decide +kernel)
theorem k_X6_53 (g : GC) : gcV (wC g) RX6 53 1 yX1_linkFrom cX1_linkFrom 3 (some (.object "Greenwave$Link")) 1 := mkV (ob_1 g) v_810 v_566 v_567 v_568 v_61 ⟨by decide +kernel, by decide +kernel, by decide +kernel⟩
theorem v_110 : Cond.fieldLinkNest RX6 86 RX4 "room" "I" "Greenwave" ∈ NW := nw_of (i := 110) (by decide +kernel) (by decide +kernel)
theorem gf_X6_86 {cc : ByteArray} {nL : Nat} {rm : Room} {X : MX} {g : GC} {cn sn : Nat} {S : Mem} {L : List (Nat × Value)} {pc pc' : Nat} {st : List Value} {k : Nat} (h0 : CX RX6 cc nL rm X (wC g)) (hk : k < 5) (hdg : decode cc pc = .ok (.getfield 86, 3)) (e : pc + 3 = pc') (kk : GV X (wC g) nL cn sn S L pc' (.int (S.1 4 k 2) :: st)) : GV X (wC g) nL cn sn S L pc (.ref (wA (wC g) 4 k) :: st) :=
  r_getN (T := TX4) h0 hk rfl rfl inX4 2 (by decide) v_110 rfl rfl hdg e kk
theorem v_804 : Cond.methodLink RX6 40 yX1_at ∈ GW := gw_of (i := 804) (by decide +kernel) (by decide +kernel)
theorem k_X6_40 (g : GC) : gcV (wC g) RX6 40 1 yX1_at cX1_at 2 (some (.object "Greenwave$Junction")) 1 := mkV (ob_1 g) v_804 v_288 v_289 v_290 v_61 ⟨by decide +kernel, by decide +kernel, by decide +kernel⟩
theorem v_149 : Cond.fieldLinkNest RX6 67 RX3 "ready" "I" "Greenwave" ∈ NW := nw_of (i := 149) (by decide +kernel) (by decide +kernel)
theorem pf_X6_67 {cc : ByteArray} {nL : Nat} {rm : Room} {X : MX} {g : GC} {cn sn : Nat} {S : Mem} {L : List (Nat × Value)} {pc pc' : Nat} {st : List Value} {k : Nat} {v : Int32} (h0 : CX RX6 cc nL rm X (wC g)) (hk : k < 5) (hdg : decode cc pc = .ok (.putfield 67, 3)) (e : pc + 3 = pc') (kk : GV X (wC g) nL cn sn (wI S 3 k 12 v) L pc' st) : GV X (wC g) nL cn sn S L pc (.int v :: .ref (wA (wC g) 3 k) :: st) :=
  r_putN (S' := (wI S 3 k 12 v)) (T := TX3) h0 hk rfl rfl inX3 tyX3 tyX3_ok nmX3 12 (by decide) v_149 rfl rfl (rfl) rfl (Nat.le_of_ble_eq_true rfl) wI_off ((congrArg (fun z => wCe (wC g) z (S.2 3 k) 3 k) wI_on).trans rfl) hdg e kk
theorem v_134 : Cond.fieldLinkNest RX6 89 RX3 "link" "LGreenwave$Link;" "Greenwave" ∈ NW := nw_of (i := 134) (by decide +kernel) (by decide +kernel)
theorem gf_X6_89 {cc : ByteArray} {nL : Nat} {rm : Room} {X : MX} {g : GC} {cn sn : Nat} {S : Mem} {L : List (Nat × Value)} {pc pc' : Nat} {st : List Value} {k : Nat} (h0 : CX RX6 cc nL rm X (wC g)) (hk : k < 5) (hdg : decode cc pc = .ok (.getfield 89, 3)) (e : pc + 3 = pc') (kk : GV X (wC g) nL cn sn S L pc' (.ref (wA (wC g) 4 k) :: st)) : GV X (wC g) nL cn sn S L pc (.ref (wA (wC g) 3 k) :: st) :=
  r_getN (T := TX3) h0 hk rfl rfl inX3 6 (by decide) v_134 rfl rfl hdg e kk
theorem gf_X6_15 {cc : ByteArray} {nL : Nat} {rm : Room} {X : MX} {g : GC} {cn sn : Nat} {S : Mem} {L : List (Nat × Value)} {pc pc' : Nat} {st : List Value} (h0 : CX RX6 cc nL rm X (wC g)) (hk : 0 < 1) (hdg : decode cc pc = .ok (.getfield 15, 3)) (e : pc + 3 = pc') (kk : GV X (wC g) nL cn sn S L pc' (.int (S.1 6 0 1) :: st)) : GV X (wC g) nL cn sn S L pc (.ref (wA (wC g) 6 0) :: st) :=
  r_get (T := TX6) h0 hk rfl rfl inX6 1 (by decide) v_261 rfl rfl hdg e kk
theorem v_855 : Cond.methodLink RX6 93 yX4_send ∈ GW := gw_of (i := 855) (by decide +kernel) (by decide +kernel)
theorem v_858 : Cond.code yX4_send cX4_send 3 none ∈ GW := gw_of (i := 858) (by decide +kernel) (by decide +kernel)
theorem v_856 : Cond.instanceMethod yX4_send ∈ GW := gw_of (i := 856) (by decide +kernel) (by decide +kernel)
theorem v_857 : Cond.selects RX4 yX4_send yX4_send ∈ GW := gw_of (i := 857) (by decide +kernel) (by decide +kernel)
theorem k_X6_93 (g : GC) : gcV (wC g) RX6 93 4 yX4_send cX4_send 3 none 1 := mkV (ob_4 g) v_855 v_856 v_857 v_858 v_63 ⟨by decide +kernel, by decide +kernel, by decide +kernel⟩
theorem gf_X6_25 {cc : ByteArray} {nL : Nat} {rm : Room} {X : MX} {g : GC} {cn sn : Nat} {S : Mem} {L : List (Nat × Value)} {pc pc' : Nat} {st : List Value} (h0 : CX RX6 cc nL rm X (wC g)) (hk : 0 < 1) (hdg : decode cc pc = .ok (.getfield 25, 3)) (e : pc + 3 = pc') (kk : GV X (wC g) nL cn sn S L pc' (.int (S.1 6 0 4) :: st)) : GV X (wC g) nL cn sn S L pc (.ref (wA (wC g) 6 0) :: st) :=
  r_get (T := TX6) h0 hk rfl rfl inX6 4 (by decide) v_266 rfl rfl hdg e kk
theorem v_192 : Cond.fieldLinkNest RX6 35 RX1 "size" "I" "Greenwave" ∈ NW := nw_of (i := 192) (by decide +kernel) (by decide +kernel)
theorem gf_X6_35 {cc : ByteArray} {nL : Nat} {rm : Room} {X : MX} {g : GC} {cn sn : Nat} {S : Mem} {L : List (Nat × Value)} {pc pc' : Nat} {st : List Value} (h0 : CX RX6 cc nL rm X (wC g)) (hk : 0 < 1) (hdg : decode cc pc = .ok (.getfield 35, 3)) (e : pc + 3 = pc') (kk : GV X (wC g) nL cn sn S L pc' (.int (S.1 1 0 1) :: st)) : GV X (wC g) nL cn sn S L pc (.ref (wA (wC g) 1 0) :: st) :=
  r_getN (T := TX1) h0 hk rfl rfl inX1 1 (by decide) v_192 rfl rfl hdg e kk
theorem v_811 : Cond.methodLink RX6 57 yX4_land ∈ GW := gw_of (i := 811) (by decide +kernel) (by decide +kernel)
theorem v_814 : Cond.code yX4_land cX4_land 4 (some .int) ∈ GW := gw_of (i := 814) (by decide +kernel) (by decide +kernel)
theorem v_812 : Cond.instanceMethod yX4_land ∈ GW := gw_of (i := 812) (by decide +kernel) (by decide +kernel)
theorem v_813 : Cond.selects RX4 yX4_land yX4_land ∈ GW := gw_of (i := 813) (by decide +kernel) (by decide +kernel)
theorem k_X6_57 (g : GC) : gcV (wC g) RX6 57 4 yX4_land cX4_land 4 (some .int) 1 := mkV (ob_4 g) v_811 v_812 v_813 v_814 v_63 ⟨by decide +kernel, by decide +kernel, by decide +kernel⟩
theorem v_805 : Cond.methodLink RX6 44 yX6_letCome ∈ GW := gw_of (i := 805) (by decide +kernel) (by decide +kernel)
theorem v_808 : Cond.code yX6_letCome cX6_letCome 2 none ∈ GW := gw_of (i := 808) (by decide +kernel) (by decide +kernel)
theorem v_67 : Cond.initialized RX6 ∈ GW := gw_of (i := 67) (by decide +kernel) (by decide +kernel)
theorem v_807 : Cond.instanceMethod yX6_letCome ∈ GW := gw_of (i := 807) (by decide +kernel) (by decide +kernel)
theorem v_21 : Cond.selects RX6 yX6_letCome yX6_letCome ∈ GW := gw_of (i := 21) (by decide +kernel) (by decide +kernel)
theorem k_X6_44 (g : GC) : gcV (wC g) RX6 44 6 yX6_letCome cX6_letCome 2 none 1 := mkV (ob_6 g) v_805 v_807 v_21 v_808 v_67 ⟨by decide +kernel, by decide +kernel, by decide +kernel⟩
theorem v_818 : Cond.methodLink RX6 63 yX3_growReady ∈ GW := gw_of (i := 818) (by decide +kernel) (by decide +kernel)
theorem v_821 : Cond.code yX3_growReady cX3_growReady 4 none ∈ GW := gw_of (i := 821) (by decide +kernel) (by decide +kernel)
theorem v_819 : Cond.instanceMethod yX3_growReady ∈ GW := gw_of (i := 819) (by decide +kernel) (by decide +kernel)
theorem v_820 : Cond.selects RX3 yX3_growReady yX3_growReady ∈ GW := gw_of (i := 820) (by decide +kernel) (by decide +kernel)
theorem k_X6_63 (g : GC) : gcV (wC g) RX6 63 3 yX3_growReady cX3_growReady 4 none 1 := mkV (ob_3 g) v_818 v_819 v_820 v_821 v_62 ⟨by decide +kernel, by decide +kernel, by decide +kernel⟩
theorem gf_X6_67 {cc : ByteArray} {nL : Nat} {rm : Room} {X : MX} {g : GC} {cn sn : Nat} {S : Mem} {L : List (Nat × Value)} {pc pc' : Nat} {st : List Value} {k : Nat} (h0 : CX RX6 cc nL rm X (wC g)) (hk : k < 5) (hdg : decode cc pc = .ok (.getfield 67, 3)) (e : pc + 3 = pc') (kk : GV X (wC g) nL cn sn S L pc' (.int (S.1 3 k 12) :: st)) : GV X (wC g) nL cn sn S L pc (.ref (wA (wC g) 3 k) :: st) :=
  r_getN (T := TX3) h0 hk rfl rfl inX3 12 (by decide) v_149 rfl rfl hdg e kk
theorem v_841 : Cond.methodLink RX6 70 yX6_hasRoomBehind ∈ GW := gw_of (i := 841) (by decide +kernel) (by decide +kernel)
theorem v_844 : Cond.code yX6_hasRoomBehind cX6_hasRoomBehind 2 (some .boolean) ∈ GW := gw_of (i := 844) (by decide +kernel) (by decide +kernel)
theorem v_843 : Cond.instanceMethod yX6_hasRoomBehind ∈ GW := gw_of (i := 843) (by decide +kernel) (by decide +kernel)
theorem v_24 : Cond.selects RX6 yX6_hasRoomBehind yX6_hasRoomBehind ∈ GW := gw_of (i := 24) (by decide +kernel) (by decide +kernel)
theorem k_X6_70 (g : GC) : gcV (wC g) RX6 70 6 yX6_hasRoomBehind cX6_hasRoomBehind 2 (some .boolean) 1 := mkV (ob_6 g) v_841 v_843 v_24 v_844 v_67 ⟨by decide +kernel, by decide +kernel, by decide +kernel⟩
theorem v_851 : Cond.methodLink RX6 74 yX6_letLeave ∈ GW := gw_of (i := 851) (by decide +kernel) (by decide +kernel)
theorem v_854 : Cond.code yX6_letLeave cX6_letLeave 3 none ∈ GW := gw_of (i := 854) (by decide +kernel) (by decide +kernel)
theorem v_853 : Cond.instanceMethod yX6_letLeave ∈ GW := gw_of (i := 853) (by decide +kernel) (by decide +kernel)
theorem v_25 : Cond.selects RX6 yX6_letLeave yX6_letLeave ∈ GW := gw_of (i := 25) (by decide +kernel) (by decide +kernel)
theorem k_X6_74 (g : GC) : gcV (wC g) RX6 74 6 yX6_letLeave cX6_letLeave 3 none 1 := mkV (ob_6 g) v_851 v_853 v_25 v_854 v_67 ⟨by decide +kernel, by decide +kernel, by decide +kernel⟩
theorem v_800 : Cond.methodLink RX6 32 yX6_passSecond ∈ GW := gw_of (i := 800) (by decide +kernel) (by decide +kernel)
theorem v_803 : Cond.code yX6_passSecond cX6_passSecond 3 none ∈ GW := gw_of (i := 803) (by decide +kernel) (by decide +kernel)
theorem v_802 : Cond.instanceMethod yX6_passSecond ∈ GW := gw_of (i := 802) (by decide +kernel) (by decide +kernel)
theorem v_20 : Cond.selects RX6 yX6_passSecond yX6_passSecond ∈ GW := gw_of (i := 20) (by decide +kernel) (by decide +kernel)
theorem k_X6_32 (g : GC) : gcV (wC g) RX6 32 6 yX6_passSecond cX6_passSecond 3 none 0 := mkV (ob_6 g) v_800 v_802 v_20 v_803 v_67 ⟨by decide +kernel, by decide +kernel, by decide +kernel⟩
theorem v_422 : Cond.fieldLink RX7 10 RX7 "corridor" "LGreenwave$Corridor;" ∈ GW := gw_of (i := 422) (by decide +kernel) (by decide +kernel)
theorem gf_X7_10 {cc : ByteArray} {nL : Nat} {rm : Room} {X : MX} {g : GC} {cn sn : Nat} {S : Mem} {L : List (Nat × Value)} {pc pc' : Nat} {st : List Value} (h0 : CX RX7 cc nL rm X (wC g)) (hk : 0 < 1) (hdg : decode cc pc = .ok (.getfield 10, 3)) (e : pc + 3 = pc') (kk : GV X (wC g) nL cn sn S L pc' (.ref (wA (wC g) 1 0) :: st)) : GV X (wC g) nL cn sn S L pc (.ref (wA (wC g) 7 0) :: st) :=
  r_get (T := TX7) h0 hk rfl rfl inX7 0 (by decide) v_422 rfl rfl hdg e kk
theorem v_193 : Cond.fieldLinkNest RX7 133 RX1 "size" "I" "Greenwave" ∈ NW := nw_of (i := 193) (by decide +kernel) (by decide +kernel)
theorem gf_X7_133 {cc : ByteArray} {nL : Nat} {rm : Room} {X : MX} {g : GC} {cn sn : Nat} {S : Mem} {L : List (Nat × Value)} {pc pc' : Nat} {st : List Value} (h0 : CX RX7 cc nL rm X (wC g)) (hk : 0 < 1) (hdg : decode cc pc = .ok (.getfield 133, 3)) (e : pc + 3 = pc') (kk : GV X (wC g) nL cn sn S L pc' (.int (S.1 1 0 1) :: st)) : GV X (wC g) nL cn sn S L pc (.ref (wA (wC g) 1 0) :: st) :=
  r_getN (T := TX1) h0 hk rfl rfl inX1 1 (by decide) v_193 rfl rfl hdg e kk
theorem v_424 : Cond.fieldLink RX7 28 RX7 "traffic" "LGreenwave$Traffic;" ∈ GW := gw_of (i := 424) (by decide +kernel) (by decide +kernel)
theorem gf_X7_28 {cc : ByteArray} {nL : Nat} {rm : Room} {X : MX} {g : GC} {cn sn : Nat} {S : Mem} {L : List (Nat × Value)} {pc pc' : Nat} {st : List Value} (h0 : CX RX7 cc nL rm X (wC g)) (hk : 0 < 1) (hdg : decode cc pc = .ok (.getfield 28, 3)) (e : pc + 3 = pc') (kk : GV X (wC g) nL cn sn S L pc' (.ref (wA (wC g) 6 0) :: st)) : GV X (wC g) nL cn sn S L pc (.ref (wA (wC g) 7 0) :: st) :=
  r_get (T := TX7) h0 hk rfl rfl inX7 2 (by decide) v_424 rfl rfl hdg e kk
theorem v_262 : Cond.fieldLinkNest RX7 179 RX6 "second" "I" "Greenwave" ∈ NW := nw_of (i := 262) (by decide +kernel) (by decide +kernel)
theorem gf_X7_179 {cc : ByteArray} {nL : Nat} {rm : Room} {X : MX} {g : GC} {cn sn : Nat} {S : Mem} {L : List (Nat × Value)} {pc pc' : Nat} {st : List Value} (h0 : CX RX7 cc nL rm X (wC g)) (hk : 0 < 1) (hdg : decode cc pc = .ok (.getfield 179, 3)) (e : pc + 3 = pc') (kk : GV X (wC g) nL cn sn S L pc' (.int (S.1 6 0 1) :: st)) : GV X (wC g) nL cn sn S L pc (.ref (wA (wC g) 6 0) :: st) :=
  r_getN (T := TX6) h0 hk rfl rfl inX6 1 (by decide) v_262 rfl rfl hdg e kk
theorem v_265 : Cond.fieldLinkNest RX7 212 RX6 "come" "I" "Greenwave" ∈ NW := nw_of (i := 265) (by decide +kernel) (by decide +kernel)
theorem gf_X7_212 {cc : ByteArray} {nL : Nat} {rm : Room} {X : MX} {g : GC} {cn sn : Nat} {S : Mem} {L : List (Nat × Value)} {pc pc' : Nat} {st : List Value} (h0 : CX RX7 cc nL rm X (wC g)) (hk : 0 < 1) (hdg : decode cc pc = .ok (.getfield 212, 3)) (e : pc + 3 = pc') (kk : GV X (wC g) nL cn sn S L pc' (.int (S.1 6 0 3) :: st)) : GV X (wC g) nL cn sn S L pc (.ref (wA (wC g) 6 0) :: st) :=
  r_getN (T := TX6) h0 hk rfl rfl inX6 3 (by decide) v_265 rfl rfl hdg e kk
theorem v_267 : Cond.fieldLinkNest RX7 215 RX6 "through" "I" "Greenwave" ∈ NW := nw_of (i := 267) (by decide +kernel) (by decide +kernel)
theorem gf_X7_215 {cc : ByteArray} {nL : Nat} {rm : Room} {X : MX} {g : GC} {cn sn : Nat} {S : Mem} {L : List (Nat × Value)} {pc pc' : Nat} {st : List Value} (h0 : CX RX7 cc nL rm X (wC g)) (hk : 0 < 1) (hdg : decode cc pc = .ok (.getfield 215, 3)) (e : pc + 3 = pc') (kk : GV X (wC g) nL cn sn S L pc' (.int (S.1 6 0 4) :: st)) : GV X (wC g) nL cn sn S L pc (.ref (wA (wC g) 6 0) :: st) :=
  r_getN (T := TX6) h0 hk rfl rfl inX6 4 (by decide) v_267 rfl rfl hdg e kk
theorem v_919 : Cond.fieldLink RX8 72 RX8 "thrown" "I" ∈ GW := gw_of (i := 919) (by decide +kernel) (by decide +kernel)
theorem gf_X8_72 {cc : ByteArray} {nL : Nat} {rm : Room} {X : MX} {g : GR} {cn sn : Nat} {S : Mem} {L : List (Nat × Value)} {pc pc' : Nat} {st : List Value} (h0 : CX RX8 cc nL rm X (wR g)) (hk : 0 < 1) (hdg : decode cc pc = .ok (.getfield 72, 3)) (e : pc + 3 = pc') (kk : GV X (wR g) nL cn sn S L pc' (.int (S.1 8 0 0) :: st)) : GV X (wR g) nL cn sn S L pc (.ref (wA (wR g) 8 0) :: st) :=
  r_get (T := TX8) h0 hk rfl rfl inX8 0 (by decide) v_919 rfl rfl hdg e kk
theorem pf_X8_72 {cc : ByteArray} {nL : Nat} {rm : Room} {X : MX} {g : GR} {cn sn : Nat} {S : Mem} {L : List (Nat × Value)} {pc pc' : Nat} {st : List Value} {v : Int32} (h0 : CX RX8 cc nL rm X (wR g)) (hk : 0 < 1) (hdg : decode cc pc = .ok (.putfield 72, 3)) (e : pc + 3 = pc') (kk : GV X (wR g) nL cn sn (wI S 8 0 0 v) L pc' st) : GV X (wR g) nL cn sn S L pc (.int v :: .ref (wA (wR g) 8 0) :: st) :=
  r_put (S' := (wI S 8 0 0 v)) (T := TX8) h0 hk rfl rfl inX8 tyX8 tyX8_ok nmX8 0 (by decide) v_919 rfl rfl (rfl) rfl (Nat.le_of_ble_eq_true rfl) wI_off ((congrArg (fun z => wCe (wR g) z (S.2 8 0) 8 0) wI_on).trans rfl) hdg e kk
theorem v_920 : Cond.fieldLink RX8 76 RX8 "junctions" "I" ∈ GW := gw_of (i := 920) (by decide +kernel) (by decide +kernel)
theorem gf_X8_76 {cc : ByteArray} {nL : Nat} {rm : Room} {X : MX} {g : GR} {cn sn : Nat} {S : Mem} {L : List (Nat × Value)} {pc pc' : Nat} {st : List Value} (h0 : CX RX8 cc nL rm X (wR g)) (hk : 0 < 1) (hdg : decode cc pc = .ok (.getfield 76, 3)) (e : pc + 3 = pc') (kk : GV X (wR g) nL cn sn S L pc' (.int (S.1 8 0 1) :: st)) : GV X (wR g) nL cn sn S L pc (.ref (wA (wR g) 8 0) :: st) :=
  r_get (T := TX8) h0 hk rfl rfl inX8 1 (by decide) v_920 rfl rfl hdg e kk
theorem v_1010 : Cond.methodLink RX8 79 yX8_in ∈ GW := gw_of (i := 1010) (by decide +kernel) (by decide +kernel)
theorem v_1012 : Cond.code yX8_in cX8_in 3 (some .boolean) ∈ GW := gw_of (i := 1012) (by decide +kernel) (by decide +kernel)
theorem v_74 : Cond.initialized RX8 ∈ GW := gw_of (i := 74) (by decide +kernel) (by decide +kernel)
theorem v_1011 : Cond.static yX8_in ∈ GW := gw_of (i := 1011) (by decide +kernel) (by decide +kernel)
theorem k_X8_79 (g : GR) : gcS (wR g) RX8 79 yX8_in cX8_in 3 (some .boolean) 3 := mkS v_1010 v_1011 v_1012 v_74 ⟨by decide +kernel, by decide +kernel, by decide +kernel⟩
theorem pf_X8_76 {cc : ByteArray} {nL : Nat} {rm : Room} {X : MX} {g : GR} {cn sn : Nat} {S : Mem} {L : List (Nat × Value)} {pc pc' : Nat} {st : List Value} {v : Int32} (h0 : CX RX8 cc nL rm X (wR g)) (hk : 0 < 1) (hdg : decode cc pc = .ok (.putfield 76, 3)) (e : pc + 3 = pc') (kk : GV X (wR g) nL cn sn (wI S 8 0 1 v) L pc' st) : GV X (wR g) nL cn sn S L pc (.int v :: .ref (wA (wR g) 8 0) :: st) :=
  r_put (S' := (wI S 8 0 1 v)) (T := TX8) h0 hk rfl rfl inX8 tyX8 tyX8_ok nmX8 1 (by decide) v_920 rfl rfl (rfl) rfl (Nat.le_of_ble_eq_true rfl) wI_off ((congrArg (fun z => wCe (wR g) z (S.2 8 0) 8 0) wI_on).trans rfl) hdg e kk
theorem v_921 : Cond.fieldLink RX8 83 RX8 "cycle" "I" ∈ GW := gw_of (i := 921) (by decide +kernel) (by decide +kernel)
theorem pf_X8_83 {cc : ByteArray} {nL : Nat} {rm : Room} {X : MX} {g : GR} {cn sn : Nat} {S : Mem} {L : List (Nat × Value)} {pc pc' : Nat} {st : List Value} {v : Int32} (h0 : CX RX8 cc nL rm X (wR g)) (hk : 0 < 1) (hdg : decode cc pc = .ok (.putfield 83, 3)) (e : pc + 3 = pc') (kk : GV X (wR g) nL cn sn (wI S 8 0 2 v) L pc' st) : GV X (wR g) nL cn sn S L pc (.int v :: .ref (wA (wR g) 8 0) :: st) :=
  r_put (S' := (wI S 8 0 2 v)) (T := TX8) h0 hk rfl rfl inX8 tyX8 tyX8_ok nmX8 2 (by decide) v_921 rfl rfl (rfl) rfl (Nat.le_of_ble_eq_true rfl) wI_off ((congrArg (fun z => wCe (wR g) z (S.2 8 0) 8 0) wI_on).trans rfl) hdg e kk
theorem v_922 : Cond.fieldLink RX8 86 RX8 "isBegun" "Z" ∈ GW := gw_of (i := 922) (by decide +kernel) (by decide +kernel)
theorem pf_X8_86 {cc : ByteArray} {nL : Nat} {rm : Room} {X : MX} {g : GR} {cn sn : Nat} {S : Mem} {L : List (Nat × Value)} {pc pc' : Nat} {st : List Value} {v : Int32} (h0 : CX RX8 cc nL rm X (wR g)) (hk : 0 < 1) (hdg : decode cc pc = .ok (.putfield 86, 3)) (e : pc + 3 = pc') (hz : nb v = v) (kk : GV X (wR g) nL cn sn (wI S 8 0 3 v) L pc' st) : GV X (wR g) nL cn sn S L pc (.int v :: .ref (wA (wR g) 8 0) :: st) :=
  r_put (S' := (wI S 8 0 3 v)) (T := TX8) h0 hk rfl rfl inX8 tyX8 tyX8_ok nmX8 3 (by decide) v_922 rfl rfl (nbz hz) (nbf hz) (Nat.le_of_ble_eq_true rfl) wI_off ((congrArg (fun z => wCe (wR g) z (S.2 8 0) 8 0) wI_on).trans rfl) hdg e kk
theorem v_933 : Cond.fieldLink RX8 90 RX8 "clock" "I" ∈ GW := gw_of (i := 933) (by decide +kernel) (by decide +kernel)
theorem pf_X8_90 {cc : ByteArray} {nL : Nat} {rm : Room} {X : MX} {g : GR} {cn sn : Nat} {S : Mem} {L : List (Nat × Value)} {pc pc' : Nat} {st : List Value} {v : Int32} (h0 : CX RX8 cc nL rm X (wR g)) (hk : 0 < 1) (hdg : decode cc pc = .ok (.putfield 90, 3)) (e : pc + 3 = pc') (kk : GV X (wR g) nL cn sn (wI S 8 0 14 v) L pc' st) : GV X (wR g) nL cn sn S L pc (.int v :: .ref (wA (wR g) 8 0) :: st) :=
  r_put (S' := (wI S 8 0 14 v)) (T := TX8) h0 hk rfl rfl inX8 tyX8 tyX8_ok nmX8 14 (by decide) v_933 rfl rfl (rfl) rfl (Nat.le_of_ble_eq_true rfl) wI_off ((congrArg (fun z => wCe (wR g) z (S.2 8 0) 8 0) wI_on).trans rfl) hdg e kk
theorem v_934 : Cond.fieldLink RX8 93 RX8 "arrivals" "I" ∈ GW := gw_of (i := 934) (by decide +kernel) (by decide +kernel)
theorem pf_X8_93 {cc : ByteArray} {nL : Nat} {rm : Room} {X : MX} {g : GR} {cn sn : Nat} {S : Mem} {L : List (Nat × Value)} {pc pc' : Nat} {st : List Value} {v : Int32} (h0 : CX RX8 cc nL rm X (wR g)) (hk : 0 < 1) (hdg : decode cc pc = .ok (.putfield 93, 3)) (e : pc + 3 = pc') (kk : GV X (wR g) nL cn sn (wI S 8 0 15 v) L pc' st) : GV X (wR g) nL cn sn S L pc (.int v :: .ref (wA (wR g) 8 0) :: st) :=
  r_put (S' := (wI S 8 0 15 v)) (T := TX8) h0 hk rfl rfl inX8 tyX8 tyX8_ok nmX8 15 (by decide) v_934 rfl rfl (rfl) rfl (Nat.le_of_ble_eq_true rfl) wI_off ((congrArg (fun z => wCe (wR g) z (S.2 8 0) 8 0) wI_on).trans rfl) hdg e kk
theorem v_935 : Cond.fieldLink RX8 96 RX8 "come" "I" ∈ GW := gw_of (i := 935) (by decide +kernel) (by decide +kernel)
theorem pf_X8_96 {cc : ByteArray} {nL : Nat} {rm : Room} {X : MX} {g : GR} {cn sn : Nat} {S : Mem} {L : List (Nat × Value)} {pc pc' : Nat} {st : List Value} {v : Int32} (h0 : CX RX8 cc nL rm X (wR g)) (hk : 0 < 1) (hdg : decode cc pc = .ok (.putfield 96, 3)) (e : pc + 3 = pc') (kk : GV X (wR g) nL cn sn (wI S 8 0 16 v) L pc' st) : GV X (wR g) nL cn sn S L pc (.int v :: .ref (wA (wR g) 8 0) :: st) :=
  r_put (S' := (wI S 8 0 16 v)) (T := TX8) h0 hk rfl rfl inX8 tyX8 tyX8_ok nmX8 16 (by decide) v_935 rfl rfl (rfl) rfl (Nat.le_of_ble_eq_true rfl) wI_off ((congrArg (fun z => wCe (wR g) z (S.2 8 0) 8 0) wI_on).trans rfl) hdg e kk
theorem v_936 : Cond.fieldLink RX8 99 RX8 "through" "I" ∈ GW := gw_of (i := 936) (by decide +kernel) (by decide +kernel)
theorem pf_X8_99 {cc : ByteArray} {nL : Nat} {rm : Room} {X : MX} {g : GR} {cn sn : Nat} {S : Mem} {L : List (Nat × Value)} {pc pc' : Nat} {st : List Value} {v : Int32} (h0 : CX RX8 cc nL rm X (wR g)) (hk : 0 < 1) (hdg : decode cc pc = .ok (.putfield 99, 3)) (e : pc + 3 = pc') (kk : GV X (wR g) nL cn sn (wI S 8 0 17 v) L pc' st) : GV X (wR g) nL cn sn S L pc (.int v :: .ref (wA (wR g) 8 0) :: st) :=
  r_put (S' := (wI S 8 0 17 v)) (T := TX8) h0 hk rfl rfl inX8 tyX8 tyX8_ok nmX8 17 (by decide) v_936 rfl rfl (rfl) rfl (Nat.le_of_ble_eq_true rfl) wI_off ((congrArg (fun z => wCe (wR g) z (S.2 8 0) 8 0) wI_on).trans rfl) hdg e kk
theorem v_925 : Cond.fieldLink RX8 16 RX8 "many" "[I" ∈ GW := gw_of (i := 925) (by decide +kernel) (by decide +kernel)
theorem gf_X8_16 {cc : ByteArray} {nL : Nat} {rm : Room} {X : MX} {g : GR} {cn sn : Nat} {S : Mem} {L : List (Nat × Value)} {pc pc' : Nat} {st : List Value} (h0 : CX RX8 cc nL rm X (wR g)) (hk : 0 < 1) (hdg : decode cc pc = .ok (.getfield 16, 3)) (e : pc + 3 = pc') (kk : GV X (wR g) nL cn sn S L pc' (.ref (wA (wR g) 22 0) :: st)) : GV X (wR g) nL cn sn S L pc (.ref (wA (wR g) 8 0) :: st) :=
  r_get (T := TX8) h0 hk rfl rfl inX8 6 (by decide) v_925 rfl rfl hdg e kk
theorem v_924 : Cond.fieldLink RX8 13 RX8 "phases" "[I" ∈ GW := gw_of (i := 924) (by decide +kernel) (by decide +kernel)
theorem gf_X8_13 {cc : ByteArray} {nL : Nat} {rm : Room} {X : MX} {g : GR} {cn sn : Nat} {S : Mem} {L : List (Nat × Value)} {pc pc' : Nat} {st : List Value} (h0 : CX RX8 cc nL rm X (wR g)) (hk : 0 < 1) (hdg : decode cc pc = .ok (.getfield 13, 3)) (e : pc + 3 = pc') (kk : GV X (wR g) nL cn sn S L pc' (.ref (wA (wR g) 21 0) :: st)) : GV X (wR g) nL cn sn S L pc (.ref (wA (wR g) 8 0) :: st) :=
  r_get (T := TX8) h0 hk rfl rfl inX8 5 (by decide) v_924 rfl rfl hdg e kk
theorem v_927 : Cond.fieldLink RX8 22 RX8 "offsets" "[I" ∈ GW := gw_of (i := 927) (by decide +kernel) (by decide +kernel)
theorem gf_X8_22 {cc : ByteArray} {nL : Nat} {rm : Room} {X : MX} {g : GR} {cn sn : Nat} {S : Mem} {L : List (Nat × Value)} {pc pc' : Nat} {st : List Value} (h0 : CX RX8 cc nL rm X (wR g)) (hk : 0 < 1) (hdg : decode cc pc = .ok (.getfield 22, 3)) (e : pc + 3 = pc') (kk : GV X (wR g) nL cn sn S L pc' (.ref (wA (wR g) 24 0) :: st)) : GV X (wR g) nL cn sn S L pc (.ref (wA (wR g) 8 0) :: st) :=
  r_get (T := TX8) h0 hk rfl rfl inX8 8 (by decide) v_927 rfl rfl hdg e kk
theorem v_937 : Cond.fieldLink RX8 41 RX8 "queues" "[I" ∈ GW := gw_of (i := 937) (by decide +kernel) (by decide +kernel)
theorem gf_X8_41 {cc : ByteArray} {nL : Nat} {rm : Room} {X : MX} {g : GR} {cn sn : Nat} {S : Mem} {L : List (Nat × Value)} {pc pc' : Nat} {st : List Value} (h0 : CX RX8 cc nL rm X (wR g)) (hk : 0 < 1) (hdg : decode cc pc = .ok (.getfield 41, 3)) (e : pc + 3 = pc') (kk : GV X (wR g) nL cn sn S L pc' (.ref (wA (wR g) 30 0) :: st)) : GV X (wR g) nL cn sn S L pc (.ref (wA (wR g) 8 0) :: st) :=
  r_get (T := TX8) h0 hk rfl rfl inX8 18 (by decide) v_937 rfl rfl hdg e kk
theorem v_938 : Cond.fieldLink RX8 44 RX8 "readies" "[I" ∈ GW := gw_of (i := 938) (by decide +kernel) (by decide +kernel)
theorem gf_X8_44 {cc : ByteArray} {nL : Nat} {rm : Room} {X : MX} {g : GR} {cn sn : Nat} {S : Mem} {L : List (Nat × Value)} {pc pc' : Nat} {st : List Value} (h0 : CX RX8 cc nL rm X (wR g)) (hk : 0 < 1) (hdg : decode cc pc = .ok (.getfield 44, 3)) (e : pc + 3 = pc') (kk : GV X (wR g) nL cn sn S L pc' (.ref (wA (wR g) 31 0) :: st)) : GV X (wR g) nL cn sn S L pc (.ref (wA (wR g) 8 0) :: st) :=
  r_get (T := TX8) h0 hk rfl rfl inX8 19 (by decide) v_938 rfl rfl hdg e kk
theorem v_941 : Cond.fieldLink RX8 53 RX8 "wasCalled" "[Z" ∈ GW := gw_of (i := 941) (by decide +kernel) (by decide +kernel)
theorem gf_X8_53 {cc : ByteArray} {nL : Nat} {rm : Room} {X : MX} {g : GR} {cn sn : Nat} {S : Mem} {L : List (Nat × Value)} {pc pc' : Nat} {st : List Value} (h0 : CX RX8 cc nL rm X (wR g)) (hk : 0 < 1) (hdg : decode cc pc = .ok (.getfield 53, 3)) (e : pc + 3 = pc') (kk : GV X (wR g) nL cn sn S L pc' (.ref (wA (wR g) 34 0) :: st)) : GV X (wR g) nL cn sn S L pc (.ref (wA (wR g) 8 0) :: st) :=
  r_get (T := TX8) h0 hk rfl rfl inX8 22 (by decide) v_941 rfl rfl hdg e kk
theorem v_928 : Cond.fieldLink RX8 25 RX8 "seconds" "[I" ∈ GW := gw_of (i := 928) (by decide +kernel) (by decide +kernel)
theorem gf_X8_25 {cc : ByteArray} {nL : Nat} {rm : Room} {X : MX} {g : GR} {cn sn : Nat} {S : Mem} {L : List (Nat × Value)} {pc pc' : Nat} {st : List Value} (h0 : CX RX8 cc nL rm X (wR g)) (hk : 0 < 1) (hdg : decode cc pc = .ok (.getfield 25, 3)) (e : pc + 3 = pc') (kk : GV X (wR g) nL cn sn S L pc' (.ref (wA (wR g) 25 0) :: st)) : GV X (wR g) nL cn sn S L pc (.ref (wA (wR g) 8 0) :: st) :=
  r_get (T := TX8) h0 hk rfl rfl inX8 9 (by decide) v_928 rfl rfl hdg e kk
theorem v_929 : Cond.fieldLink RX8 28 RX8 "rooms" "[I" ∈ GW := gw_of (i := 929) (by decide +kernel) (by decide +kernel)
theorem gf_X8_28 {cc : ByteArray} {nL : Nat} {rm : Room} {X : MX} {g : GR} {cn sn : Nat} {S : Mem} {L : List (Nat × Value)} {pc pc' : Nat} {st : List Value} (h0 : CX RX8 cc nL rm X (wR g)) (hk : 0 < 1) (hdg : decode cc pc = .ok (.getfield 28, 3)) (e : pc + 3 = pc') (kk : GV X (wR g) nL cn sn S L pc' (.ref (wA (wR g) 26 0) :: st)) : GV X (wR g) nL cn sn S L pc (.ref (wA (wR g) 8 0) :: st) :=
  r_get (T := TX8) h0 hk rfl rfl inX8 10 (by decide) v_929 rfl rfl hdg e kk
theorem v_939 : Cond.fieldLink RX8 47 RX8 "onWay" "[I" ∈ GW := gw_of (i := 939) (by decide +kernel) (by decide +kernel)
theorem gf_X8_47 {cc : ByteArray} {nL : Nat} {rm : Room} {X : MX} {g : GR} {cn sn : Nat} {S : Mem} {L : List (Nat × Value)} {pc pc' : Nat} {st : List Value} (h0 : CX RX8 cc nL rm X (wR g)) (hk : 0 < 1) (hdg : decode cc pc = .ok (.getfield 47, 3)) (e : pc + 3 = pc') (kk : GV X (wR g) nL cn sn S L pc' (.ref (wA (wR g) 32 0) :: st)) : GV X (wR g) nL cn sn S L pc (.ref (wA (wR g) 8 0) :: st) :=
  r_get (T := TX8) h0 hk rfl rfl inX8 20 (by decide) v_939 rfl rfl hdg e kk
theorem v_923 : Cond.fieldLink RX8 7 RX8 "conflicts" "[I" ∈ GW := gw_of (i := 923) (by decide +kernel) (by decide +kernel)
theorem gf_X8_7 {cc : ByteArray} {nL : Nat} {rm : Room} {X : MX} {g : GR} {cn sn : Nat} {S : Mem} {L : List (Nat × Value)} {pc pc' : Nat} {st : List Value} (h0 : CX RX8 cc nL rm X (wR g)) (hk : 0 < 1) (hdg : decode cc pc = .ok (.getfield 7, 3)) (e : pc + 3 = pc') (kk : GV X (wR g) nL cn sn S L pc' (.ref (wA (wR g) 20 0) :: st)) : GV X (wR g) nL cn sn S L pc (.ref (wA (wR g) 8 0) :: st) :=
  r_get (T := TX8) h0 hk rfl rfl inX8 4 (by decide) v_923 rfl rfl hdg e kk
theorem v_926 : Cond.fieldLink RX8 19 RX8 "flows" "[I" ∈ GW := gw_of (i := 926) (by decide +kernel) (by decide +kernel)
theorem gf_X8_19 {cc : ByteArray} {nL : Nat} {rm : Room} {X : MX} {g : GR} {cn sn : Nat} {S : Mem} {L : List (Nat × Value)} {pc pc' : Nat} {st : List Value} (h0 : CX RX8 cc nL rm X (wR g)) (hk : 0 < 1) (hdg : decode cc pc = .ok (.getfield 19, 3)) (e : pc + 3 = pc') (kk : GV X (wR g) nL cn sn S L pc' (.ref (wA (wR g) 23 0) :: st)) : GV X (wR g) nL cn sn S L pc (.ref (wA (wR g) 8 0) :: st) :=
  r_get (T := TX8) h0 hk rfl rfl inX8 7 (by decide) v_926 rfl rfl hdg e kk
theorem v_1013 : Cond.methodLink RX8 102 yX8_holds ∈ GW := gw_of (i := 1013) (by decide +kernel) (by decide +kernel)
theorem v_1016 : Cond.code yX8_holds cX8_holds 2 (some .boolean) ∈ GW := gw_of (i := 1016) (by decide +kernel) (by decide +kernel)
theorem v_1015 : Cond.instanceMethod yX8_holds ∈ GW := gw_of (i := 1015) (by decide +kernel) (by decide +kernel)
theorem v_29 : Cond.selects RX8 yX8_holds yX8_holds ∈ GW := gw_of (i := 29) (by decide +kernel) (by decide +kernel)
theorem k_X8_102 (g : GR) : gcV (wR g) RX8 102 8 yX8_holds cX8_holds 2 (some .boolean) 1 := mkV (ob_8 g) v_1013 v_1015 v_29 v_1016 v_74 ⟨by decide +kernel, by decide +kernel, by decide +kernel⟩
theorem v_915 : Cond.methodLink RX8 68 yX8_begins ∈ GW := gw_of (i := 915) (by decide +kernel) (by decide +kernel)
theorem v_918 : Cond.code yX8_begins cX8_begins 4 none ∈ GW := gw_of (i := 918) (by decide +kernel) (by decide +kernel)
theorem v_917 : Cond.instanceMethod yX8_begins ∈ GW := gw_of (i := 917) (by decide +kernel) (by decide +kernel)
theorem v_28 : Cond.selects RX8 yX8_begins yX8_begins ∈ GW := gw_of (i := 28) (by decide +kernel) (by decide +kernel)
theorem k_X8_68 (g : GR) : gcV (wR g) RX8 68 8 yX8_begins cX8_begins 4 none 2 := mkV (ob_8 g) v_915 v_917 v_28 v_918 v_74 ⟨by decide +kernel, by decide +kernel, by decide +kernel⟩
theorem v_1032 : Cond.methodLink RX8 106 yX8_has ∈ GW := gw_of (i := 1032) (by decide +kernel) (by decide +kernel)
theorem v_1034 : Cond.code yX8_has cX8_has 2 (some .boolean) ∈ GW := gw_of (i := 1034) (by decide +kernel) (by decide +kernel)
theorem v_1033 : Cond.static yX8_has ∈ GW := gw_of (i := 1033) (by decide +kernel) (by decide +kernel)
theorem k_X8_106 (g : GR) : gcS (wR g) RX8 106 yX8_has cX8_has 2 (some .boolean) 2 := mkS v_1032 v_1033 v_1034 v_74 ⟨by decide +kernel, by decide +kernel, by decide +kernel⟩
theorem v_1035 : Cond.methodLink RX8 110 yX8_conflict ∈ GW := gw_of (i := 1035) (by decide +kernel) (by decide +kernel)
theorem v_1037 : Cond.code yX8_conflict cX8_conflict 3 (some .int) ∈ GW := gw_of (i := 1037) (by decide +kernel) (by decide +kernel)
theorem v_1036 : Cond.static yX8_conflict ∈ GW := gw_of (i := 1036) (by decide +kernel) (by decide +kernel)
theorem k_X8_110 (g : GR) : gcS (wR g) RX8 110 yX8_conflict cX8_conflict 3 (some .int) 3 := mkS v_1035 v_1036 v_1037 v_74 ⟨by decide +kernel, by decide +kernel, by decide +kernel⟩
theorem v_1046 : Cond.methodLink RX8 114 yX8_areIn ∈ GW := gw_of (i := 1046) (by decide +kernel) (by decide +kernel)
theorem v_1049 : Cond.code yX8_areIn cX8_areIn 5 (some .boolean) ∈ GW := gw_of (i := 1049) (by decide +kernel) (by decide +kernel)
theorem v_1048 : Cond.instanceMethod yX8_areIn ∈ GW := gw_of (i := 1048) (by decide +kernel) (by decide +kernel)
theorem v_33 : Cond.selects RX8 yX8_areIn yX8_areIn ∈ GW := gw_of (i := 33) (by decide +kernel) (by decide +kernel)
theorem k_X8_114 (g : GR) : gcV (wR g) RX8 114 8 yX8_areIn cX8_areIn 5 (some .boolean) 4 := mkV (ob_8 g) v_1046 v_1048 v_33 v_1049 v_74 ⟨by decide +kernel, by decide +kernel, by decide +kernel⟩
theorem v_1025 : Cond.methodLink RX8 118 yX8_isJunction ∈ GW := gw_of (i := 1025) (by decide +kernel) (by decide +kernel)
theorem v_1028 : Cond.code yX8_isJunction cX8_isJunction 2 (some .boolean) ∈ GW := gw_of (i := 1028) (by decide +kernel) (by decide +kernel)
theorem v_1027 : Cond.instanceMethod yX8_isJunction ∈ GW := gw_of (i := 1027) (by decide +kernel) (by decide +kernel)
theorem v_31 : Cond.selects RX8 yX8_isJunction yX8_isJunction ∈ GW := gw_of (i := 31) (by decide +kernel) (by decide +kernel)
theorem k_X8_118 (g : GR) : gcV (wR g) RX8 118 8 yX8_isJunction cX8_isJunction 2 (some .boolean) 1 := mkV (ob_8 g) v_1025 v_1027 v_31 v_1028 v_74 ⟨by decide +kernel, by decide +kernel, by decide +kernel⟩
theorem v_1029 : Cond.methodLink RX8 121 yX8_isMovement ∈ GW := gw_of (i := 1029) (by decide +kernel) (by decide +kernel)
theorem v_1031 : Cond.code yX8_isMovement cX8_isMovement 1 (some .boolean) ∈ GW := gw_of (i := 1031) (by decide +kernel) (by decide +kernel)
theorem v_1030 : Cond.static yX8_isMovement ∈ GW := gw_of (i := 1030) (by decide +kernel) (by decide +kernel)
theorem k_X8_121 (g : GR) : gcS (wR g) RX8 121 yX8_isMovement cX8_isMovement 1 (some .boolean) 1 := mkS v_1029 v_1030 v_1031 v_74 ⟨by decide +kernel, by decide +kernel, by decide +kernel⟩
theorem gf_X8_86 {cc : ByteArray} {nL : Nat} {rm : Room} {X : MX} {g : GR} {cn sn : Nat} {S : Mem} {L : List (Nat × Value)} {pc pc' : Nat} {st : List Value} (h0 : CX RX8 cc nL rm X (wR g)) (hk : 0 < 1) (hdg : decode cc pc = .ok (.getfield 86, 3)) (e : pc + 3 = pc') (kk : GV X (wR g) nL cn sn S L pc' (.int (S.1 8 0 3) :: st)) : GV X (wR g) nL cn sn S L pc (.ref (wA (wR g) 8 0) :: st) :=
  r_get (T := TX8) h0 hk rfl rfl inX8 3 (by decide) v_922 rfl rfl hdg e kk
theorem v_1021 : Cond.methodLink RX8 124 yX8_errorOfConflict ∈ GW := gw_of (i := 1021) (by decide +kernel) (by decide +kernel)
theorem v_1024 : Cond.code yX8_errorOfConflict cX8_errorOfConflict 8 (some .int) ∈ GW := gw_of (i := 1024) (by decide +kernel) (by decide +kernel)
theorem v_1023 : Cond.instanceMethod yX8_errorOfConflict ∈ GW := gw_of (i := 1023) (by decide +kernel) (by decide +kernel)
theorem v_30 : Cond.selects RX8 yX8_errorOfConflict yX8_errorOfConflict ∈ GW := gw_of (i := 30) (by decide +kernel) (by decide +kernel)
theorem k_X8_124 (g : GR) : gcV (wR g) RX8 124 8 yX8_errorOfConflict cX8_errorOfConflict 8 (some .int) 4 := mkV (ob_8 g) v_1021 v_1023 v_30 v_1024 v_74 ⟨by decide +kernel, by decide +kernel, by decide +kernel⟩
theorem v_1042 : Cond.methodLink RX8 128 yX8_isBad ∈ GW := gw_of (i := 1042) (by decide +kernel) (by decide +kernel)
theorem v_1045 : Cond.code yX8_isBad cX8_isBad 4 (some .boolean) ∈ GW := gw_of (i := 1045) (by decide +kernel) (by decide +kernel)
theorem v_1044 : Cond.instanceMethod yX8_isBad ∈ GW := gw_of (i := 1044) (by decide +kernel) (by decide +kernel)
theorem v_32 : Cond.selects RX8 yX8_isBad yX8_isBad ∈ GW := gw_of (i := 32) (by decide +kernel) (by decide +kernel)
theorem k_X8_128 (g : GR) : gcV (wR g) RX8 128 8 yX8_isBad cX8_isBad 4 (some .boolean) 2 := mkV (ob_8 g) v_1042 v_1044 v_32 v_1045 v_74 ⟨by decide +kernel, by decide +kernel, by decide +kernel⟩
theorem v_1058 : Cond.methodLink RX8 131 yX8_isLink ∈ GW := gw_of (i := 1058) (by decide +kernel) (by decide +kernel)
theorem v_1061 : Cond.code yX8_isLink cX8_isLink 2 (some .boolean) ∈ GW := gw_of (i := 1061) (by decide +kernel) (by decide +kernel)
theorem v_1060 : Cond.instanceMethod yX8_isLink ∈ GW := gw_of (i := 1060) (by decide +kernel) (by decide +kernel)
theorem v_34 : Cond.selects RX8 yX8_isLink yX8_isLink ∈ GW := gw_of (i := 34) (by decide +kernel) (by decide +kernel)
theorem k_X8_131 (g : GR) : gcV (wR g) RX8 131 8 yX8_isLink cX8_isLink 2 (some .boolean) 1 := mkV (ob_8 g) v_1058 v_1060 v_34 v_1061 v_74 ⟨by decide +kernel, by decide +kernel, by decide +kernel⟩
theorem gf_X8_83 {cc : ByteArray} {nL : Nat} {rm : Room} {X : MX} {g : GR} {cn sn : Nat} {S : Mem} {L : List (Nat × Value)} {pc pc' : Nat} {st : List Value} (h0 : CX RX8 cc nL rm X (wR g)) (hk : 0 < 1) (hdg : decode cc pc = .ok (.getfield 83, 3)) (e : pc + 3 = pc') (kk : GV X (wR g) nL cn sn S L pc' (.int (S.1 8 0 2) :: st)) : GV X (wR g) nL cn sn S L pc (.ref (wA (wR g) 8 0) :: st) :=
  r_get (T := TX8) h0 hk rfl rfl inX8 2 (by decide) v_921 rfl rfl hdg e kk
theorem v_932 : Cond.fieldLink RX8 37 RX8 "arePlanned" "[Z" ∈ GW := gw_of (i := 932) (by decide +kernel) (by decide +kernel)
theorem gf_X8_37 {cc : ByteArray} {nL : Nat} {rm : Room} {X : MX} {g : GR} {cn sn : Nat} {S : Mem} {L : List (Nat × Value)} {pc pc' : Nat} {st : List Value} (h0 : CX RX8 cc nL rm X (wR g)) (hk : 0 < 1) (hdg : decode cc pc = .ok (.getfield 37, 3)) (e : pc + 3 = pc') (kk : GV X (wR g) nL cn sn S L pc' (.ref (wA (wR g) 29 0) :: st)) : GV X (wR g) nL cn sn S L pc (.ref (wA (wR g) 8 0) :: st) :=
  r_get (T := TX8) h0 hk rfl rfl inX8 13 (by decide) v_932 rfl rfl hdg e kk
theorem v_931 : Cond.fieldLink RX8 34 RX8 "clearings" "[I" ∈ GW := gw_of (i := 931) (by decide +kernel) (by decide +kernel)
theorem gf_X8_34 {cc : ByteArray} {nL : Nat} {rm : Room} {X : MX} {g : GR} {cn sn : Nat} {S : Mem} {L : List (Nat × Value)} {pc pc' : Nat} {st : List Value} (h0 : CX RX8 cc nL rm X (wR g)) (hk : 0 < 1) (hdg : decode cc pc = .ok (.getfield 34, 3)) (e : pc + 3 = pc') (kk : GV X (wR g) nL cn sn S L pc' (.ref (wA (wR g) 28 0) :: st)) : GV X (wR g) nL cn sn S L pc (.ref (wA (wR g) 8 0) :: st) :=
  r_get (T := TX8) h0 hk rfl rfl inX8 12 (by decide) v_931 rfl rfl hdg e kk
theorem v_1078 : Cond.methodLink RX8 134 yX8_clearingOf ∈ GW := gw_of (i := 1078) (by decide +kernel) (by decide +kernel)
theorem v_1081 : Cond.code yX8_clearingOf cX8_clearingOf 8 (some .int) ∈ GW := gw_of (i := 1081) (by decide +kernel) (by decide +kernel)
theorem v_1080 : Cond.instanceMethod yX8_clearingOf ∈ GW := gw_of (i := 1080) (by decide +kernel) (by decide +kernel)
theorem v_37 : Cond.selects RX8 yX8_clearingOf yX8_clearingOf ∈ GW := gw_of (i := 37) (by decide +kernel) (by decide +kernel)
theorem k_X8_134 (g : GR) : gcV (wR g) RX8 134 8 yX8_clearingOf cX8_clearingOf 8 (some .int) 2 := mkV (ob_8 g) v_1078 v_1080 v_37 v_1081 v_74 ⟨by decide +kernel, by decide +kernel, by decide +kernel⟩
theorem v_1082 : Cond.methodLink RX8 138 yX8_leastOf ∈ GW := gw_of (i := 1082) (by decide +kernel) (by decide +kernel)
theorem v_1085 : Cond.code yX8_leastOf cX8_leastOf 3 (some .int) ∈ GW := gw_of (i := 1085) (by decide +kernel) (by decide +kernel)
theorem v_1084 : Cond.instanceMethod yX8_leastOf ∈ GW := gw_of (i := 1084) (by decide +kernel) (by decide +kernel)
theorem v_38 : Cond.selects RX8 yX8_leastOf yX8_leastOf ∈ GW := gw_of (i := 38) (by decide +kernel) (by decide +kernel)
theorem k_X8_138 (g : GR) : gcV (wR g) RX8 138 8 yX8_leastOf cX8_leastOf 3 (some .int) 2 := mkV (ob_8 g) v_1082 v_1084 v_38 v_1085 v_74 ⟨by decide +kernel, by decide +kernel, by decide +kernel⟩
theorem v_1086 : Cond.methodLink RX8 141 yX8_weight ∈ GW := gw_of (i := 1086) (by decide +kernel) (by decide +kernel)
theorem v_1089 : Cond.code yX8_weight cX8_weight 6 (some .int) ∈ GW := gw_of (i := 1089) (by decide +kernel) (by decide +kernel)
theorem v_1088 : Cond.instanceMethod yX8_weight ∈ GW := gw_of (i := 1088) (by decide +kernel) (by decide +kernel)
theorem v_39 : Cond.selects RX8 yX8_weight yX8_weight ∈ GW := gw_of (i := 39) (by decide +kernel) (by decide +kernel)
theorem k_X8_141 (g : GR) : gcV (wR g) RX8 141 8 yX8_weight cX8_weight 6 (some .int) 2 := mkV (ob_8 g) v_1086 v_1088 v_39 v_1089 v_74 ⟨by decide +kernel, by decide +kernel, by decide +kernel⟩
theorem v_930 : Cond.fieldLink RX8 31 RX8 "greens" "[I" ∈ GW := gw_of (i := 930) (by decide +kernel) (by decide +kernel)
theorem gf_X8_31 {cc : ByteArray} {nL : Nat} {rm : Room} {X : MX} {g : GR} {cn sn : Nat} {S : Mem} {L : List (Nat × Value)} {pc pc' : Nat} {st : List Value} (h0 : CX RX8 cc nL rm X (wR g)) (hk : 0 < 1) (hdg : decode cc pc = .ok (.getfield 31, 3)) (e : pc + 3 = pc') (kk : GV X (wR g) nL cn sn S L pc' (.ref (wA (wR g) 27 0) :: st)) : GV X (wR g) nL cn sn S L pc (.ref (wA (wR g) 8 0) :: st) :=
  r_get (T := TX8) h0 hk rfl rfl inX8 11 (by decide) v_930 rfl rfl hdg e kk
theorem v_1074 : Cond.methodLink RX8 144 yX8_plans ∈ GW := gw_of (i := 1074) (by decide +kernel) (by decide +kernel)
theorem v_1077 : Cond.code yX8_plans cX8_plans 7 none ∈ GW := gw_of (i := 1077) (by decide +kernel) (by decide +kernel)
theorem v_1076 : Cond.instanceMethod yX8_plans ∈ GW := gw_of (i := 1076) (by decide +kernel) (by decide +kernel)
theorem v_36 : Cond.selects RX8 yX8_plans yX8_plans ∈ GW := gw_of (i := 36) (by decide +kernel) (by decide +kernel)
theorem k_X8_144 (g : GR) : gcV (wR g) RX8 144 8 yX8_plans cX8_plans 7 none 1 := mkV (ob_8 g) v_1074 v_1076 v_36 v_1077 v_74 ⟨by decide +kernel, by decide +kernel, by decide +kernel⟩
theorem v_1114 : Cond.methodLink RX8 148 yX8_secondOf ∈ GW := gw_of (i := 1114) (by decide +kernel) (by decide +kernel)
theorem v_1117 : Cond.code yX8_secondOf cX8_secondOf 3 (some .int) ∈ GW := gw_of (i := 1117) (by decide +kernel) (by decide +kernel)
theorem v_1116 : Cond.instanceMethod yX8_secondOf ∈ GW := gw_of (i := 1116) (by decide +kernel) (by decide +kernel)
theorem v_46 : Cond.selects RX8 yX8_secondOf yX8_secondOf ∈ GW := gw_of (i := 46) (by decide +kernel) (by decide +kernel)
theorem k_X8_148 (g : GR) : gcV (wR g) RX8 148 8 yX8_secondOf cX8_secondOf 3 (some .int) 2 := mkV (ob_8 g) v_1114 v_1116 v_46 v_1117 v_74 ⟨by decide +kernel, by decide +kernel, by decide +kernel⟩
theorem v_942 : Cond.fieldLink RX8 56 RX8 "calledIn" "[I" ∈ GW := gw_of (i := 942) (by decide +kernel) (by decide +kernel)
theorem gf_X8_56 {cc : ByteArray} {nL : Nat} {rm : Room} {X : MX} {g : GR} {cn sn : Nat} {S : Mem} {L : List (Nat × Value)} {pc pc' : Nat} {st : List Value} (h0 : CX RX8 cc nL rm X (wR g)) (hk : 0 < 1) (hdg : decode cc pc = .ok (.getfield 56, 3)) (e : pc + 3 = pc') (kk : GV X (wR g) nL cn sn S L pc' (.ref (wA (wR g) 35 0) :: st)) : GV X (wR g) nL cn sn S L pc (.ref (wA (wR g) 8 0) :: st) :=
  r_get (T := TX8) h0 hk rfl rfl inX8 23 (by decide) v_942 rfl rfl hdg e kk
theorem v_1118 : Cond.methodLink RX8 151 yX8_cycleOf ∈ GW := gw_of (i := 1118) (by decide +kernel) (by decide +kernel)
theorem v_1121 : Cond.code yX8_cycleOf cX8_cycleOf 3 (some .int) ∈ GW := gw_of (i := 1121) (by decide +kernel) (by decide +kernel)
theorem v_1120 : Cond.instanceMethod yX8_cycleOf ∈ GW := gw_of (i := 1120) (by decide +kernel) (by decide +kernel)
theorem v_47 : Cond.selects RX8 yX8_cycleOf yX8_cycleOf ∈ GW := gw_of (i := 47) (by decide +kernel) (by decide +kernel)
theorem k_X8_151 (g : GR) : gcV (wR g) RX8 151 8 yX8_cycleOf cX8_cycleOf 3 (some .int) 2 := mkV (ob_8 g) v_1118 v_1120 v_47 v_1121 v_74 ⟨by decide +kernel, by decide +kernel, by decide +kernel⟩
theorem v_943 : Cond.fieldLink RX8 59 RX8 "gainers" "[I" ∈ GW := gw_of (i := 943) (by decide +kernel) (by decide +kernel)
theorem gf_X8_59 {cc : ByteArray} {nL : Nat} {rm : Room} {X : MX} {g : GR} {cn sn : Nat} {S : Mem} {L : List (Nat × Value)} {pc pc' : Nat} {st : List Value} (h0 : CX RX8 cc nL rm X (wR g)) (hk : 0 < 1) (hdg : decode cc pc = .ok (.getfield 59, 3)) (e : pc + 3 = pc') (kk : GV X (wR g) nL cn sn S L pc' (.ref (wA (wR g) 36 0) :: st)) : GV X (wR g) nL cn sn S L pc (.ref (wA (wR g) 8 0) :: st) :=
  r_get (T := TX8) h0 hk rfl rfl inX8 24 (by decide) v_943 rfl rfl hdg e kk
theorem v_945 : Cond.fieldLink RX8 65 RX8 "gains" "[I" ∈ GW := gw_of (i := 945) (by decide +kernel) (by decide +kernel)
theorem gf_X8_65 {cc : ByteArray} {nL : Nat} {rm : Room} {X : MX} {g : GR} {cn sn : Nat} {S : Mem} {L : List (Nat × Value)} {pc pc' : Nat} {st : List Value} (h0 : CX RX8 cc nL rm X (wR g)) (hk : 0 < 1) (hdg : decode cc pc = .ok (.getfield 65, 3)) (e : pc + 3 = pc') (kk : GV X (wR g) nL cn sn S L pc' (.ref (wA (wR g) 38 0) :: st)) : GV X (wR g) nL cn sn S L pc (.ref (wA (wR g) 8 0) :: st) :=
  r_get (T := TX8) h0 hk rfl rfl inX8 26 (by decide) v_945 rfl rfl hdg e kk
theorem v_944 : Cond.fieldLink RX8 62 RX8 "givers" "[I" ∈ GW := gw_of (i := 944) (by decide +kernel) (by decide +kernel)
theorem gf_X8_62 {cc : ByteArray} {nL : Nat} {rm : Room} {X : MX} {g : GR} {cn sn : Nat} {S : Mem} {L : List (Nat × Value)} {pc pc' : Nat} {st : List Value} (h0 : CX RX8 cc nL rm X (wR g)) (hk : 0 < 1) (hdg : decode cc pc = .ok (.getfield 62, 3)) (e : pc + 3 = pc') (kk : GV X (wR g) nL cn sn S L pc' (.ref (wA (wR g) 37 0) :: st)) : GV X (wR g) nL cn sn S L pc (.ref (wA (wR g) 8 0) :: st) :=
  r_get (T := TX8) h0 hk rfl rfl inX8 25 (by decide) v_944 rfl rfl hdg e kk
theorem v_1110 : Cond.methodLink RX8 154 yX8_phaseAt ∈ GW := gw_of (i := 1110) (by decide +kernel) (by decide +kernel)
theorem v_1113 : Cond.code yX8_phaseAt cX8_phaseAt 8 (some .int) ∈ GW := gw_of (i := 1113) (by decide +kernel) (by decide +kernel)
theorem v_1112 : Cond.instanceMethod yX8_phaseAt ∈ GW := gw_of (i := 1112) (by decide +kernel) (by decide +kernel)
theorem v_45 : Cond.selects RX8 yX8_phaseAt yX8_phaseAt ∈ GW := gw_of (i := 45) (by decide +kernel) (by decide +kernel)
theorem k_X8_154 (g : GR) : gcV (wR g) RX8 154 8 yX8_phaseAt cX8_phaseAt 8 (some .int) 3 := mkV (ob_8 g) v_1110 v_1112 v_45 v_1113 v_74 ⟨by decide +kernel, by decide +kernel, by decide +kernel⟩
theorem v_1106 : Cond.methodLink RX8 158 yX8_isGreenAt ∈ GW := gw_of (i := 1106) (by decide +kernel) (by decide +kernel)
theorem v_1109 : Cond.code yX8_isGreenAt cX8_isGreenAt 6 (some .boolean) ∈ GW := gw_of (i := 1109) (by decide +kernel) (by decide +kernel)
theorem v_1108 : Cond.instanceMethod yX8_isGreenAt ∈ GW := gw_of (i := 1108) (by decide +kernel) (by decide +kernel)
theorem v_44 : Cond.selects RX8 yX8_isGreenAt yX8_isGreenAt ∈ GW := gw_of (i := 44) (by decide +kernel) (by decide +kernel)
theorem k_X8_158 (g : GR) : gcV (wR g) RX8 158 8 yX8_isGreenAt cX8_isGreenAt 6 (some .boolean) 4 := mkV (ob_8 g) v_1106 v_1108 v_44 v_1109 v_74 ⟨by decide +kernel, by decide +kernel, by decide +kernel⟩
theorem v_1102 : Cond.methodLink RX8 162 yX8_isFree ∈ GW := gw_of (i := 1102) (by decide +kernel) (by decide +kernel)
theorem v_1105 : Cond.code yX8_isFree cX8_isFree 6 (some .boolean) ∈ GW := gw_of (i := 1105) (by decide +kernel) (by decide +kernel)
theorem v_1104 : Cond.instanceMethod yX8_isFree ∈ GW := gw_of (i := 1104) (by decide +kernel) (by decide +kernel)
theorem v_43 : Cond.selects RX8 yX8_isFree yX8_isFree ∈ GW := gw_of (i := 43) (by decide +kernel) (by decide +kernel)
theorem k_X8_162 (g : GR) : gcV (wR g) RX8 162 8 yX8_isFree cX8_isFree 6 (some .boolean) 2 := mkV (ob_8 g) v_1102 v_1104 v_43 v_1105 v_74 ⟨by decide +kernel, by decide +kernel, by decide +kernel⟩
theorem v_1098 : Cond.methodLink RX8 166 yX8_bandOf ∈ GW := gw_of (i := 1098) (by decide +kernel) (by decide +kernel)
theorem v_1101 : Cond.code yX8_bandOf cX8_bandOf 4 (some .int) ∈ GW := gw_of (i := 1101) (by decide +kernel) (by decide +kernel)
theorem v_1100 : Cond.instanceMethod yX8_bandOf ∈ GW := gw_of (i := 1100) (by decide +kernel) (by decide +kernel)
theorem v_42 : Cond.selects RX8 yX8_bandOf yX8_bandOf ∈ GW := gw_of (i := 42) (by decide +kernel) (by decide +kernel)
theorem k_X8_166 (g : GR) : gcV (wR g) RX8 166 8 yX8_bandOf cX8_bandOf 4 (some .int) 1 := mkV (ob_8 g) v_1098 v_1100 v_42 v_1101 v_74 ⟨by decide +kernel, by decide +kernel, by decide +kernel⟩
theorem v_1094 : Cond.methodLink RX8 170 yX8_bands ∈ GW := gw_of (i := 1094) (by decide +kernel) (by decide +kernel)
theorem v_1097 : Cond.code yX8_bands cX8_bands 1 (some .int) ∈ GW := gw_of (i := 1097) (by decide +kernel) (by decide +kernel)
theorem v_1096 : Cond.instanceMethod yX8_bands ∈ GW := gw_of (i := 1096) (by decide +kernel) (by decide +kernel)
theorem v_41 : Cond.selects RX8 yX8_bands yX8_bands ∈ GW := gw_of (i := 41) (by decide +kernel) (by decide +kernel)
theorem k_X8_170 (g : GR) : gcV (wR g) RX8 170 8 yX8_bands cX8_bands 1 (some .int) 0 := mkV (ob_8 g) v_1094 v_1096 v_41 v_1097 v_74 ⟨by decide +kernel, by decide +kernel, by decide +kernel⟩
theorem v_1070 : Cond.methodLink RX8 174 yX8_plansAll ∈ GW := gw_of (i := 1070) (by decide +kernel) (by decide +kernel)
theorem v_1073 : Cond.code yX8_plansAll cX8_plansAll 3 (some .boolean) ∈ GW := gw_of (i := 1073) (by decide +kernel) (by decide +kernel)
theorem v_1072 : Cond.instanceMethod yX8_plansAll ∈ GW := gw_of (i := 1072) (by decide +kernel) (by decide +kernel)
theorem v_35 : Cond.selects RX8 yX8_plansAll yX8_plansAll ∈ GW := gw_of (i := 35) (by decide +kernel) (by decide +kernel)
theorem k_X8_174 (g : GR) : gcV (wR g) RX8 174 8 yX8_plansAll cX8_plansAll 3 (some .boolean) 0 := mkV (ob_8 g) v_1070 v_1072 v_35 v_1073 v_74 ⟨by decide +kernel, by decide +kernel, by decide +kernel⟩
theorem v_1090 : Cond.methodLink RX8 178 yX8_betters ∈ GW := gw_of (i := 1090) (by decide +kernel) (by decide +kernel)
theorem v_1093 : Cond.code yX8_betters cX8_betters 7 (some .boolean) ∈ GW := gw_of (i := 1093) (by decide +kernel) (by decide +kernel)
theorem v_1092 : Cond.instanceMethod yX8_betters ∈ GW := gw_of (i := 1092) (by decide +kernel) (by decide +kernel)
theorem v_40 : Cond.selects RX8 yX8_betters yX8_betters ∈ GW := gw_of (i := 40) (by decide +kernel) (by decide +kernel)
theorem k_X8_178 (g : GR) : gcV (wR g) RX8 178 8 yX8_betters cX8_betters 7 (some .boolean) 1 := mkV (ob_8 g) v_1090 v_1092 v_40 v_1093 v_74 ⟨by decide +kernel, by decide +kernel, by decide +kernel⟩
theorem v_1130 : Cond.methodLink RX8 181 yX8_isPlanned ∈ GW := gw_of (i := 1130) (by decide +kernel) (by decide +kernel)
theorem v_1133 : Cond.code yX8_isPlanned cX8_isPlanned 2 (some .boolean) ∈ GW := gw_of (i := 1133) (by decide +kernel) (by decide +kernel)
theorem v_1132 : Cond.instanceMethod yX8_isPlanned ∈ GW := gw_of (i := 1132) (by decide +kernel) (by decide +kernel)
theorem v_48 : Cond.selects RX8 yX8_isPlanned yX8_isPlanned ∈ GW := gw_of (i := 48) (by decide +kernel) (by decide +kernel)
theorem k_X8_181 (g : GR) : gcV (wR g) RX8 181 8 yX8_isPlanned cX8_isPlanned 2 (some .boolean) 1 := mkV (ob_8 g) v_1130 v_1132 v_48 v_1133 v_74 ⟨by decide +kernel, by decide +kernel, by decide +kernel⟩
theorem v_1138 : Cond.methodLink RX8 184 yX8_isPhase ∈ GW := gw_of (i := 1138) (by decide +kernel) (by decide +kernel)
theorem v_1141 : Cond.code yX8_isPhase cX8_isPhase 3 (some .boolean) ∈ GW := gw_of (i := 1141) (by decide +kernel) (by decide +kernel)
theorem v_1140 : Cond.instanceMethod yX8_isPhase ∈ GW := gw_of (i := 1140) (by decide +kernel) (by decide +kernel)
theorem v_49 : Cond.selects RX8 yX8_isPhase yX8_isPhase ∈ GW := gw_of (i := 49) (by decide +kernel) (by decide +kernel)
theorem k_X8_184 (g : GR) : gcV (wR g) RX8 184 8 yX8_isPhase cX8_isPhase 3 (some .boolean) 2 := mkV (ob_8 g) v_1138 v_1140 v_49 v_1141 v_74 ⟨by decide +kernel, by decide +kernel, by decide +kernel⟩
theorem v_1154 : Cond.constant RX8 187 100000 ∈ GW := gw_of (i := 1154) (by decide +kernel) (by decide +kernel)
theorem v_1159 : Cond.methodLink RX8 188 yX8_isBreach ∈ GW := gw_of (i := 1159) (by decide +kernel) (by decide +kernel)
theorem v_1162 : Cond.code yX8_isBreach cX8_isBreach 6 (some .boolean) ∈ GW := gw_of (i := 1162) (by decide +kernel) (by decide +kernel)
theorem v_1161 : Cond.instanceMethod yX8_isBreach ∈ GW := gw_of (i := 1161) (by decide +kernel) (by decide +kernel)
theorem v_50 : Cond.selects RX8 yX8_isBreach yX8_isBreach ∈ GW := gw_of (i := 50) (by decide +kernel) (by decide +kernel)
theorem k_X8_188 (g : GR) : gcV (wR g) RX8 188 8 yX8_isBreach cX8_isBreach 6 (some .boolean) 2 := mkV (ob_8 g) v_1159 v_1161 v_50 v_1162 v_74 ⟨by decide +kernel, by decide +kernel, by decide +kernel⟩
theorem v_940 : Cond.fieldLink RX8 50 RX8 "ends" "[I" ∈ GW := gw_of (i := 940) (by decide +kernel) (by decide +kernel)
theorem gf_X8_50 {cc : ByteArray} {nL : Nat} {rm : Room} {X : MX} {g : GR} {cn sn : Nat} {S : Mem} {L : List (Nat × Value)} {pc pc' : Nat} {st : List Value} (h0 : CX RX8 cc nL rm X (wR g)) (hk : 0 < 1) (hdg : decode cc pc = .ok (.getfield 50, 3)) (e : pc + 3 = pc') (kk : GV X (wR g) nL cn sn S L pc' (.ref (wA (wR g) 33 0) :: st)) : GV X (wR g) nL cn sn S L pc (.ref (wA (wR g) 8 0) :: st) :=
  r_get (T := TX8) h0 hk rfl rfl inX8 21 (by decide) v_940 rfl rfl hdg e kk
theorem gf_X8_90 {cc : ByteArray} {nL : Nat} {rm : Room} {X : MX} {g : GR} {cn sn : Nat} {S : Mem} {L : List (Nat × Value)} {pc pc' : Nat} {st : List Value} (h0 : CX RX8 cc nL rm X (wR g)) (hk : 0 < 1) (hdg : decode cc pc = .ok (.getfield 90, 3)) (e : pc + 3 = pc') (kk : GV X (wR g) nL cn sn S L pc' (.int (S.1 8 0 14) :: st)) : GV X (wR g) nL cn sn S L pc (.ref (wA (wR g) 8 0) :: st) :=
  r_get (T := TX8) h0 hk rfl rfl inX8 14 (by decide) v_933 rfl rfl hdg e kk
theorem gf_X8_93 {cc : ByteArray} {nL : Nat} {rm : Room} {X : MX} {g : GR} {cn sn : Nat} {S : Mem} {L : List (Nat × Value)} {pc pc' : Nat} {st : List Value} (h0 : CX RX8 cc nL rm X (wR g)) (hk : 0 < 1) (hdg : decode cc pc = .ok (.getfield 93, 3)) (e : pc + 3 = pc') (kk : GV X (wR g) nL cn sn S L pc' (.int (S.1 8 0 15) :: st)) : GV X (wR g) nL cn sn S L pc (.ref (wA (wR g) 8 0) :: st) :=
  r_get (T := TX8) h0 hk rfl rfl inX8 15 (by decide) v_934 rfl rfl hdg e kk
theorem gf_X8_96 {cc : ByteArray} {nL : Nat} {rm : Room} {X : MX} {g : GR} {cn sn : Nat} {S : Mem} {L : List (Nat × Value)} {pc pc' : Nat} {st : List Value} (h0 : CX RX8 cc nL rm X (wR g)) (hk : 0 < 1) (hdg : decode cc pc = .ok (.getfield 96, 3)) (e : pc + 3 = pc') (kk : GV X (wR g) nL cn sn S L pc' (.int (S.1 8 0 16) :: st)) : GV X (wR g) nL cn sn S L pc (.ref (wA (wR g) 8 0) :: st) :=
  r_get (T := TX8) h0 hk rfl rfl inX8 16 (by decide) v_935 rfl rfl hdg e kk
theorem v_1187 : Cond.methodLink RX8 191 yX8_heldOf ∈ GW := gw_of (i := 1187) (by decide +kernel) (by decide +kernel)
theorem v_1190 : Cond.code yX8_heldOf cX8_heldOf 2 (some .int) ∈ GW := gw_of (i := 1190) (by decide +kernel) (by decide +kernel)
theorem v_1189 : Cond.instanceMethod yX8_heldOf ∈ GW := gw_of (i := 1189) (by decide +kernel) (by decide +kernel)
theorem v_54 : Cond.selects RX8 yX8_heldOf yX8_heldOf ∈ GW := gw_of (i := 54) (by decide +kernel) (by decide +kernel)
theorem k_X8_191 (g : GR) : gcV (wR g) RX8 191 8 yX8_heldOf cX8_heldOf 2 (some .int) 1 := mkV (ob_8 g) v_1187 v_1189 v_54 v_1190 v_74 ⟨by decide +kernel, by decide +kernel, by decide +kernel⟩
theorem gf_X8_99 {cc : ByteArray} {nL : Nat} {rm : Room} {X : MX} {g : GR} {cn sn : Nat} {S : Mem} {L : List (Nat × Value)} {pc pc' : Nat} {st : List Value} (h0 : CX RX8 cc nL rm X (wR g)) (hk : 0 < 1) (hdg : decode cc pc = .ok (.getfield 99, 3)) (e : pc + 3 = pc') (kk : GV X (wR g) nL cn sn S L pc' (.int (S.1 8 0 17) :: st)) : GV X (wR g) nL cn sn S L pc (.ref (wA (wR g) 8 0) :: st) :=
  r_get (T := TX8) h0 hk rfl rfl inX8 17 (by decide) v_936 rfl rfl hdg e kk
theorem v_1179 : Cond.methodLink RX8 198 yX8_joins ∈ GW := gw_of (i := 1179) (by decide +kernel) (by decide +kernel)
theorem v_1182 : Cond.code yX8_joins cX8_joins 4 none ∈ GW := gw_of (i := 1182) (by decide +kernel) (by decide +kernel)
theorem v_1181 : Cond.instanceMethod yX8_joins ∈ GW := gw_of (i := 1181) (by decide +kernel) (by decide +kernel)
theorem v_52 : Cond.selects RX8 yX8_joins yX8_joins ∈ GW := gw_of (i := 52) (by decide +kernel) (by decide +kernel)
theorem k_X8_198 (g : GR) : gcV (wR g) RX8 198 8 yX8_joins cX8_joins 4 none 1 := mkV (ob_8 g) v_1179 v_1181 v_52 v_1182 v_74 ⟨by decide +kernel, by decide +kernel, by decide +kernel⟩
theorem v_1175 : Cond.methodLink RX8 195 yX8_arrives ∈ GW := gw_of (i := 1175) (by decide +kernel) (by decide +kernel)
theorem v_1178 : Cond.code yX8_arrives cX8_arrives 1 none ∈ GW := gw_of (i := 1178) (by decide +kernel) (by decide +kernel)
theorem v_1177 : Cond.instanceMethod yX8_arrives ∈ GW := gw_of (i := 1177) (by decide +kernel) (by decide +kernel)
theorem v_51 : Cond.selects RX8 yX8_arrives yX8_arrives ∈ GW := gw_of (i := 51) (by decide +kernel) (by decide +kernel)
theorem k_X8_195 (g : GR) : gcV (wR g) RX8 195 8 yX8_arrives cX8_arrives 1 none 0 := mkV (ob_8 g) v_1175 v_1177 v_51 v_1178 v_74 ⟨by decide +kernel, by decide +kernel, by decide +kernel⟩
theorem v_1183 : Cond.methodLink RX8 201 yX8_leaves ∈ GW := gw_of (i := 1183) (by decide +kernel) (by decide +kernel)
theorem v_1186 : Cond.code yX8_leaves cX8_leaves 4 none ∈ GW := gw_of (i := 1186) (by decide +kernel) (by decide +kernel)
theorem v_1185 : Cond.instanceMethod yX8_leaves ∈ GW := gw_of (i := 1185) (by decide +kernel) (by decide +kernel)
theorem v_53 : Cond.selects RX8 yX8_leaves yX8_leaves ∈ GW := gw_of (i := 53) (by decide +kernel) (by decide +kernel)
theorem k_X8_201 (g : GR) : gcV (wR g) RX8 201 8 yX8_leaves cX8_leaves 4 none 1 := mkV (ob_8 g) v_1183 v_1185 v_53 v_1186 v_74 ⟨by decide +kernel, by decide +kernel, by decide +kernel⟩
theorem v_1199 : Cond.methodLink RX8 204 yX8_phaseOf ∈ GW := gw_of (i := 1199) (by decide +kernel) (by decide +kernel)
theorem v_1202 : Cond.code yX8_phaseOf cX8_phaseOf 4 (some .int) ∈ GW := gw_of (i := 1202) (by decide +kernel) (by decide +kernel)
theorem v_1201 : Cond.instanceMethod yX8_phaseOf ∈ GW := gw_of (i := 1201) (by decide +kernel) (by decide +kernel)
theorem v_56 : Cond.selects RX8 yX8_phaseOf yX8_phaseOf ∈ GW := gw_of (i := 56) (by decide +kernel) (by decide +kernel)
theorem k_X8_204 (g : GR) : gcV (wR g) RX8 204 8 yX8_phaseOf cX8_phaseOf 4 (some .int) 2 := mkV (ob_8 g) v_1199 v_1201 v_56 v_1202 v_74 ⟨by decide +kernel, by decide +kernel, by decide +kernel⟩
theorem v_1195 : Cond.methodLink RX8 207 yX8_errorOfCall ∈ GW := gw_of (i := 1195) (by decide +kernel) (by decide +kernel)
theorem v_1198 : Cond.code yX8_errorOfCall cX8_errorOfCall 4 (some .int) ∈ GW := gw_of (i := 1198) (by decide +kernel) (by decide +kernel)
theorem v_1197 : Cond.instanceMethod yX8_errorOfCall ∈ GW := gw_of (i := 1197) (by decide +kernel) (by decide +kernel)
theorem v_55 : Cond.selects RX8 yX8_errorOfCall yX8_errorOfCall ∈ GW := gw_of (i := 55) (by decide +kernel) (by decide +kernel)
theorem k_X8_207 (g : GR) : gcV (wR g) RX8 207 8 yX8_errorOfCall cX8_errorOfCall 4 (some .int) 2 := mkV (ob_8 g) v_1195 v_1197 v_55 v_1198 v_74 ⟨by decide +kernel, by decide +kernel, by decide +kernel⟩
theorem v_1203 : Cond.methodLink RX8 210 yX8_above ∈ GW := gw_of (i := 1203) (by decide +kernel) (by decide +kernel)
theorem v_1206 : Cond.code yX8_above cX8_above 3 (some .int) ∈ GW := gw_of (i := 1206) (by decide +kernel) (by decide +kernel)
theorem v_1205 : Cond.instanceMethod yX8_above ∈ GW := gw_of (i := 1205) (by decide +kernel) (by decide +kernel)
theorem v_57 : Cond.selects RX8 yX8_above yX8_above ∈ GW := gw_of (i := 57) (by decide +kernel) (by decide +kernel)
theorem k_X8_210 (g : GR) : gcV (wR g) RX8 210 8 yX8_above cX8_above 3 (some .int) 2 := mkV (ob_8 g) v_1203 v_1205 v_57 v_1206 v_74 ⟨by decide +kernel, by decide +kernel, by decide +kernel⟩
theorem v_1207 : Cond.methodLink RX8 213 yX8_least ∈ GW := gw_of (i := 1207) (by decide +kernel) (by decide +kernel)
theorem v_1209 : Cond.code yX8_least cX8_least 2 (some .int) ∈ GW := gw_of (i := 1209) (by decide +kernel) (by decide +kernel)
theorem v_1208 : Cond.static yX8_least ∈ GW := gw_of (i := 1208) (by decide +kernel) (by decide +kernel)
theorem k_X8_213 (g : GR) : gcS (wR g) RX8 213 yX8_least cX8_least 2 (some .int) 2 := mkS v_1207 v_1208 v_1209 v_74 ⟨by decide +kernel, by decide +kernel, by decide +kernel⟩
theorem v_1210 : Cond.methodLink RX8 216 yX8_behind ∈ GW := gw_of (i := 1210) (by decide +kernel) (by decide +kernel)
theorem v_1213 : Cond.code yX8_behind cX8_behind 4 (some .int) ∈ GW := gw_of (i := 1213) (by decide +kernel) (by decide +kernel)
theorem v_1212 : Cond.instanceMethod yX8_behind ∈ GW := gw_of (i := 1212) (by decide +kernel) (by decide +kernel)
theorem v_58 : Cond.selects RX8 yX8_behind yX8_behind ∈ GW := gw_of (i := 58) (by decide +kernel) (by decide +kernel)
theorem k_X8_216 (g : GR) : gcV (wR g) RX8 216 8 yX8_behind cX8_behind 4 (some .int) 2 := mkV (ob_8 g) v_1210 v_1212 v_58 v_1213 v_74 ⟨by decide +kernel, by decide +kernel, by decide +kernel⟩
abbrev rm_X1_at : Room := { frames := 0, cells := 0, slots := 0, locals := 0 }
abbrev rm_X1_secondsBetween : Room := { frames := 1, cells := 0, slots := 0, locals := 21 }
abbrev rm_X5_clear : Room := { frames := 0, cells := 0, slots := 0, locals := 0 }
abbrev rm_X2_clear : Room := { frames := 1, cells := 0, slots := 0, locals := 20 }
abbrev rm_X7_modulo : Room := { frames := 0, cells := 0, slots := 0, locals := 0 }
abbrev rm_X7_read : Room := { frames := 0, cells := 0, slots := 0, locals := 0 }
abbrev rm_X7_hasBit : Room := { frames := 0, cells := 0, slots := 0, locals := 0 }
abbrev rm_X3_isLitFrom : Room := { frames := 1, cells := 0, slots := 0, locals := 22 }
abbrev rm_X5_add : Room := { frames := 0, cells := 0, slots := 0, locals := 0 }
abbrev rm_X0_fillFrom : Room := { frames := 2, cells := 0, slots := 0, locals := 45 }
abbrev rm_X2_addAll : Room := { frames := 1, cells := 0, slots := 0, locals := 21 }
abbrev rm_X5_becomeCommon : Room := { frames := 0, cells := 0, slots := 0, locals := 0 }
abbrev rm_X2_becomeCommon : Room := { frames := 1, cells := 0, slots := 0, locals := 22 }
abbrev rm_X0_fillCommon : Room := { frames := 3, cells := 0, slots := 0, locals := 72 }
abbrev rm_J13_bitCount_95d88 : Room := { frames := 0, cells := 0, slots := 0, locals := 0 }
abbrev rm_X5_countCommon : Room := { frames := 1, cells := 0, slots := 0, locals := 21 }
abbrev rm_X0_width : Room := { frames := 4, cells := 0, slots := 0, locals := 94 }
abbrev rm_X2_countCommon : Room := { frames := 2, cells := 0, slots := 0, locals := 42 }
abbrev rm_X5_has : Room := { frames := 0, cells := 0, slots := 0, locals := 0 }
abbrev rm_X5_remove : Room := { frames := 0, cells := 0, slots := 0, locals := 0 }
abbrev rm_X5_turn : Room := { frames := 1, cells := 0, slots := 0, locals := 23 }
abbrev rm_X2_turn : Room := { frames := 2, cells := 0, slots := 0, locals := 46 }
abbrev rm_X0_lowestBestOffset : Room := { frames := 3, cells := 0, slots := 0, locals := 67 }
abbrev rm_X0_improveOffset : Room := { frames := 4, cells := 0, slots := 0, locals := 94 }
abbrev rm_X0_improveOffsets : Room := { frames := 5, cells := 0, slots := 0, locals := 117 }
abbrev rm_X0_greatestOverOffsets : Room := { frames := 3, cells := 0, slots := 0, locals := 67 }
abbrev rm_X0_bestOverAllOffsets : Room := { frames := 4, cells := 0, slots := 0, locals := 91 }
abbrev rm_J7_fill_53178 : Room := { frames := 0, cells := 0, slots := 0, locals := 0 }
abbrev rm_X4_reset : Room := { frames := 1, cells := 0, slots := 0, locals := 23 }
abbrev rm_X7_write : Room := { frames := 0, cells := 0, slots := 0, locals := 0 }
abbrev rm_X3_writeClearance : Room := { frames := 1, cells := 0, slots := 0, locals := 22 }
abbrev rm_X3_writeSets : Room := { frames := 1, cells := 0, slots := 0, locals := 22 }
abbrev rm_X3_clearanceOf : Room := { frames := 1, cells := 0, slots := 0, locals := 21 }
abbrev rm_X3_greatestClearance : Room := { frames := 2, cells := 0, slots := 0, locals := 43 }
abbrev rm_X3_leastGreen : Room := { frames := 1, cells := 0, slots := 0, locals := 21 }
abbrev rm_X3_weightOf : Room := { frames := 1, cells := 0, slots := 0, locals := 21 }
abbrev rm_X7_share : Room := { frames := 0, cells := 0, slots := 0, locals := 0 }
abbrev rm_X3_shareOut : Room := { frames := 2, cells := 0, slots := 0, locals := 44 }
abbrev rm_X3_drawLights : Room := { frames := 1, cells := 0, slots := 0, locals := 22 }
abbrev rm_X3_makePlan : Room := { frames := 3, cells := 0, slots := 0, locals := 69 }
abbrev rm_X3_reset : Room := { frames := 4, cells := 0, slots := 0, locals := 94 }
abbrev rm_X1_reset : Room := { frames := 5, cells := 0, slots := 0, locals := 115 }
abbrev rm_X1_isLast : Room := { frames := 0, cells := 0, slots := 0, locals := 0 }
abbrev rm_X1_linkFrom : Room := { frames := 1, cells := 0, slots := 0, locals := 21 }
abbrev rm_X1_vehiclesOnLinkFrom : Room := { frames := 2, cells := 0, slots := 0, locals := 43 }
abbrev rm_X1_isPlanned : Room := { frames := 1, cells := 0, slots := 0, locals := 21 }
abbrev rm_X3_changeClearance : Room := { frames := 4, cells := 0, slots := 0, locals := 94 }
abbrev rm_X3_changePhases : Room := { frames := 4, cells := 0, slots := 0, locals := 94 }
abbrev rm_X3_flowOf : Room := { frames := 1, cells := 0, slots := 0, locals := 21 }
abbrev rm_X3_changeFlow : Room := { frames := 4, cells := 0, slots := 0, locals := 94 }
abbrev rm_X3_haveOnePhase : Room := { frames := 1, cells := 0, slots := 0, locals := 21 }
abbrev rm_X3_hasConflictIn : Room := { frames := 3, cells := 0, slots := 0, locals := 68 }
abbrev rm_X3_isLit : Room := { frames := 2, cells := 0, slots := 0, locals := 45 }
abbrev rm_X3_isLitTooSoon : Room := { frames := 3, cells := 0, slots := 0, locals := 67 }
abbrev rm_X3_isBreached : Room := { frames := 4, cells := 0, slots := 0, locals := 91 }
abbrev rm_X3_countBreaches : Room := { frames := 5, cells := 0, slots := 0, locals := 114 }
abbrev rm_X3_placeInCycle : Room := { frames := 1, cells := 0, slots := 0, locals := 22 }
abbrev rm_X3_hasBusIn : Room := { frames := 0, cells := 0, slots := 0, locals := 0 }
abbrev rm_X3_changedGreen : Room := { frames := 1, cells := 0, slots := 0, locals := 21 }
abbrev rm_X3_phaseIn : Room := { frames := 2, cells := 0, slots := 0, locals := 43 }
abbrev rm_X3_lowestPhaseWith : Room := { frames := 1, cells := 0, slots := 0, locals := 21 }
abbrev rm_X3_spareGreen : Room := { frames := 2, cells := 0, slots := 0, locals := 42 }
abbrev rm_X3_secondsOfGreenBehind : Room := { frames := 2, cells := 0, slots := 0, locals := 43 }
abbrev rm_X3_takeBus : Room := { frames := 3, cells := 0, slots := 0, locals := 68 }
abbrev rm_X3_growReady : Room := { frames := 3, cells := 0, slots := 0, locals := 68 }
abbrev rm_X4_send : Room := { frames := 1, cells := 0, slots := 0, locals := 22 }
abbrev rm_X4_land : Room := { frames := 1, cells := 0, slots := 0, locals := 22 }
abbrev rm_X6_reset : Room := { frames := 0, cells := 0, slots := 0, locals := 0 }
abbrev rm_X6_letCome : Room := { frames := 2, cells := 0, slots := 0, locals := 42 }
abbrev rm_X6_hasRoomBehind : Room := { frames := 3, cells := 0, slots := 0, locals := 64 }
abbrev rm_X6_letLeave : Room := { frames := 2, cells := 0, slots := 0, locals := 44 }
abbrev rm_X6_passSecond : Room := { frames := 4, cells := 0, slots := 0, locals := 91 }
abbrev rm_X6_pass : Room := { frames := 5, cells := 0, slots := 0, locals := 113 }
abbrev rm_X7_junctions : Room := { frames := 0, cells := 0, slots := 0, locals := 0 }
abbrev rm_X7_clock : Room := { frames := 0, cells := 0, slots := 0, locals := 0 }
abbrev rm_X7_come : Room := { frames := 0, cells := 0, slots := 0, locals := 0 }
abbrev rm_X7_through : Room := { frames := 0, cells := 0, slots := 0, locals := 0 }
abbrev rm_X7_isOutside : Room := { frames := 0, cells := 0, slots := 0, locals := 0 }
abbrev rm_X8_thrown : Room := { frames := 0, cells := 0, slots := 0, locals := 0 }
abbrev rm_X8_holds : Room := { frames := 0, cells := 0, slots := 0, locals := 0 }
abbrev rm_X8_in : Room := { frames := 0, cells := 0, slots := 0, locals := 0 }
abbrev rm_X8_has : Room := { frames := 0, cells := 0, slots := 0, locals := 0 }
abbrev rm_X8_isJunction : Room := { frames := 1, cells := 0, slots := 0, locals := 22 }
abbrev rm_X8_isMovement : Room := { frames := 1, cells := 0, slots := 0, locals := 22 }
abbrev rm_X8_isLink : Room := { frames := 1, cells := 0, slots := 0, locals := 22 }
abbrev rm_X8_conflict : Room := { frames := 0, cells := 0, slots := 0, locals := 0 }
abbrev rm_X8_begins : Room := { frames := 0, cells := 0, slots := 0, locals := 0 }
abbrev rm_X8_begin : Room := { frames := 1, cells := 0, slots := 0, locals := 23 }
abbrev rm_X8_areIn : Room := { frames := 1, cells := 0, slots := 0, locals := 22 }
abbrev rm_X8_isBad : Room := { frames := 2, cells := 0, slots := 0, locals := 46 }
abbrev rm_X8_errorOfConflict : Room := { frames := 2, cells := 0, slots := 0, locals := 43 }
abbrev rm_X8_setConflict : Room := { frames := 3, cells := 0, slots := 0, locals := 70 }
abbrev rm_X8_setPhases : Room := { frames := 3, cells := 0, slots := 0, locals := 69 }
abbrev rm_X8_setFlow : Room := { frames := 2, cells := 0, slots := 0, locals := 43 }
abbrev rm_X8_setLink : Room := { frames := 2, cells := 0, slots := 0, locals := 43 }
abbrev rm_X8_setOffset : Room := { frames := 2, cells := 0, slots := 0, locals := 43 }
abbrev rm_X8_clearingOf : Room := { frames := 1, cells := 0, slots := 0, locals := 21 }
abbrev rm_X8_leastOf : Room := { frames := 1, cells := 0, slots := 0, locals := 21 }
abbrev rm_X8_weight : Room := { frames := 1, cells := 0, slots := 0, locals := 21 }
abbrev rm_X8_plans : Room := { frames := 2, cells := 0, slots := 0, locals := 48 }
abbrev rm_X8_plansAll : Room := { frames := 3, cells := 0, slots := 0, locals := 74 }
abbrev rm_X8_secondOf : Room := { frames := 0, cells := 0, slots := 0, locals := 0 }
abbrev rm_X8_cycleOf : Room := { frames := 1, cells := 0, slots := 0, locals := 22 }
abbrev rm_X8_phaseAt : Room := { frames := 2, cells := 0, slots := 0, locals := 44 }
abbrev rm_X8_isGreenAt : Room := { frames := 3, cells := 0, slots := 0, locals := 71 }
abbrev rm_X8_isFree : Room := { frames := 4, cells := 0, slots := 0, locals := 96 }
abbrev rm_X8_bandOf : Room := { frames := 5, cells := 0, slots := 0, locals := 121 }
abbrev rm_X8_bands : Room := { frames := 6, cells := 0, slots := 0, locals := 144 }
abbrev rm_X8_betters : Room := { frames := 7, cells := 0, slots := 0, locals := 164 }
abbrev rm_X8_improve : Room := { frames := 8, cells := 0, slots := 0, locals := 190 }
abbrev rm_X8_junctions : Room := { frames := 0, cells := 0, slots := 0, locals := 0 }
abbrev rm_X8_isPlanned : Room := { frames := 3, cells := 0, slots := 0, locals := 74 }
abbrev rm_X8_hasPlan : Room := { frames := 4, cells := 0, slots := 0, locals := 95 }
abbrev rm_X8_isPhase : Room := { frames := 2, cells := 0, slots := 0, locals := 43 }
abbrev rm_X8_green : Room := { frames := 4, cells := 0, slots := 0, locals := 95 }
abbrev rm_X8_clearing : Room := { frames := 3, cells := 0, slots := 0, locals := 65 }
abbrev rm_X8_offset : Room := { frames := 2, cells := 0, slots := 0, locals := 43 }
abbrev rm_X8_isGreen : Room := { frames := 4, cells := 0, slots := 0, locals := 96 }
abbrev rm_X8_isBreach : Room := { frames := 4, cells := 0, slots := 0, locals := 96 }
abbrev rm_X8_breaches : Room := { frames := 5, cells := 0, slots := 0, locals := 121 }
abbrev rm_X8_band : Room := { frames := 6, cells := 0, slots := 0, locals := 144 }
abbrev rm_X8_bestByAll : Room := { frames := 7, cells := 0, slots := 0, locals := 164 }
abbrev rm_X8_joins : Room := { frames := 0, cells := 0, slots := 0, locals := 0 }
abbrev rm_X8_arrives : Room := { frames := 0, cells := 0, slots := 0, locals := 0 }
abbrev rm_X8_heldOf : Room := { frames := 0, cells := 0, slots := 0, locals := 0 }
abbrev rm_X8_leaves : Room := { frames := 4, cells := 0, slots := 0, locals := 96 }
abbrev rm_X8_run : Room := { frames := 5, cells := 0, slots := 0, locals := 119 }
abbrev rm_X8_phaseOf : Room := { frames := 1, cells := 0, slots := 0, locals := 21 }
abbrev rm_X8_errorOfCall : Room := { frames := 4, cells := 0, slots := 0, locals := 96 }
abbrev rm_X8_least : Room := { frames := 0, cells := 0, slots := 0, locals := 0 }
abbrev rm_X8_above : Room := { frames := 2, cells := 0, slots := 0, locals := 43 }
abbrev rm_X8_behind : Room := { frames := 3, cells := 0, slots := 0, locals := 71 }
abbrev rm_X8_callBus : Room := { frames := 5, cells := 0, slots := 0, locals := 119 }
abbrev rm_X8_clock : Room := { frames := 0, cells := 0, slots := 0, locals := 0 }
abbrev rm_X8_phaseNow : Room := { frames := 4, cells := 0, slots := 0, locals := 95 }
abbrev rm_X8_queue : Room := { frames := 2, cells := 0, slots := 0, locals := 43 }
abbrev rm_X8_held : Room := { frames := 2, cells := 0, slots := 0, locals := 43 }
abbrev rm_X8_come : Room := { frames := 0, cells := 0, slots := 0, locals := 0 }
abbrev rm_X8_through : Room := { frames := 0, cells := 0, slots := 0, locals := 0 }
