theorem v_258 : Cond.classLink RX1 33 "java/lang/IndexOutOfBoundsException" ∈ GW := gw_of (i := 258) (by decide +kernel) (by decide +kernel)
theorem v_39 : Cond.initialized "java/lang/IndexOutOfBoundsException" ∈ GW := gw_of (i := 39) (by decide +kernel) (by decide +kernel)
theorem th_X1_37 : thAt RX1 33 37 "java/lang/IndexOutOfBoundsException" := ⟨v_258, v_39, by decide +kernel, by decide +kernel, by decide +kernel, by decide +kernel⟩
theorem v_533 : Cond.methodLink RX7 220 yX1_isPlanned ∈ GW := gw_of (i := 533) (by decide +kernel) (by decide +kernel)
theorem v_536 : Cond.code yX1_isPlanned cX1_isPlanned 2 (some .boolean) ∈ GW := gw_of (i := 536) (by decide +kernel) (by decide +kernel)
theorem v_534 : Cond.instanceMethod yX1_isPlanned ∈ GW := gw_of (i := 534) (by decide +kernel) (by decide +kernel)
theorem v_535 : Cond.selects RX1 yX1_isPlanned yX1_isPlanned ∈ GW := gw_of (i := 535) (by decide +kernel) (by decide +kernel)
theorem k_X7_220 (g : GC) : gcV (wC g) RX7 220 1 yX1_isPlanned cX1_isPlanned 2 (some .boolean) 0 := mkV (ob_1 g) v_533 v_534 v_535 v_536 v_29 ⟨by decide +kernel, by decide +kernel, by decide +kernel⟩
theorem v_444 : Cond.classLink RX7 68 "java/lang/IllegalStateException" ∈ GW := gw_of (i := 444) (by decide +kernel) (by decide +kernel)
theorem v_43 : Cond.initialized "java/lang/IllegalStateException" ∈ GW := gw_of (i := 43) (by decide +kernel) (by decide +kernel)
theorem th_X7_72 : thAt RX7 68 72 "java/lang/IllegalStateException" := ⟨v_444, v_43, by decide +kernel, by decide +kernel, by decide +kernel, by decide +kernel⟩
theorem v_529 : Cond.methodLink RX7 126 yX7_checkPlans ∈ GW := gw_of (i := 529) (by decide +kernel) (by decide +kernel)
theorem v_532 : Cond.code yX7_checkPlans cX7_checkPlans 1 none ∈ GW := gw_of (i := 532) (by decide +kernel) (by decide +kernel)
theorem v_531 : Cond.instanceMethod yX7_checkPlans ∈ GW := gw_of (i := 531) (by decide +kernel) (by decide +kernel)
theorem v_10 : Cond.selects RX7 yX7_checkPlans yX7_checkPlans ∈ GW := gw_of (i := 10) (by decide +kernel) (by decide +kernel)
theorem k_X7_126 (g : GC) : gcV (wC g) RX7 126 7 yX7_checkPlans cX7_checkPlans 1 none 0 := mkV (ob_7 g) v_529 v_531 v_10 v_532 v_28 ⟨by decide +kernel, by decide +kernel, by decide +kernel⟩
theorem v_390 : Cond.fieldLink RX7 21 RX7 "bands" "LGreenwave$Bands;" ∈ GW := gw_of (i := 390) (by decide +kernel) (by decide +kernel)
theorem gf_X7_21 {cc : ByteArray} {nL : Nat} {rm : Room} {X : MX} {g : GC} {cn sn : Nat} {S : Mem} {L : List (Nat × Value)} {pc pc' : Nat} {st : List Value} (h0 : CX RX7 cc nL rm X (wC g)) (hk : 0 < 1) (hdg : decode cc pc = .ok (.getfield 21, 3)) (e : pc + 3 = pc') (kk : GV X (wC g) nL cn sn S L pc' (.ref (wA (wC g) 0 0) :: st)) : GV X (wC g) nL cn sn S L pc (.ref (wA (wC g) 7 0) :: st) :=
  r_get (T := TX7) h0 hk rfl rfl inX7 1 (by decide) v_390 rfl rfl hdg e kk
theorem v_756 : Cond.methodLink RX7 168 yX0_width ∈ GW := gw_of (i := 756) (by decide +kernel) (by decide +kernel)
theorem v_759 : Cond.code yX0_width cX0_width 3 (some .int) ∈ GW := gw_of (i := 759) (by decide +kernel) (by decide +kernel)
theorem v_757 : Cond.instanceMethod yX0_width ∈ GW := gw_of (i := 757) (by decide +kernel) (by decide +kernel)
theorem v_758 : Cond.selects RX0 yX0_width yX0_width ∈ GW := gw_of (i := 758) (by decide +kernel) (by decide +kernel)
theorem k_X7_168 (g : GC) : gcV (wC g) RX7 168 0 yX0_width cX0_width 3 (some .int) 1 := mkV (ob_0 g) v_756 v_757 v_758 v_759 v_32 ⟨by decide +kernel, by decide +kernel, by decide +kernel⟩
theorem v_250 : Cond.methodLink RX7 32 yX1_reset ∈ GW := gw_of (i := 250) (by decide +kernel) (by decide +kernel)
theorem v_253 : Cond.code yX1_reset cX1_reset 4 none ∈ GW := gw_of (i := 253) (by decide +kernel) (by decide +kernel)
theorem v_251 : Cond.instanceMethod yX1_reset ∈ GW := gw_of (i := 251) (by decide +kernel) (by decide +kernel)
theorem v_252 : Cond.selects RX1 yX1_reset yX1_reset ∈ GW := gw_of (i := 252) (by decide +kernel) (by decide +kernel)
theorem k_X7_32 (g : GC) : gcV (wC g) RX7 32 1 yX1_reset cX1_reset 4 none 2 := mkV (ob_1 g) v_250 v_251 v_252 v_253 v_29 ⟨by decide +kernel, by decide +kernel, by decide +kernel⟩
theorem v_726 : Cond.methodLink RX7 47 yX6_reset ∈ GW := gw_of (i := 726) (by decide +kernel) (by decide +kernel)
theorem v_729 : Cond.code yX6_reset cX6_reset 1 none ∈ GW := gw_of (i := 729) (by decide +kernel) (by decide +kernel)
theorem v_727 : Cond.instanceMethod yX6_reset ∈ GW := gw_of (i := 727) (by decide +kernel) (by decide +kernel)
theorem v_728 : Cond.selects RX6 yX6_reset yX6_reset ∈ GW := gw_of (i := 728) (by decide +kernel) (by decide +kernel)
theorem k_X7_47 (g : GC) : gcV (wC g) RX7 47 6 yX6_reset cX6_reset 1 none 0 := mkV (ob_6 g) v_726 v_727 v_728 v_729 v_35 ⟨by decide +kernel, by decide +kernel, by decide +kernel⟩
theorem v_424 : Cond.classLink RX7 40 "java/lang/IllegalArgumentException" ∈ GW := gw_of (i := 424) (by decide +kernel) (by decide +kernel)
theorem v_42 : Cond.initialized "java/lang/IllegalArgumentException" ∈ GW := gw_of (i := 42) (by decide +kernel) (by decide +kernel)
theorem th_X7_44 : thAt RX7 40 44 "java/lang/IllegalArgumentException" := ⟨v_424, v_42, by decide +kernel, by decide +kernel, by decide +kernel, by decide +kernel⟩
theorem v_476 : Cond.classLink RX7 227 "java/lang/IndexOutOfBoundsException" ∈ GW := gw_of (i := 476) (by decide +kernel) (by decide +kernel)
theorem th_X7_231 : thAt RX7 227 231 "java/lang/IndexOutOfBoundsException" := ⟨v_476, v_39, by decide +kernel, by decide +kernel, by decide +kernel, by decide +kernel⟩
theorem v_609 : Cond.methodLink RX7 187 yX3_lowestPhaseWith ∈ GW := gw_of (i := 609) (by decide +kernel) (by decide +kernel)
theorem k_X7_187 (g : GC) : gcV (wC g) RX7 187 3 yX3_lowestPhaseWith cX3_lowestPhaseWith 3 (some .int) 1 := mkV (ob_3 g) v_609 v_610 v_611 v_612 v_30 ⟨by decide +kernel, by decide +kernel, by decide +kernel⟩
theorem v_614 : Cond.methodLink RX7 192 yX3_hasBusIn ∈ GW := gw_of (i := 614) (by decide +kernel) (by decide +kernel)
theorem k_X7_192 (g : GC) : gcV (wC g) RX7 192 3 yX3_hasBusIn cX3_hasBusIn 2 (some .boolean) 1 := mkV (ob_3 g) v_614 v_572 v_573 v_574 v_30 ⟨by decide +kernel, by decide +kernel, by decide +kernel⟩
theorem v_236 : Cond.fieldLinkNest RX7 197 RX6 "hasBegun" "Z" "Greenwave" ∈ NW := nw_of (i := 236) (by decide +kernel) (by decide +kernel)
theorem pf_X7_197 {cc : ByteArray} {nL : Nat} {rm : Room} {X : MX} {g : GC} {cn sn : Nat} {S : Mem} {L : List (Nat × Value)} {pc pc' : Nat} {st : List Value} {v : Int32} (h0 : CX RX7 cc nL rm X (wC g)) (hk : 0 < 1) (hdg : decode cc pc = .ok (.putfield 197, 3)) (e : pc + 3 = pc') (hz : nb v = v) (kk : GV X (wC g) nL cn sn (wI S 6 0 5 v) L pc' st) : GV X (wC g) nL cn sn S L pc (.int v :: .ref (wA (wC g) 6 0) :: st) :=
  r_putN (S' := (wI S 6 0 5 v)) (T := TX6) h0 hk rfl rfl inX6 tyX6 tyX6_ok nmX6 5 (by decide) v_236 rfl rfl (nbz hz) (nbf hz) (Nat.le_of_ble_eq_true rfl) wI_off ((congrArg (fun z => wCe (wC g) z (S.2 6 0) 6 0) wI_on).trans rfl) hdg e kk
theorem v_616 : Cond.methodLink RX7 200 yX3_takeBus ∈ GW := gw_of (i := 616) (by decide +kernel) (by decide +kernel)
theorem v_619 : Cond.code yX3_takeBus cX3_takeBus 6 (some .int) ∈ GW := gw_of (i := 619) (by decide +kernel) (by decide +kernel)
theorem v_617 : Cond.instanceMethod yX3_takeBus ∈ GW := gw_of (i := 617) (by decide +kernel) (by decide +kernel)
theorem v_618 : Cond.selects RX3 yX3_takeBus yX3_takeBus ∈ GW := gw_of (i := 618) (by decide +kernel) (by decide +kernel)
theorem k_X7_200 (g : GC) : gcV (wC g) RX7 200 3 yX3_takeBus cX3_takeBus 6 (some .int) 2 := mkV (ob_3 g) v_616 v_617 v_618 v_619 v_30 ⟨by decide +kernel, by decide +kernel, by decide +kernel⟩
theorem gf_X7_197 {cc : ByteArray} {nL : Nat} {rm : Room} {X : MX} {g : GC} {cn sn : Nat} {S : Mem} {L : List (Nat × Value)} {pc pc' : Nat} {st : List Value} (h0 : CX RX7 cc nL rm X (wC g)) (hk : 0 < 1) (hdg : decode cc pc = .ok (.getfield 197, 3)) (e : pc + 3 = pc') (kk : GV X (wC g) nL cn sn S L pc' (.int (S.1 6 0 5) :: st)) : GV X (wC g) nL cn sn S L pc (.ref (wA (wC g) 6 0) :: st) :=
  r_getN (T := TX6) h0 hk rfl rfl inX6 5 (by decide) v_236 rfl rfl hdg e kk
theorem v_95 : Cond.fieldLinkNest RX7 148 RX3 "greens" "[I" "Greenwave" ∈ NW := nw_of (i := 95) (by decide +kernel) (by decide +kernel)
theorem gf_X7_148 {cc : ByteArray} {nL : Nat} {rm : Room} {X : MX} {g : GC} {cn sn : Nat} {S : Mem} {L : List (Nat × Value)} {pc pc' : Nat} {st : List Value} {k : Nat} (h0 : CX RX7 cc nL rm X (wC g)) (hk : k < 5) (hdg : decode cc pc = .ok (.getfield 148, 3)) (e : pc + 3 = pc') (kk : GV X (wC g) nL cn sn S L pc' (.ref (wA (wC g) 14 k) :: st)) : GV X (wC g) nL cn sn S L pc (.ref (wA (wC g) 3 k) :: st) :=
  r_getN (T := TX3) h0 hk rfl rfl inX3 3 (by decide) v_95 rfl rfl hdg e kk
theorem v_440 : Cond.methodLink RX7 59 yX7_checkSettingUp ∈ GW := gw_of (i := 440) (by decide +kernel) (by decide +kernel)
theorem v_443 : Cond.code yX7_checkSettingUp cX7_checkSettingUp 1 none ∈ GW := gw_of (i := 443) (by decide +kernel) (by decide +kernel)
theorem v_442 : Cond.instanceMethod yX7_checkSettingUp ∈ GW := gw_of (i := 442) (by decide +kernel) (by decide +kernel)
theorem v_9 : Cond.selects RX7 yX7_checkSettingUp yX7_checkSettingUp ∈ GW := gw_of (i := 9) (by decide +kernel) (by decide +kernel)
theorem k_X7_59 (g : GC) : gcV (wC g) RX7 59 7 yX7_checkSettingUp cX7_checkSettingUp 1 none 0 := mkV (ob_7 g) v_440 v_442 v_9 v_443 v_28 ⟨by decide +kernel, by decide +kernel, by decide +kernel⟩
theorem v_633 : Cond.methodLink RX7 129 yX0_improveOffsets ∈ GW := gw_of (i := 633) (by decide +kernel) (by decide +kernel)
theorem v_636 : Cond.code yX0_improveOffsets cX0_improveOffsets 4 (some .int) ∈ GW := gw_of (i := 636) (by decide +kernel) (by decide +kernel)
theorem v_634 : Cond.instanceMethod yX0_improveOffsets ∈ GW := gw_of (i := 634) (by decide +kernel) (by decide +kernel)
theorem v_635 : Cond.selects RX0 yX0_improveOffsets yX0_improveOffsets ∈ GW := gw_of (i := 635) (by decide +kernel) (by decide +kernel)
theorem k_X7_129 (g : GC) : gcV (wC g) RX7 129 0 yX0_improveOffsets cX0_improveOffsets 4 (some .int) 0 := mkV (ob_0 g) v_633 v_634 v_635 v_636 v_32 ⟨by decide +kernel, by decide +kernel, by decide +kernel⟩
theorem v_784 : Cond.methodLink RX7 203 yX3_phaseIn ∈ GW := gw_of (i := 784) (by decide +kernel) (by decide +kernel)
theorem k_X7_203 (g : GC) : gcV (wC g) RX7 203 3 yX3_phaseIn cX3_phaseIn 6 (some .int) 1 := mkV (ob_3 g) v_784 v_568 v_569 v_570 v_30 ⟨by decide +kernel, by decide +kernel, by decide +kernel⟩
theorem v_539 : Cond.methodLink RX7 184 yX6_pass ∈ GW := gw_of (i := 539) (by decide +kernel) (by decide +kernel)
theorem v_542 : Cond.code yX6_pass cX6_pass 4 (some .int) ∈ GW := gw_of (i := 542) (by decide +kernel) (by decide +kernel)
theorem v_540 : Cond.instanceMethod yX6_pass ∈ GW := gw_of (i := 540) (by decide +kernel) (by decide +kernel)
theorem v_541 : Cond.selects RX6 yX6_pass yX6_pass ∈ GW := gw_of (i := 541) (by decide +kernel) (by decide +kernel)
theorem k_X7_184 (g : GC) : gcV (wC g) RX7 184 6 yX6_pass cX6_pass 4 (some .int) 1 := mkV (ob_6 g) v_539 v_540 v_541 v_542 v_35 ⟨by decide +kernel, by decide +kernel, by decide +kernel⟩
theorem v_480 : Cond.methodLink RX7 62 yX3_haveOnePhase ∈ GW := gw_of (i := 480) (by decide +kernel) (by decide +kernel)
theorem v_483 : Cond.code yX3_haveOnePhase cX3_haveOnePhase 5 (some .boolean) ∈ GW := gw_of (i := 483) (by decide +kernel) (by decide +kernel)
theorem v_481 : Cond.instanceMethod yX3_haveOnePhase ∈ GW := gw_of (i := 481) (by decide +kernel) (by decide +kernel)
theorem v_482 : Cond.selects RX3 yX3_haveOnePhase yX3_haveOnePhase ∈ GW := gw_of (i := 482) (by decide +kernel) (by decide +kernel)
theorem k_X7_62 (g : GC) : gcV (wC g) RX7 62 3 yX3_haveOnePhase cX3_haveOnePhase 5 (some .boolean) 2 := mkV (ob_3 g) v_480 v_481 v_482 v_483 v_30 ⟨by decide +kernel, by decide +kernel, by decide +kernel⟩
theorem v_484 : Cond.methodLink RX7 73 yX3_clearanceOf ∈ GW := gw_of (i := 484) (by decide +kernel) (by decide +kernel)
theorem k_X7_73 (g : GC) : gcV (wC g) RX7 73 3 yX3_clearanceOf cX3_clearanceOf 3 (some .int) 2 := mkV (ob_3 g) v_484 v_364 v_365 v_366 v_30 ⟨by decide +kernel, by decide +kernel, by decide +kernel⟩
theorem v_485 : Cond.methodLink RX7 77 yX3_changeClearance ∈ GW := gw_of (i := 485) (by decide +kernel) (by decide +kernel)
theorem v_488 : Cond.code yX3_changeClearance cX3_changeClearance 4 none ∈ GW := gw_of (i := 488) (by decide +kernel) (by decide +kernel)
theorem v_486 : Cond.instanceMethod yX3_changeClearance ∈ GW := gw_of (i := 486) (by decide +kernel) (by decide +kernel)
theorem v_487 : Cond.selects RX3 yX3_changeClearance yX3_changeClearance ∈ GW := gw_of (i := 487) (by decide +kernel) (by decide +kernel)
theorem k_X7_77 (g : GC) : gcV (wC g) RX7 77 3 yX3_changeClearance cX3_changeClearance 4 none 3 := mkV (ob_3 g) v_485 v_486 v_487 v_488 v_30 ⟨by decide +kernel, by decide +kernel, by decide +kernel⟩
theorem v_494 : Cond.methodLink RX7 97 yX3_flowOf ∈ GW := gw_of (i := 494) (by decide +kernel) (by decide +kernel)
theorem k_X7_97 (g : GC) : gcV (wC g) RX7 97 3 yX3_flowOf cX3_flowOf 2 (some .int) 1 := mkV (ob_3 g) v_494 v_495 v_496 v_497 v_30 ⟨by decide +kernel, by decide +kernel, by decide +kernel⟩
theorem v_498 : Cond.methodLink RX7 101 yX3_changeFlow ∈ GW := gw_of (i := 498) (by decide +kernel) (by decide +kernel)
theorem v_501 : Cond.code yX3_changeFlow cX3_changeFlow 3 none ∈ GW := gw_of (i := 501) (by decide +kernel) (by decide +kernel)
theorem v_499 : Cond.instanceMethod yX3_changeFlow ∈ GW := gw_of (i := 499) (by decide +kernel) (by decide +kernel)
theorem v_500 : Cond.selects RX3 yX3_changeFlow yX3_changeFlow ∈ GW := gw_of (i := 500) (by decide +kernel) (by decide +kernel)
theorem k_X7_101 (g : GC) : gcV (wC g) RX7 101 3 yX3_changeFlow cX3_changeFlow 3 none 2 := mkV (ob_3 g) v_498 v_499 v_500 v_501 v_30 ⟨by decide +kernel, by decide +kernel, by decide +kernel⟩
theorem v_514 : Cond.methodLink RX7 104 yX1_linkFrom ∈ GW := gw_of (i := 514) (by decide +kernel) (by decide +kernel)
theorem k_X7_104 (g : GC) : gcV (wC g) RX7 104 1 yX1_linkFrom cX1_linkFrom 3 (some (.object "Greenwave$Link")) 1 := mkV (ob_1 g) v_514 v_515 v_516 v_517 v_29 ⟨by decide +kernel, by decide +kernel, by decide +kernel⟩
theorem v_74 : Cond.fieldLinkNest RX7 110 RX4 "seconds" "I" "Greenwave" ∈ NW := nw_of (i := 74) (by decide +kernel) (by decide +kernel)
theorem pf_X7_110 {cc : ByteArray} {nL : Nat} {rm : Room} {X : MX} {g : GC} {cn sn : Nat} {S : Mem} {L : List (Nat × Value)} {pc pc' : Nat} {st : List Value} {k : Nat} {v : Int32} (h0 : CX RX7 cc nL rm X (wC g)) (hk : k < 5) (hdg : decode cc pc = .ok (.putfield 110, 3)) (e : pc + 3 = pc') (kk : GV X (wC g) nL cn sn (wI S 4 k 1 v) L pc' st) : GV X (wC g) nL cn sn S L pc (.int v :: .ref (wA (wC g) 4 k) :: st) :=
  r_putN (S' := (wI S 4 k 1 v)) (T := TX4) h0 hk rfl rfl inX4 tyX4 tyX4_ok nmX4 1 (by decide) v_74 rfl rfl (rfl) rfl (Nat.le_of_ble_eq_true rfl) wI_off ((congrArg (fun z => wCe (wC g) z (S.2 4 k) 4 k) wI_on).trans rfl) hdg e kk
theorem v_78 : Cond.fieldLinkNest RX7 115 RX4 "room" "I" "Greenwave" ∈ NW := nw_of (i := 78) (by decide +kernel) (by decide +kernel)
theorem pf_X7_115 {cc : ByteArray} {nL : Nat} {rm : Room} {X : MX} {g : GC} {cn sn : Nat} {S : Mem} {L : List (Nat × Value)} {pc pc' : Nat} {st : List Value} {k : Nat} {v : Int32} (h0 : CX RX7 cc nL rm X (wC g)) (hk : k < 5) (hdg : decode cc pc = .ok (.putfield 115, 3)) (e : pc + 3 = pc') (kk : GV X (wC g) nL cn sn (wI S 4 k 2 v) L pc' st) : GV X (wC g) nL cn sn S L pc (.int v :: .ref (wA (wC g) 4 k) :: st) :=
  r_putN (S' := (wI S 4 k 2 v)) (T := TX4) h0 hk rfl rfl inX4 tyX4 tyX4_ok nmX4 2 (by decide) v_78 rfl rfl (rfl) rfl (Nat.le_of_ble_eq_true rfl) wI_off ((congrArg (fun z => wCe (wC g) z (S.2 4 k) 4 k) wI_on).trans rfl) hdg e kk
theorem v_163 : Cond.fieldLinkNest RX7 118 RX1 "cycle" "I" "Greenwave" ∈ NW := nw_of (i := 163) (by decide +kernel) (by decide +kernel)
theorem gf_X7_118 {cc : ByteArray} {nL : Nat} {rm : Room} {X : MX} {g : GC} {cn sn : Nat} {S : Mem} {L : List (Nat × Value)} {pc pc' : Nat} {st : List Value} (h0 : CX RX7 cc nL rm X (wC g)) (hk : 0 < 1) (hdg : decode cc pc = .ok (.getfield 118, 3)) (e : pc + 3 = pc') (kk : GV X (wC g) nL cn sn S L pc' (.int (S.1 1 0 2) :: st)) : GV X (wC g) nL cn sn S L pc (.ref (wA (wC g) 1 0) :: st) :=
  r_getN (T := TX1) h0 hk rfl rfl inX1 2 (by decide) v_163 rfl rfl hdg e kk
theorem pf_X7_123 {cc : ByteArray} {nL : Nat} {rm : Room} {X : MX} {g : GC} {cn sn : Nat} {S : Mem} {L : List (Nat × Value)} {pc pc' : Nat} {st : List Value} {k : Nat} {v : Int32} (h0 : CX RX7 cc nL rm X (wC g)) (hk : k < 5) (hdg : decode cc pc = .ok (.putfield 123, 3)) (e : pc + 3 = pc') (kk : GV X (wC g) nL cn sn (wI S 3 k 9 v) L pc' st) : GV X (wC g) nL cn sn S L pc (.int v :: .ref (wA (wC g) 3 k) :: st) :=
  r_putN (S' := (wI S 3 k 9 v)) (T := TX3) h0 hk rfl rfl inX3 tyX3 tyX3_ok nmX3 9 (by decide) v_107 rfl rfl (rfl) rfl (Nat.le_of_ble_eq_true rfl) wI_off ((congrArg (fun z => wCe (wC g) z (S.2 3 k) 3 k) wI_on).trans rfl) hdg e kk
theorem v_460 : Cond.methodLink RX7 83 yX3_hasConflictIn ∈ GW := gw_of (i := 460) (by decide +kernel) (by decide +kernel)
theorem v_463 : Cond.code yX3_hasConflictIn cX3_hasConflictIn 2 (some .boolean) ∈ GW := gw_of (i := 463) (by decide +kernel) (by decide +kernel)
theorem v_461 : Cond.instanceMethod yX3_hasConflictIn ∈ GW := gw_of (i := 461) (by decide +kernel) (by decide +kernel)
theorem v_462 : Cond.selects RX3 yX3_hasConflictIn yX3_hasConflictIn ∈ GW := gw_of (i := 462) (by decide +kernel) (by decide +kernel)
theorem k_X7_83 (g : GC) : gcV (wC g) RX7 83 3 yX3_hasConflictIn cX3_hasConflictIn 2 (some .boolean) 1 := mkV (ob_3 g) v_460 v_461 v_462 v_463 v_30 ⟨by decide +kernel, by decide +kernel, by decide +kernel⟩
theorem v_465 : Cond.methodLink RX7 87 yX3_changePhases ∈ GW := gw_of (i := 465) (by decide +kernel) (by decide +kernel)
theorem v_468 : Cond.code yX3_changePhases cX3_changePhases 5 none ∈ GW := gw_of (i := 468) (by decide +kernel) (by decide +kernel)
theorem v_466 : Cond.instanceMethod yX3_changePhases ∈ GW := gw_of (i := 466) (by decide +kernel) (by decide +kernel)
theorem v_467 : Cond.selects RX3 yX3_changePhases yX3_changePhases ∈ GW := gw_of (i := 467) (by decide +kernel) (by decide +kernel)
theorem k_X7_87 (g : GC) : gcV (wC g) RX7 87 3 yX3_changePhases cX3_changePhases 5 none 4 := mkV (ob_3 g) v_465 v_466 v_467 v_468 v_30 ⟨by decide +kernel, by decide +kernel, by decide +kernel⟩
theorem kb_9 : (Int8.ofInt (9)).toInt32 = (9 : Int32) := by decide
theorem kb_15 : (Int8.ofInt (15)).toInt32 = (15 : Int32) := by decide
theorem kb_30 : (Int8.ofInt (30)).toInt32 = (30 : Int32) := by decide
theorem kb_40 : (Int8.ofInt (40)).toInt32 = (40 : Int32) := by decide
theorem kb_60 : (Int8.ofInt (60)).toInt32 = (60 : Int32) := by decide
theorem kb_90 : (Int8.ofInt (90)).toInt32 = (90 : Int32) := by decide
theorem ks_600 : (Int16.ofInt (600)).toInt32 = (600 : Int32) := by decide
theorem ks_1800 : (Int16.ofInt (1800)).toInt32 = (1800 : Int32) := by decide
theorem ks_7200 : (Int16.ofInt (7200)).toInt32 = (7200 : Int32) := by decide
abbrev rx_X1_at : Room := { frames := 6, cells := 1, slots := 6, locals := 90 }
abbrev rx_X1_linkFrom : Room := { frames := 7, cells := 2, slots := 12, locals := 111 }
abbrev rx_X1_vehiclesOnLinkFrom : Room := { frames := 8, cells := 3, slots := 18, locals := 133 }
abbrev rx_X7_checkPlans : Room := { frames := 6, cells := 1, slots := 6, locals := 90 }
abbrev rx_X7_band : Room := { frames := 7, cells := 1, slots := 6, locals := 116 }
abbrev rx_X7_begin : Room := { frames := 6, cells := 1, slots := 6, locals := 138 }
abbrev rx_X7_checkMovement : Room := { frames := 6, cells := 1, slots := 6, locals := 90 }
abbrev rx_X7_callBus : Room := { frames := 7, cells := 4, slots := 24, locals := 111 }
abbrev rx_X7_checkPhase : Room := { frames := 6, cells := 1, slots := 6, locals := 90 }
abbrev rx_X7_checkPlan : Room := { frames := 6, cells := 1, slots := 6, locals := 90 }
abbrev rx_X7_checkSettingUp : Room := { frames := 6, cells := 1, slots := 6, locals := 90 }
abbrev rx_X7_green : Room := { frames := 7, cells := 3, slots := 18, locals := 111 }
abbrev rx_X7_improve : Room := { frames := 7, cells := 2, slots := 12, locals := 140 }
abbrev rx_X7_phaseNow : Room := { frames := 7, cells := 2, slots := 12, locals := 111 }
abbrev rx_X7_run : Room := { frames := 7, cells := 2, slots := 12, locals := 136 }
abbrev rx_X7_setConflict : Room := { frames := 7, cells := 5, slots := 30, locals := 117 }
abbrev rx_X7_setFlow : Room := { frames := 7, cells := 3, slots := 18, locals := 116 }
abbrev rx_X7_setLink : Room := { frames := 8, cells := 3, slots := 18, locals := 133 }
abbrev rx_X7_setOffset : Room := { frames := 7, cells := 2, slots := 12, locals := 111 }
abbrev rx_X7_setPhases : Room := { frames := 7, cells := 3, slots := 18, locals := 118 }
theorem bx_X1_at {fu : Nat} {x : Int32} {S : Mem} {r : Nat} (h : fx_X1_at fu x S = some (.inr r)) : r < 5 := by
  rw [fx_X1_at] at h
  by_cases c1 : x < 0
  · rw [if_pos c1] at h; cases h
  · rw [if_neg c1] at h
    by_cases c2 : S.1 1 0 1 ≤ x
    · rw [if_pos c2] at h; cases h
    · rw [if_neg c2] at h
      by_cases c3 : nI 5 ≤ x
      · rw [if_pos c3] at h; cases h
      · rw [if_neg c3] at h
        obtain ⟨h1, h⟩ := gd_some h
        obtain ⟨-, h⟩ := gd_some h
        cases h
        exact inb_lt h1
theorem bx_X1_linkFrom {fu : Nat} {x : Int32} {S : Mem} {r : Nat} (h : fx_X1_linkFrom fu x S = some (.inr r)) : r < 5 := by
  rw [fx_X1_linkFrom] at h
  cases ha : fx_X1_at fu x S with
  | none => rw [ha] at h; cases h
  | some z =>
    rw [ha] at h
    cases z with
    | inl n => cases h
    | inr r2 =>
      have h : b1 _ _ = some (Sum.inr r) := h
      obtain ⟨r8, h8, h⟩ := b1_some h
      by_cases c : r8 = 0
      · rw [if_pos c] at h; cases h; exact bx_X1_at ha
      · rw [if_neg c] at h; cases h

