theorem v_291 : Cond.classLink RX1 33 "java/lang/IndexOutOfBoundsException" ∈ GW := gw_of (i := 291) (by decide +kernel) (by decide +kernel)
theorem v_71 : Cond.initialized "java/lang/IndexOutOfBoundsException" ∈ GW := gw_of (i := 71) (by decide +kernel) (by decide +kernel)
theorem th_X1_37 : thAt RX1 33 37 "java/lang/IndexOutOfBoundsException" := ⟨v_291, v_71, by decide +kernel, by decide +kernel, by decide +kernel, by decide +kernel⟩
theorem v_594 : Cond.methodLink RX7 220 yX1_isPlanned ∈ GW := gw_of (i := 594) (by decide +kernel) (by decide +kernel)
theorem v_597 : Cond.code yX1_isPlanned cX1_isPlanned 2 (some .boolean) ∈ GW := gw_of (i := 597) (by decide +kernel) (by decide +kernel)
theorem v_595 : Cond.instanceMethod yX1_isPlanned ∈ GW := gw_of (i := 595) (by decide +kernel) (by decide +kernel)
theorem v_596 : Cond.selects RX1 yX1_isPlanned yX1_isPlanned ∈ GW := gw_of (i := 596) (by decide +kernel) (by decide +kernel)
theorem k_X7_220 (g : GC) : gcV (wC g) RX7 220 1 yX1_isPlanned cX1_isPlanned 2 (some .boolean) 0 := mkV (ob_1 g) v_594 v_595 v_596 v_597 v_61 ⟨by decide +kernel, by decide +kernel, by decide +kernel⟩
theorem v_500 : Cond.classLink RX7 68 "java/lang/IllegalStateException" ∈ GW := gw_of (i := 500) (by decide +kernel) (by decide +kernel)
theorem v_76 : Cond.initialized "java/lang/IllegalStateException" ∈ GW := gw_of (i := 76) (by decide +kernel) (by decide +kernel)
theorem th_X7_72 : thAt RX7 68 72 "java/lang/IllegalStateException" := ⟨v_500, v_76, by decide +kernel, by decide +kernel, by decide +kernel, by decide +kernel⟩
theorem v_590 : Cond.methodLink RX7 126 yX7_checkPlans ∈ GW := gw_of (i := 590) (by decide +kernel) (by decide +kernel)
theorem v_593 : Cond.code yX7_checkPlans cX7_checkPlans 1 none ∈ GW := gw_of (i := 593) (by decide +kernel) (by decide +kernel)
theorem v_592 : Cond.instanceMethod yX7_checkPlans ∈ GW := gw_of (i := 592) (by decide +kernel) (by decide +kernel)
theorem v_10 : Cond.selects RX7 yX7_checkPlans yX7_checkPlans ∈ GW := gw_of (i := 10) (by decide +kernel) (by decide +kernel)
theorem k_X7_126 (g : GC) : gcV (wC g) RX7 126 7 yX7_checkPlans cX7_checkPlans 1 none 0 := mkV (ob_7 g) v_590 v_592 v_10 v_593 v_60 ⟨by decide +kernel, by decide +kernel, by decide +kernel⟩
theorem v_423 : Cond.fieldLink RX7 21 RX7 "bands" "LGreenwave$Bands;" ∈ GW := gw_of (i := 423) (by decide +kernel) (by decide +kernel)
theorem gf_X7_21 {cc : ByteArray} {nL : Nat} {rm : Room} {X : MX} {g : GC} {cn sn : Nat} {S : Mem} {L : List (Nat × Value)} {pc pc' : Nat} {st : List Value} (h0 : CX RX7 cc nL rm X (wC g)) (hk : 0 < 1) (hdg : decode cc pc = .ok (.getfield 21, 3)) (e : pc + 3 = pc') (kk : GV X (wC g) nL cn sn S L pc' (.ref (wA (wC g) 0 0) :: st)) : GV X (wC g) nL cn sn S L pc (.ref (wA (wC g) 7 0) :: st) :=
  r_get (T := TX7) h0 hk rfl rfl inX7 1 (by decide) v_423 rfl rfl hdg e kk
theorem v_765 : Cond.methodLink RX7 168 yX0_width ∈ GW := gw_of (i := 765) (by decide +kernel) (by decide +kernel)
theorem v_768 : Cond.code yX0_width cX0_width 3 (some .int) ∈ GW := gw_of (i := 768) (by decide +kernel) (by decide +kernel)
theorem v_766 : Cond.instanceMethod yX0_width ∈ GW := gw_of (i := 766) (by decide +kernel) (by decide +kernel)
theorem v_767 : Cond.selects RX0 yX0_width yX0_width ∈ GW := gw_of (i := 767) (by decide +kernel) (by decide +kernel)
theorem k_X7_168 (g : GC) : gcV (wC g) RX7 168 0 yX0_width cX0_width 3 (some .int) 1 := mkV (ob_0 g) v_765 v_766 v_767 v_768 v_64 ⟨by decide +kernel, by decide +kernel, by decide +kernel⟩
theorem v_456 : Cond.methodLink RX7 36 yX7_isOutside ∈ GW := gw_of (i := 456) (by decide +kernel) (by decide +kernel)
theorem v_458 : Cond.code yX7_isOutside cX7_isOutside 3 (some .boolean) ∈ GW := gw_of (i := 458) (by decide +kernel) (by decide +kernel)
theorem v_457 : Cond.static yX7_isOutside ∈ GW := gw_of (i := 457) (by decide +kernel) (by decide +kernel)
theorem k_X7_36 (g : GC) : gcS (wC g) RX7 36 yX7_isOutside cX7_isOutside 3 (some .boolean) 3 := mkS v_456 v_457 v_458 v_60 ⟨by decide +kernel, by decide +kernel, by decide +kernel⟩
theorem v_283 : Cond.methodLink RX7 32 yX1_reset ∈ GW := gw_of (i := 283) (by decide +kernel) (by decide +kernel)
theorem v_286 : Cond.code yX1_reset cX1_reset 4 none ∈ GW := gw_of (i := 286) (by decide +kernel) (by decide +kernel)
theorem v_284 : Cond.instanceMethod yX1_reset ∈ GW := gw_of (i := 284) (by decide +kernel) (by decide +kernel)
theorem v_285 : Cond.selects RX1 yX1_reset yX1_reset ∈ GW := gw_of (i := 285) (by decide +kernel) (by decide +kernel)
theorem k_X7_32 (g : GC) : gcV (wC g) RX7 32 1 yX1_reset cX1_reset 4 none 2 := mkV (ob_1 g) v_283 v_284 v_285 v_286 v_61 ⟨by decide +kernel, by decide +kernel, by decide +kernel⟩
theorem v_475 : Cond.methodLink RX7 47 yX6_reset ∈ GW := gw_of (i := 475) (by decide +kernel) (by decide +kernel)
theorem v_478 : Cond.code yX6_reset cX6_reset 1 none ∈ GW := gw_of (i := 478) (by decide +kernel) (by decide +kernel)
theorem v_476 : Cond.instanceMethod yX6_reset ∈ GW := gw_of (i := 476) (by decide +kernel) (by decide +kernel)
theorem v_477 : Cond.selects RX6 yX6_reset yX6_reset ∈ GW := gw_of (i := 477) (by decide +kernel) (by decide +kernel)
theorem k_X7_47 (g : GC) : gcV (wC g) RX7 47 6 yX6_reset cX6_reset 1 none 0 := mkV (ob_6 g) v_475 v_476 v_477 v_478 v_67 ⟨by decide +kernel, by decide +kernel, by decide +kernel⟩
theorem v_459 : Cond.classLink RX7 40 "java/lang/IllegalArgumentException" ∈ GW := gw_of (i := 459) (by decide +kernel) (by decide +kernel)
theorem v_75 : Cond.initialized "java/lang/IllegalArgumentException" ∈ GW := gw_of (i := 75) (by decide +kernel) (by decide +kernel)
theorem th_X7_44 : thAt RX7 40 44 "java/lang/IllegalArgumentException" := ⟨v_459, v_75, by decide +kernel, by decide +kernel, by decide +kernel, by decide +kernel⟩
theorem v_778 : Cond.methodLink RX7 174 yX0_bestOverAllOffsets ∈ GW := gw_of (i := 778) (by decide +kernel) (by decide +kernel)
theorem v_781 : Cond.code yX0_bestOverAllOffsets cX0_bestOverAllOffsets 3 (some .int) ∈ GW := gw_of (i := 781) (by decide +kernel) (by decide +kernel)
theorem v_779 : Cond.instanceMethod yX0_bestOverAllOffsets ∈ GW := gw_of (i := 779) (by decide +kernel) (by decide +kernel)
theorem v_780 : Cond.selects RX0 yX0_bestOverAllOffsets yX0_bestOverAllOffsets ∈ GW := gw_of (i := 780) (by decide +kernel) (by decide +kernel)
theorem k_X7_174 (g : GC) : gcV (wC g) RX7 174 0 yX0_bestOverAllOffsets cX0_bestOverAllOffsets 3 (some .int) 0 := mkV (ob_0 g) v_778 v_779 v_780 v_781 v_64 ⟨by decide +kernel, by decide +kernel, by decide +kernel⟩
theorem v_142 : Cond.fieldLinkNest RX7 136 RX3 "isPlanned" "Z" "Greenwave" ∈ NW := nw_of (i := 142) (by decide +kernel) (by decide +kernel)
theorem gf_X7_136 {cc : ByteArray} {nL : Nat} {rm : Room} {X : MX} {g : GC} {cn sn : Nat} {S : Mem} {L : List (Nat × Value)} {pc pc' : Nat} {st : List Value} {k : Nat} (h0 : CX RX7 cc nL rm X (wC g)) (hk : k < 5) (hdg : decode cc pc = .ok (.getfield 136, 3)) (e : pc + 3 = pc') (kk : GV X (wC g) nL cn sn S L pc' (.int (S.1 3 k 10) :: st)) : GV X (wC g) nL cn sn S L pc (.ref (wA (wC g) 3 k) :: st) :=
  r_getN (T := TX3) h0 hk rfl rfl inX3 10 (by decide) v_142 rfl rfl hdg e kk
theorem v_488 : Cond.methodLink RX7 49 yX1_at ∈ GW := gw_of (i := 488) (by decide +kernel) (by decide +kernel)
theorem k_X7_49 (g : GC) : gcV (wC g) RX7 49 1 yX1_at cX1_at 2 (some (.object "Greenwave$Junction")) 1 := mkV (ob_1 g) v_488 v_288 v_289 v_290 v_61 ⟨by decide +kernel, by decide +kernel, by decide +kernel⟩
theorem v_705 : Cond.methodLink RX7 144 yX7_checkPlan ∈ GW := gw_of (i := 705) (by decide +kernel) (by decide +kernel)
theorem v_707 : Cond.code yX7_checkPlan cX7_checkPlan 1 none ∈ GW := gw_of (i := 707) (by decide +kernel) (by decide +kernel)
theorem v_706 : Cond.static yX7_checkPlan ∈ GW := gw_of (i := 706) (by decide +kernel) (by decide +kernel)
theorem k_X7_144 (g : GC) : gcS (wC g) RX7 144 yX7_checkPlan cX7_checkPlan 1 none 1 := mkS v_705 v_706 v_707 v_60 ⟨by decide +kernel, by decide +kernel, by decide +kernel⟩
theorem v_745 : Cond.methodLink RX7 165 yX3_countBreaches ∈ GW := gw_of (i := 745) (by decide +kernel) (by decide +kernel)
theorem v_748 : Cond.code yX3_countBreaches cX3_countBreaches 3 (some .int) ∈ GW := gw_of (i := 748) (by decide +kernel) (by decide +kernel)
theorem v_746 : Cond.instanceMethod yX3_countBreaches ∈ GW := gw_of (i := 746) (by decide +kernel) (by decide +kernel)
theorem v_747 : Cond.selects RX3 yX3_countBreaches yX3_countBreaches ∈ GW := gw_of (i := 747) (by decide +kernel) (by decide +kernel)
theorem k_X7_165 (g : GC) : gcV (wC g) RX7 165 3 yX3_countBreaches cX3_countBreaches 3 (some .int) 0 := mkV (ob_3 g) v_745 v_746 v_747 v_748 v_62 ⟨by decide +kernel, by decide +kernel, by decide +kernel⟩
theorem v_492 : Cond.classLink RX7 227 "java/lang/IndexOutOfBoundsException" ∈ GW := gw_of (i := 492) (by decide +kernel) (by decide +kernel)
theorem th_X7_231 : thAt RX7 227 231 "java/lang/IndexOutOfBoundsException" := ⟨v_492, v_71, by decide +kernel, by decide +kernel, by decide +kernel, by decide +kernel⟩
theorem v_489 : Cond.methodLink RX7 53 yX7_checkMovement ∈ GW := gw_of (i := 489) (by decide +kernel) (by decide +kernel)
theorem v_491 : Cond.code yX7_checkMovement cX7_checkMovement 1 none ∈ GW := gw_of (i := 491) (by decide +kernel) (by decide +kernel)
theorem v_490 : Cond.static yX7_checkMovement ∈ GW := gw_of (i := 490) (by decide +kernel) (by decide +kernel)
theorem k_X7_53 (g : GC) : gcS (wC g) RX7 53 yX7_checkMovement cX7_checkMovement 1 none 1 := mkS v_489 v_490 v_491 v_60 ⟨by decide +kernel, by decide +kernel, by decide +kernel⟩
theorem v_866 : Cond.methodLink RX7 187 yX3_lowestPhaseWith ∈ GW := gw_of (i := 866) (by decide +kernel) (by decide +kernel)
theorem k_X7_187 (g : GC) : gcV (wC g) RX7 187 3 yX3_lowestPhaseWith cX3_lowestPhaseWith 3 (some .int) 1 := mkV (ob_3 g) v_866 v_867 v_868 v_869 v_62 ⟨by decide +kernel, by decide +kernel, by decide +kernel⟩
theorem v_871 : Cond.methodLink RX7 192 yX3_hasBusIn ∈ GW := gw_of (i := 871) (by decide +kernel) (by decide +kernel)
theorem k_X7_192 (g : GC) : gcV (wC g) RX7 192 3 yX3_hasBusIn cX3_hasBusIn 2 (some .boolean) 1 := mkV (ob_3 g) v_871 v_827 v_828 v_829 v_62 ⟨by decide +kernel, by decide +kernel, by decide +kernel⟩
theorem v_269 : Cond.fieldLinkNest RX7 197 RX6 "hasBegun" "Z" "Greenwave" ∈ NW := nw_of (i := 269) (by decide +kernel) (by decide +kernel)
theorem pf_X7_197 {cc : ByteArray} {nL : Nat} {rm : Room} {X : MX} {g : GC} {cn sn : Nat} {S : Mem} {L : List (Nat × Value)} {pc pc' : Nat} {st : List Value} {v : Int32} (h0 : CX RX7 cc nL rm X (wC g)) (hk : 0 < 1) (hdg : decode cc pc = .ok (.putfield 197, 3)) (e : pc + 3 = pc') (hz : nb v = v) (kk : GV X (wC g) nL cn sn (wI S 6 0 5 v) L pc' st) : GV X (wC g) nL cn sn S L pc (.int v :: .ref (wA (wC g) 6 0) :: st) :=
  r_putN (S' := (wI S 6 0 5 v)) (T := TX6) h0 hk rfl rfl inX6 tyX6 tyX6_ok nmX6 5 (by decide) v_269 rfl rfl (nbz hz) (nbf hz) (Nat.le_of_ble_eq_true rfl) wI_off ((congrArg (fun z => wCe (wC g) z (S.2 6 0) 6 0) wI_on).trans rfl) hdg e kk
theorem v_873 : Cond.methodLink RX7 200 yX3_takeBus ∈ GW := gw_of (i := 873) (by decide +kernel) (by decide +kernel)
theorem v_876 : Cond.code yX3_takeBus cX3_takeBus 6 (some .int) ∈ GW := gw_of (i := 876) (by decide +kernel) (by decide +kernel)
theorem v_874 : Cond.instanceMethod yX3_takeBus ∈ GW := gw_of (i := 874) (by decide +kernel) (by decide +kernel)
theorem v_875 : Cond.selects RX3 yX3_takeBus yX3_takeBus ∈ GW := gw_of (i := 875) (by decide +kernel) (by decide +kernel)
theorem k_X7_200 (g : GC) : gcV (wC g) RX7 200 3 yX3_takeBus cX3_takeBus 6 (some .int) 2 := mkV (ob_3 g) v_873 v_874 v_875 v_876 v_62 ⟨by decide +kernel, by decide +kernel, by decide +kernel⟩
theorem v_135 : Cond.fieldLinkNest RX7 91 RX3 "phases" "I" "Greenwave" ∈ NW := nw_of (i := 135) (by decide +kernel) (by decide +kernel)
theorem gf_X7_91 {cc : ByteArray} {nL : Nat} {rm : Room} {X : MX} {g : GC} {cn sn : Nat} {S : Mem} {L : List (Nat × Value)} {pc pc' : Nat} {st : List Value} {k : Nat} (h0 : CX RX7 cc nL rm X (wC g)) (hk : k < 5) (hdg : decode cc pc = .ok (.getfield 91, 3)) (e : pc + 3 = pc') (kk : GV X (wC g) nL cn sn S L pc' (.int (S.1 3 k 7) :: st)) : GV X (wC g) nL cn sn S L pc (.ref (wA (wC g) 3 k) :: st) :=
  r_getN (T := TX3) h0 hk rfl rfl inX3 7 (by decide) v_135 rfl rfl hdg e kk
theorem gf_X7_197 {cc : ByteArray} {nL : Nat} {rm : Room} {X : MX} {g : GC} {cn sn : Nat} {S : Mem} {L : List (Nat × Value)} {pc pc' : Nat} {st : List Value} (h0 : CX RX7 cc nL rm X (wC g)) (hk : 0 < 1) (hdg : decode cc pc = .ok (.getfield 197, 3)) (e : pc + 3 = pc') (kk : GV X (wC g) nL cn sn S L pc' (.int (S.1 6 0 5) :: st)) : GV X (wC g) nL cn sn S L pc (.ref (wA (wC g) 6 0) :: st) :=
  r_getN (T := TX6) h0 hk rfl rfl inX6 5 (by decide) v_269 rfl rfl hdg e kk
theorem v_701 : Cond.methodLink RX7 140 yX7_checkPhase ∈ GW := gw_of (i := 701) (by decide +kernel) (by decide +kernel)
theorem v_703 : Cond.code yX7_checkPhase cX7_checkPhase 2 none ∈ GW := gw_of (i := 703) (by decide +kernel) (by decide +kernel)
theorem v_702 : Cond.static yX7_checkPhase ∈ GW := gw_of (i := 702) (by decide +kernel) (by decide +kernel)
theorem k_X7_140 (g : GC) : gcS (wC g) RX7 140 yX7_checkPhase cX7_checkPhase 2 none 2 := mkS v_701 v_702 v_703 v_60 ⟨by decide +kernel, by decide +kernel, by decide +kernel⟩
theorem v_130 : Cond.fieldLinkNest RX7 156 RX3 "clearings" "[I" "Greenwave" ∈ NW := nw_of (i := 130) (by decide +kernel) (by decide +kernel)
theorem gf_X7_156 {cc : ByteArray} {nL : Nat} {rm : Room} {X : MX} {g : GC} {cn sn : Nat} {S : Mem} {L : List (Nat × Value)} {pc pc' : Nat} {st : List Value} {k : Nat} (h0 : CX RX7 cc nL rm X (wC g)) (hk : k < 5) (hdg : decode cc pc = .ok (.getfield 156, 3)) (e : pc + 3 = pc') (kk : GV X (wC g) nL cn sn S L pc' (.ref (wA (wC g) 15 k) :: st)) : GV X (wC g) nL cn sn S L pc (.ref (wA (wC g) 3 k) :: st) :=
  r_getN (T := TX3) h0 hk rfl rfl inX3 4 (by decide) v_130 rfl rfl hdg e kk
theorem v_709 : Cond.methodLink RX7 152 yX7_read ∈ GW := gw_of (i := 709) (by decide +kernel) (by decide +kernel)
theorem k_X7_152 (g : GC) : gcS (wC g) RX7 152 yX7_read cX7_read 2 (some .int) 2 := mkS v_709 v_387 v_388 v_60 ⟨by decide +kernel, by decide +kernel, by decide +kernel⟩
theorem v_128 : Cond.fieldLinkNest RX7 148 RX3 "greens" "[I" "Greenwave" ∈ NW := nw_of (i := 128) (by decide +kernel) (by decide +kernel)
theorem gf_X7_148 {cc : ByteArray} {nL : Nat} {rm : Room} {X : MX} {g : GC} {cn sn : Nat} {S : Mem} {L : List (Nat × Value)} {pc pc' : Nat} {st : List Value} {k : Nat} (h0 : CX RX7 cc nL rm X (wC g)) (hk : k < 5) (hdg : decode cc pc = .ok (.getfield 148, 3)) (e : pc + 3 = pc') (kk : GV X (wC g) nL cn sn S L pc' (.ref (wA (wC g) 14 k) :: st)) : GV X (wC g) nL cn sn S L pc (.ref (wA (wC g) 3 k) :: st) :=
  r_getN (T := TX3) h0 hk rfl rfl inX3 3 (by decide) v_128 rfl rfl hdg e kk
theorem v_908 : Cond.methodLink RX7 209 yX1_vehiclesOnLinkFrom ∈ GW := gw_of (i := 908) (by decide +kernel) (by decide +kernel)
theorem k_X7_209 (g : GC) : gcV (wC g) RX7 209 1 yX1_vehiclesOnLinkFrom cX1_vehiclesOnLinkFrom 2 (some .int) 1 := mkV (ob_1 g) v_908 v_847 v_848 v_849 v_61 ⟨by decide +kernel, by decide +kernel, by decide +kernel⟩
theorem v_496 : Cond.methodLink RX7 59 yX7_checkSettingUp ∈ GW := gw_of (i := 496) (by decide +kernel) (by decide +kernel)
theorem v_499 : Cond.code yX7_checkSettingUp cX7_checkSettingUp 1 none ∈ GW := gw_of (i := 499) (by decide +kernel) (by decide +kernel)
theorem v_498 : Cond.instanceMethod yX7_checkSettingUp ∈ GW := gw_of (i := 498) (by decide +kernel) (by decide +kernel)
theorem v_9 : Cond.selects RX7 yX7_checkSettingUp yX7_checkSettingUp ∈ GW := gw_of (i := 9) (by decide +kernel) (by decide +kernel)
theorem k_X7_59 (g : GC) : gcV (wC g) RX7 59 7 yX7_checkSettingUp cX7_checkSettingUp 1 none 0 := mkV (ob_7 g) v_496 v_498 v_9 v_499 v_60 ⟨by decide +kernel, by decide +kernel, by decide +kernel⟩
theorem v_599 : Cond.methodLink RX7 129 yX0_improveOffsets ∈ GW := gw_of (i := 599) (by decide +kernel) (by decide +kernel)
theorem v_602 : Cond.code yX0_improveOffsets cX0_improveOffsets 4 (some .int) ∈ GW := gw_of (i := 602) (by decide +kernel) (by decide +kernel)
theorem v_600 : Cond.instanceMethod yX0_improveOffsets ∈ GW := gw_of (i := 600) (by decide +kernel) (by decide +kernel)
theorem v_601 : Cond.selects RX0 yX0_improveOffsets yX0_improveOffsets ∈ GW := gw_of (i := 601) (by decide +kernel) (by decide +kernel)
theorem k_X7_129 (g : GC) : gcV (wC g) RX7 129 0 yX0_improveOffsets cX0_improveOffsets 4 (some .int) 0 := mkV (ob_0 g) v_599 v_600 v_601 v_602 v_64 ⟨by decide +kernel, by decide +kernel, by decide +kernel⟩
theorem v_731 : Cond.constant RX7 159 100000 ∈ GW := gw_of (i := 731) (by decide +kernel) (by decide +kernel)
theorem v_733 : Cond.methodLink RX7 162 yX3_isLit ∈ GW := gw_of (i := 733) (by decide +kernel) (by decide +kernel)
theorem k_X7_162 (g : GC) : gcV (wC g) RX7 162 3 yX3_isLit cX3_isLit 3 (some .boolean) 2 := mkV (ob_3 g) v_733 v_734 v_735 v_736 v_62 ⟨by decide +kernel, by decide +kernel, by decide +kernel⟩
theorem v_140 : Cond.fieldLinkNest RX7 123 RX3 "start" "I" "Greenwave" ∈ NW := nw_of (i := 140) (by decide +kernel) (by decide +kernel)
theorem gf_X7_123 {cc : ByteArray} {nL : Nat} {rm : Room} {X : MX} {g : GC} {cn sn : Nat} {S : Mem} {L : List (Nat × Value)} {pc pc' : Nat} {st : List Value} {k : Nat} (h0 : CX RX7 cc nL rm X (wC g)) (hk : k < 5) (hdg : decode cc pc = .ok (.getfield 123, 3)) (e : pc + 3 = pc') (kk : GV X (wC g) nL cn sn S L pc' (.int (S.1 3 k 9) :: st)) : GV X (wC g) nL cn sn S L pc (.ref (wA (wC g) 3 k) :: st) :=
  r_getN (T := TX3) h0 hk rfl rfl inX3 9 (by decide) v_140 rfl rfl hdg e kk
theorem v_893 : Cond.methodLink RX7 203 yX3_phaseIn ∈ GW := gw_of (i := 893) (by decide +kernel) (by decide +kernel)
theorem k_X7_203 (g : GC) : gcV (wC g) RX7 203 3 yX3_phaseIn cX3_phaseIn 6 (some .int) 1 := mkV (ob_3 g) v_893 v_823 v_824 v_825 v_62 ⟨by decide +kernel, by decide +kernel, by decide +kernel⟩
theorem v_147 : Cond.fieldLinkNest RX7 206 RX3 "waiting" "I" "Greenwave" ∈ NW := nw_of (i := 147) (by decide +kernel) (by decide +kernel)
theorem gf_X7_206 {cc : ByteArray} {nL : Nat} {rm : Room} {X : MX} {g : GC} {cn sn : Nat} {S : Mem} {L : List (Nat × Value)} {pc pc' : Nat} {st : List Value} {k : Nat} (h0 : CX RX7 cc nL rm X (wC g)) (hk : k < 5) (hdg : decode cc pc = .ok (.getfield 206, 3)) (e : pc + 3 = pc') (kk : GV X (wC g) nL cn sn S L pc' (.int (S.1 3 k 11) :: st)) : GV X (wC g) nL cn sn S L pc (.ref (wA (wC g) 3 k) :: st) :=
  r_getN (T := TX3) h0 hk rfl rfl inX3 11 (by decide) v_147 rfl rfl hdg e kk
theorem v_796 : Cond.methodLink RX7 184 yX6_pass ∈ GW := gw_of (i := 796) (by decide +kernel) (by decide +kernel)
theorem v_799 : Cond.code yX6_pass cX6_pass 4 (some .int) ∈ GW := gw_of (i := 799) (by decide +kernel) (by decide +kernel)
theorem v_797 : Cond.instanceMethod yX6_pass ∈ GW := gw_of (i := 797) (by decide +kernel) (by decide +kernel)
theorem v_798 : Cond.selects RX6 yX6_pass yX6_pass ∈ GW := gw_of (i := 798) (by decide +kernel) (by decide +kernel)
theorem k_X7_184 (g : GC) : gcV (wC g) RX7 184 6 yX6_pass cX6_pass 4 (some .int) 1 := mkV (ob_6 g) v_796 v_797 v_798 v_799 v_67 ⟨by decide +kernel, by decide +kernel, by decide +kernel⟩
theorem v_516 : Cond.methodLink RX7 62 yX3_haveOnePhase ∈ GW := gw_of (i := 516) (by decide +kernel) (by decide +kernel)
theorem v_519 : Cond.code yX3_haveOnePhase cX3_haveOnePhase 5 (some .boolean) ∈ GW := gw_of (i := 519) (by decide +kernel) (by decide +kernel)
theorem v_517 : Cond.instanceMethod yX3_haveOnePhase ∈ GW := gw_of (i := 517) (by decide +kernel) (by decide +kernel)
theorem v_518 : Cond.selects RX3 yX3_haveOnePhase yX3_haveOnePhase ∈ GW := gw_of (i := 518) (by decide +kernel) (by decide +kernel)
theorem k_X7_62 (g : GC) : gcV (wC g) RX7 62 3 yX3_haveOnePhase cX3_haveOnePhase 5 (some .boolean) 2 := mkV (ob_3 g) v_516 v_517 v_518 v_519 v_62 ⟨by decide +kernel, by decide +kernel, by decide +kernel⟩
theorem v_521 : Cond.methodLink RX7 73 yX3_clearanceOf ∈ GW := gw_of (i := 521) (by decide +kernel) (by decide +kernel)
theorem k_X7_73 (g : GC) : gcV (wC g) RX7 73 3 yX3_clearanceOf cX3_clearanceOf 3 (some .int) 2 := mkV (ob_3 g) v_521 v_397 v_398 v_399 v_62 ⟨by decide +kernel, by decide +kernel, by decide +kernel⟩
theorem v_522 : Cond.methodLink RX7 77 yX3_changeClearance ∈ GW := gw_of (i := 522) (by decide +kernel) (by decide +kernel)
theorem v_525 : Cond.code yX3_changeClearance cX3_changeClearance 4 none ∈ GW := gw_of (i := 525) (by decide +kernel) (by decide +kernel)
theorem v_523 : Cond.instanceMethod yX3_changeClearance ∈ GW := gw_of (i := 523) (by decide +kernel) (by decide +kernel)
theorem v_524 : Cond.selects RX3 yX3_changeClearance yX3_changeClearance ∈ GW := gw_of (i := 524) (by decide +kernel) (by decide +kernel)
theorem k_X7_77 (g : GC) : gcV (wC g) RX7 77 3 yX3_changeClearance cX3_changeClearance 4 none 3 := mkV (ob_3 g) v_522 v_523 v_524 v_525 v_62 ⟨by decide +kernel, by decide +kernel, by decide +kernel⟩
theorem v_550 : Cond.methodLink RX7 97 yX3_flowOf ∈ GW := gw_of (i := 550) (by decide +kernel) (by decide +kernel)
theorem k_X7_97 (g : GC) : gcV (wC g) RX7 97 3 yX3_flowOf cX3_flowOf 2 (some .int) 1 := mkV (ob_3 g) v_550 v_551 v_552 v_553 v_62 ⟨by decide +kernel, by decide +kernel, by decide +kernel⟩
theorem v_554 : Cond.methodLink RX7 101 yX3_changeFlow ∈ GW := gw_of (i := 554) (by decide +kernel) (by decide +kernel)
theorem v_557 : Cond.code yX3_changeFlow cX3_changeFlow 3 none ∈ GW := gw_of (i := 557) (by decide +kernel) (by decide +kernel)
theorem v_555 : Cond.instanceMethod yX3_changeFlow ∈ GW := gw_of (i := 555) (by decide +kernel) (by decide +kernel)
theorem v_556 : Cond.selects RX3 yX3_changeFlow yX3_changeFlow ∈ GW := gw_of (i := 556) (by decide +kernel) (by decide +kernel)
theorem k_X7_101 (g : GC) : gcV (wC g) RX7 101 3 yX3_changeFlow cX3_changeFlow 3 none 2 := mkV (ob_3 g) v_554 v_555 v_556 v_557 v_62 ⟨by decide +kernel, by decide +kernel, by decide +kernel⟩
theorem v_565 : Cond.methodLink RX7 104 yX1_linkFrom ∈ GW := gw_of (i := 565) (by decide +kernel) (by decide +kernel)
theorem k_X7_104 (g : GC) : gcV (wC g) RX7 104 1 yX1_linkFrom cX1_linkFrom 3 (some (.object "Greenwave$Link")) 1 := mkV (ob_1 g) v_565 v_566 v_567 v_568 v_61 ⟨by decide +kernel, by decide +kernel, by decide +kernel⟩
theorem v_107 : Cond.fieldLinkNest RX7 110 RX4 "seconds" "I" "Greenwave" ∈ NW := nw_of (i := 107) (by decide +kernel) (by decide +kernel)
theorem pf_X7_110 {cc : ByteArray} {nL : Nat} {rm : Room} {X : MX} {g : GC} {cn sn : Nat} {S : Mem} {L : List (Nat × Value)} {pc pc' : Nat} {st : List Value} {k : Nat} {v : Int32} (h0 : CX RX7 cc nL rm X (wC g)) (hk : k < 5) (hdg : decode cc pc = .ok (.putfield 110, 3)) (e : pc + 3 = pc') (kk : GV X (wC g) nL cn sn (wI S 4 k 1 v) L pc' st) : GV X (wC g) nL cn sn S L pc (.int v :: .ref (wA (wC g) 4 k) :: st) :=
  r_putN (S' := (wI S 4 k 1 v)) (T := TX4) h0 hk rfl rfl inX4 tyX4 tyX4_ok nmX4 1 (by decide) v_107 rfl rfl (rfl) rfl (Nat.le_of_ble_eq_true rfl) wI_off ((congrArg (fun z => wCe (wC g) z (S.2 4 k) 4 k) wI_on).trans rfl) hdg e kk
theorem v_111 : Cond.fieldLinkNest RX7 115 RX4 "room" "I" "Greenwave" ∈ NW := nw_of (i := 111) (by decide +kernel) (by decide +kernel)
theorem pf_X7_115 {cc : ByteArray} {nL : Nat} {rm : Room} {X : MX} {g : GC} {cn sn : Nat} {S : Mem} {L : List (Nat × Value)} {pc pc' : Nat} {st : List Value} {k : Nat} {v : Int32} (h0 : CX RX7 cc nL rm X (wC g)) (hk : k < 5) (hdg : decode cc pc = .ok (.putfield 115, 3)) (e : pc + 3 = pc') (kk : GV X (wC g) nL cn sn (wI S 4 k 2 v) L pc' st) : GV X (wC g) nL cn sn S L pc (.int v :: .ref (wA (wC g) 4 k) :: st) :=
  r_putN (S' := (wI S 4 k 2 v)) (T := TX4) h0 hk rfl rfl inX4 tyX4 tyX4_ok nmX4 2 (by decide) v_111 rfl rfl (rfl) rfl (Nat.le_of_ble_eq_true rfl) wI_off ((congrArg (fun z => wCe (wC g) z (S.2 4 k) 4 k) wI_on).trans rfl) hdg e kk
theorem v_196 : Cond.fieldLinkNest RX7 118 RX1 "cycle" "I" "Greenwave" ∈ NW := nw_of (i := 196) (by decide +kernel) (by decide +kernel)
theorem gf_X7_118 {cc : ByteArray} {nL : Nat} {rm : Room} {X : MX} {g : GC} {cn sn : Nat} {S : Mem} {L : List (Nat × Value)} {pc pc' : Nat} {st : List Value} (h0 : CX RX7 cc nL rm X (wC g)) (hk : 0 < 1) (hdg : decode cc pc = .ok (.getfield 118, 3)) (e : pc + 3 = pc') (kk : GV X (wC g) nL cn sn S L pc' (.int (S.1 1 0 2) :: st)) : GV X (wC g) nL cn sn S L pc (.ref (wA (wC g) 1 0) :: st) :=
  r_getN (T := TX1) h0 hk rfl rfl inX1 2 (by decide) v_196 rfl rfl hdg e kk
theorem pf_X7_123 {cc : ByteArray} {nL : Nat} {rm : Room} {X : MX} {g : GC} {cn sn : Nat} {S : Mem} {L : List (Nat × Value)} {pc pc' : Nat} {st : List Value} {k : Nat} {v : Int32} (h0 : CX RX7 cc nL rm X (wC g)) (hk : k < 5) (hdg : decode cc pc = .ok (.putfield 123, 3)) (e : pc + 3 = pc') (kk : GV X (wC g) nL cn sn (wI S 3 k 9 v) L pc' st) : GV X (wC g) nL cn sn S L pc (.int v :: .ref (wA (wC g) 3 k) :: st) :=
  r_putN (S' := (wI S 3 k 9 v)) (T := TX3) h0 hk rfl rfl inX3 tyX3 tyX3_ok nmX3 9 (by decide) v_140 rfl rfl (rfl) rfl (Nat.le_of_ble_eq_true rfl) wI_off ((congrArg (fun z => wCe (wC g) z (S.2 3 k) 3 k) wI_on).trans rfl) hdg e kk
theorem v_534 : Cond.methodLink RX7 83 yX3_hasConflictIn ∈ GW := gw_of (i := 534) (by decide +kernel) (by decide +kernel)
theorem v_537 : Cond.code yX3_hasConflictIn cX3_hasConflictIn 2 (some .boolean) ∈ GW := gw_of (i := 537) (by decide +kernel) (by decide +kernel)
theorem v_535 : Cond.instanceMethod yX3_hasConflictIn ∈ GW := gw_of (i := 535) (by decide +kernel) (by decide +kernel)
theorem v_536 : Cond.selects RX3 yX3_hasConflictIn yX3_hasConflictIn ∈ GW := gw_of (i := 536) (by decide +kernel) (by decide +kernel)
theorem k_X7_83 (g : GC) : gcV (wC g) RX7 83 3 yX3_hasConflictIn cX3_hasConflictIn 2 (some .boolean) 1 := mkV (ob_3 g) v_534 v_535 v_536 v_537 v_62 ⟨by decide +kernel, by decide +kernel, by decide +kernel⟩
theorem v_538 : Cond.methodLink RX7 87 yX3_changePhases ∈ GW := gw_of (i := 538) (by decide +kernel) (by decide +kernel)
theorem v_541 : Cond.code yX3_changePhases cX3_changePhases 5 none ∈ GW := gw_of (i := 541) (by decide +kernel) (by decide +kernel)
theorem v_539 : Cond.instanceMethod yX3_changePhases ∈ GW := gw_of (i := 539) (by decide +kernel) (by decide +kernel)
theorem v_540 : Cond.selects RX3 yX3_changePhases yX3_changePhases ∈ GW := gw_of (i := 540) (by decide +kernel) (by decide +kernel)
theorem k_X7_87 (g : GC) : gcV (wC g) RX7 87 3 yX3_changePhases cX3_changePhases 5 none 4 := mkV (ob_3 g) v_538 v_539 v_540 v_541 v_62 ⟨by decide +kernel, by decide +kernel, by decide +kernel⟩
abbrev rx_X1_at : Room := { frames := 6, cells := 1, slots := 6, locals := 90 }
abbrev rx_X1_linkFrom : Room := { frames := 7, cells := 2, slots := 12, locals := 111 }
abbrev rx_X1_vehiclesOnLinkFrom : Room := { frames := 8, cells := 3, slots := 18, locals := 133 }
abbrev rx_X7_checkPlans : Room := { frames := 6, cells := 1, slots := 6, locals := 90 }
abbrev rx_X7_band : Room := { frames := 7, cells := 1, slots := 6, locals := 116 }
abbrev rx_X7_begin : Room := { frames := 6, cells := 1, slots := 6, locals := 138 }
abbrev rx_X7_bestByAll : Room := { frames := 7, cells := 2, slots := 12, locals := 113 }
abbrev rx_X7_checkPlan : Room := { frames := 6, cells := 1, slots := 6, locals := 90 }
abbrev rx_X7_breaches : Room := { frames := 7, cells := 2, slots := 12, locals := 136 }
abbrev rx_X7_checkMovement : Room := { frames := 6, cells := 1, slots := 6, locals := 90 }
abbrev rx_X7_callBus : Room := { frames := 7, cells := 4, slots := 24, locals := 111 }
abbrev rx_X7_checkPhase : Room := { frames := 6, cells := 1, slots := 6, locals := 90 }
abbrev rx_X7_checkSettingUp : Room := { frames := 6, cells := 1, slots := 6, locals := 90 }
abbrev rx_X7_clearing : Room := { frames := 7, cells := 2, slots := 12, locals := 111 }
abbrev rx_X7_green : Room := { frames := 7, cells := 3, slots := 18, locals := 111 }
abbrev rx_X7_hasPlan : Room := { frames := 7, cells := 1, slots := 6, locals := 111 }
abbrev rx_X7_held : Room := { frames := 9, cells := 3, slots := 18, locals := 154 }
abbrev rx_X7_improve : Room := { frames := 7, cells := 2, slots := 12, locals := 140 }
abbrev rx_X7_isGreen : Room := { frames := 7, cells := 3, slots := 18, locals := 111 }
abbrev rx_X7_offset : Room := { frames := 7, cells := 1, slots := 6, locals := 111 }
abbrev rx_X7_phaseNow : Room := { frames := 7, cells := 2, slots := 12, locals := 111 }
abbrev rx_X7_queue : Room := { frames := 7, cells := 1, slots := 6, locals := 111 }
abbrev rx_X7_run : Room := { frames := 7, cells := 2, slots := 12, locals := 136 }
abbrev rx_X7_setConflict : Room := { frames := 7, cells := 5, slots := 30, locals := 117 }
abbrev rx_X7_setFlow : Room := { frames := 7, cells := 3, slots := 18, locals := 116 }
abbrev rx_X7_setLink : Room := { frames := 8, cells := 3, slots := 18, locals := 133 }
abbrev rx_X7_setOffset : Room := { frames := 7, cells := 2, slots := 12, locals := 111 }
abbrev rx_X7_setPhases : Room := { frames := 7, cells := 3, slots := 18, locals := 118 }
theorem bx_X1_at {fu : Nat} {x : Int32} {S : Mem} {r : Nat} (h : fx_X1_at fu x S = some (.inr r)) : r < 5 := by
  rw [fx_X1_at] at h
  by_cases c1 : x < 0
  · rw [if_pos c1] at h; cases h
  · rw [if_neg c1] at h
    by_cases c2 : S.1 1 0 1 ≤ x
    · rw [if_pos c2] at h; cases h
    · rw [if_neg c2] at h
      by_cases c3 : nI 5 ≤ x
      · rw [if_pos c3] at h; cases h
      · rw [if_neg c3] at h
        obtain ⟨h1, h⟩ := gd_some h
        obtain ⟨-, h⟩ := gd_some h
        cases h
        exact inb_lt h1
theorem bx_X1_linkFrom {fu : Nat} {x : Int32} {S : Mem} {r : Nat} (h : fx_X1_linkFrom fu x S = some (.inr r)) : r < 5 := by
  rw [fx_X1_linkFrom] at h
  cases ha : fx_X1_at fu x S with
  | none => rw [ha] at h; cases h
  | some z =>
    rw [ha] at h
    cases z with
    | inl n => cases h
    | inr r2 =>
      have h : b1 _ _ = some (Sum.inr r) := h
      obtain ⟨r8, h8, h⟩ := b1_some h
      by_cases c : r8 = 0
      · rw [if_pos c] at h; cases h; exact bx_X1_at ha
      · rw [if_neg c] at h; cases h

