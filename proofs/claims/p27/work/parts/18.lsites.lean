/-! Rows and words of the law's methods. -/
/-- a call of a callee that may throw and writes, from a method that may throw and catches nothing -/
theorem gx_Vw {own : String} {cc : ByteArray} {nL : Nat} {rm : Room} {X : MX} {w : WX} {S S' S2 : Mem} {L : List (Nat × Value)} {pc pc' : Nat} {st : List Value} {C : String} {idx ck maxL n cn sn k uc us mc ms : Nat} {y : MethodName} {bytes : ByteArray} {ret rt : Option FieldType} {rc : Room} {α : Type} {z : Nat ⊕ α} {ov : α → Option Value} {t : Option String} {o : Option Value} (ho : isObj w C ck) (hl : Cond.methodLink own idx y ∈ GW) (hi : Cond.instanceMethod y ∈ GW) (hs : Cond.selects C y y ∈ GW) (hc : Cond.code y bytes maxL ret ∈ GW) (hini : Cond.initialized y.cls ∈ GW) (hd : plainY y n)
    (As rest : List Value) (h0 : CX own cc nL rm X w) (h1 : CXX X w) (hE : ENX rt t o S' mc ms X w) (hk : k < wN w ck) (hM : ctX y bytes maxL ret rc uc us w (.ref (wA w ck k) :: As) S (tOf z) (oOf ov z) S2) (hst : st = As.reverse ++ .ref (wA w ck k) :: rest) (hn : As.length = n) (hdg : decode cc pc = .ok (.invokevirtual idx, 3)) (e : pc + 3 = pc') (hW : (rest.map fun v => v.category).sum ≤ 8) (hR : rc.cells = uc ∧ rc.slots = us ∧ rc.frames + 1 ≤ rm.frames ∧ 8 + (maxL + 11) + rc.locals ≤ rm.locals) (hcs : cn + uc ≤ rm.cells ∧ sn + us ≤ rm.slots) (hcm : cn + uc ≤ mc ∧ sn + us ≤ ms) (hT : ∀ E, z = .inl E → t = some (exN E) ∧ S' = S2)
    (kk : ∀ r, z = .inr r → GV X w nL (cn + uc) (sn + us) S2 L pc' ((ov r).toList ++ rest)) : GV X w nL cn sn S L pc st := by
  obtain ⟨p, l, en, R, s, m, args, below, meth, c, Q⟩ := X
  obtain ⟨hx, hb, hml, hown, hts, hK, hlk, hw, hN, rfl⟩ := h0
  obtain ⟨hstt, hT0, hZ, htb⟩ := h1
  obtain ⟨hr, hQ⟩ := hE
  subst e
  subst hst
  subst hQ
  intro H locs ls hP hS hls
  refine runx_go (vx_runV (As := As) (rest := rest) ⟨hx, hb, hml, hown, hts⟩ (hM l H.size hstt) ⟨callB_of n hts (goodGW hc) rfl hR.1 hR.2.1 (hts _ hini) (hts _ hl) hd ⟨hR.2.2.1, hR.2.2.2⟩, hts _ hi, hts _ hs⟩ ⟨px_blind, grecv ho hP hK hk, px_in hP hK hN hw hT0 hZ hS⟩ rfl hn hls.1 rfl (lv_room hW) hdg ⟨hcs.1, hcs.2⟩) hS (fun q _ h => AA_up hS.1 q h) (fun q h => AA_up hS.1 q h) (fun E ce q9 H1 locs1 ht hB hS1 hc1 hc2 hc3 => ?_) (fun H1 locs1 ht hB hS1 => ?_)
  · cases z with
    | inr r => cases ht
    | inl n =>
      cases ht
      obtain ⟨e1, rfl⟩ := hT n rfl
      exact vx_out (fun x hx => (htb x hx).elim) hlk hc1 hc2 hc3 (fun u hu _ => ⟨⟨e1, by rw [hu]; exact hB⟩, hS1.F hu⟩) hS1.2.2 hcm.1 hcm.2
  · cases z with
    | inl n => cases ht
    | inr r => exact kk r rfl H1 locs1 ls hB hS1 hls
theorem v_409 : Cond.constant RL 7 2147483647 ∈ GW := gw_of (i := 409) (by decide +kernel) (by decide +kernel)
theorem vl_788 : Cond.methodLink RL 61 yX7_green ∈ GW := gw_of (i := 788) (by decide +kernel) (by decide +kernel)
theorem vl_789 : Cond.instanceMethod yX7_green ∈ GW := gw_of (i := 789) (by decide +kernel) (by decide +kernel)
theorem vl_790 : Cond.selects RX7 yX7_green yX7_green ∈ GW := gw_of (i := 790) (by decide +kernel) (by decide +kernel)
theorem vl_791 : Cond.code yX7_green cX7_green 4 (some .int) ∈ GW := gw_of (i := 791) (by decide +kernel) (by decide +kernel)
theorem vl_28 : Cond.initialized RX7 ∈ GW := gw_of (i := 28) (by decide +kernel) (by decide +kernel)
theorem vl_413 : Cond.classLink RL 47 "java/lang/IndexOutOfBoundsException" ∈ GW := gw_of (i := 413) (by decide +kernel) (by decide +kernel)
theorem vl_260 : Cond.castable "java/lang/IndexOutOfBoundsException" "java/lang/IndexOutOfBoundsException" ∈ DW := dw_of (i := 260) (by decide +kernel) (by decide +kernel)
theorem vl_415 : Cond.classLink RL 52 "java/lang/IllegalStateException" ∈ GW := gw_of (i := 415) (by decide +kernel) (by decide +kernel)
theorem vl_446 : Cond.castable "java/lang/IllegalStateException" "java/lang/IllegalStateException" ∈ DW := dw_of (i := 446) (by decide +kernel) (by decide +kernel)
theorem vl_776 : Cond.methodLink RL 64 yX7_phaseNow ∈ GW := gw_of (i := 776) (by decide +kernel) (by decide +kernel)
theorem vl_777 : Cond.instanceMethod yX7_phaseNow ∈ GW := gw_of (i := 777) (by decide +kernel) (by decide +kernel)
theorem vl_778 : Cond.selects RX7 yX7_phaseNow yX7_phaseNow ∈ GW := gw_of (i := 778) (by decide +kernel) (by decide +kernel)
theorem vl_779 : Cond.code yX7_phaseNow cX7_phaseNow 3 (some .int) ∈ GW := gw_of (i := 779) (by decide +kernel) (by decide +kernel)
theorem vl_752 : Cond.methodLink RL 67 yX7_band ∈ GW := gw_of (i := 752) (by decide +kernel) (by decide +kernel)
theorem vl_753 : Cond.instanceMethod yX7_band ∈ GW := gw_of (i := 753) (by decide +kernel) (by decide +kernel)
theorem vl_754 : Cond.selects RX7 yX7_band yX7_band ∈ GW := gw_of (i := 754) (by decide +kernel) (by decide +kernel)
theorem vl_755 : Cond.code yX7_band cX7_band 2 (some .int) ∈ GW := gw_of (i := 755) (by decide +kernel) (by decide +kernel)
theorem vl_718 : Cond.methodLink RL 43 yL_begin ∈ GW := gw_of (i := 718) (by decide +kernel) (by decide +kernel)
theorem vl_719 : Cond.static yL_begin ∈ GW := gw_of (i := 719) (by decide +kernel) (by decide +kernel)
theorem vl_27 : Cond.initialized RL ∈ GW := gw_of (i := 27) (by decide +kernel) (by decide +kernel)
theorem vl_720 : Cond.code yL_begin cL_begin 3 (some .int) ∈ GW := gw_of (i := 720) (by decide +kernel) (by decide +kernel)
theorem vl_730 : Cond.constant RL 49 (-99999) ∈ GW := gw_of (i := 730) (by decide +kernel) (by decide +kernel)
theorem vl_414 : Cond.classLink RL 50 "java/lang/IllegalArgumentException" ∈ GW := gw_of (i := 414) (by decide +kernel) (by decide +kernel)
theorem vl_426 : Cond.castable "java/lang/IllegalArgumentException" "java/lang/IllegalArgumentException" ∈ DW := dw_of (i := 426) (by decide +kernel) (by decide +kernel)
theorem vl_629 : Cond.methodLink RL 39 yX7_improve ∈ GW := gw_of (i := 629) (by decide +kernel) (by decide +kernel)
theorem vl_630 : Cond.instanceMethod yX7_improve ∈ GW := gw_of (i := 630) (by decide +kernel) (by decide +kernel)
theorem vl_631 : Cond.selects RX7 yX7_improve yX7_improve ∈ GW := gw_of (i := 631) (by decide +kernel) (by decide +kernel)
theorem vl_632 : Cond.code yX7_improve cX7_improve 1 (some .int) ∈ GW := gw_of (i := 632) (by decide +kernel) (by decide +kernel)
theorem vl_605 : Cond.methodLink RL 36 yX7_callBus ∈ GW := gw_of (i := 605) (by decide +kernel) (by decide +kernel)
theorem vl_606 : Cond.instanceMethod yX7_callBus ∈ GW := gw_of (i := 606) (by decide +kernel) (by decide +kernel)
theorem vl_607 : Cond.selects RX7 yX7_callBus yX7_callBus ∈ GW := gw_of (i := 607) (by decide +kernel) (by decide +kernel)
theorem vl_608 : Cond.code yX7_callBus cX7_callBus 4 (some .int) ∈ GW := gw_of (i := 608) (by decide +kernel) (by decide +kernel)
theorem vl_524 : Cond.methodLink RL 32 yX7_run ∈ GW := gw_of (i := 524) (by decide +kernel) (by decide +kernel)
theorem vl_525 : Cond.instanceMethod yX7_run ∈ GW := gw_of (i := 525) (by decide +kernel) (by decide +kernel)
theorem vl_526 : Cond.selects RX7 yX7_run yX7_run ∈ GW := gw_of (i := 526) (by decide +kernel) (by decide +kernel)
theorem vl_527 : Cond.code yX7_run cX7_run 2 (some .int) ∈ GW := gw_of (i := 527) (by decide +kernel) (by decide +kernel)
theorem vl_507 : Cond.methodLink RL 26 yL_link ∈ GW := gw_of (i := 507) (by decide +kernel) (by decide +kernel)
theorem vl_508 : Cond.static yL_link ∈ GW := gw_of (i := 508) (by decide +kernel) (by decide +kernel)
theorem vl_509 : Cond.code yL_link cL_link 4 (some .int) ∈ GW := gw_of (i := 509) (by decide +kernel) (by decide +kernel)
theorem vl_502 : Cond.methodLink RL 22 yX7_setOffset ∈ GW := gw_of (i := 502) (by decide +kernel) (by decide +kernel)
theorem vl_503 : Cond.instanceMethod yX7_setOffset ∈ GW := gw_of (i := 503) (by decide +kernel) (by decide +kernel)
theorem vl_504 : Cond.selects RX7 yX7_setOffset yX7_setOffset ∈ GW := gw_of (i := 504) (by decide +kernel) (by decide +kernel)
theorem vl_505 : Cond.code yX7_setOffset cX7_setOffset 5 (some .int) ∈ GW := gw_of (i := 505) (by decide +kernel) (by decide +kernel)
theorem vl_489 : Cond.methodLink RL 18 yX7_setFlow ∈ GW := gw_of (i := 489) (by decide +kernel) (by decide +kernel)
theorem vl_490 : Cond.instanceMethod yX7_setFlow ∈ GW := gw_of (i := 490) (by decide +kernel) (by decide +kernel)
theorem vl_491 : Cond.selects RX7 yX7_setFlow yX7_setFlow ∈ GW := gw_of (i := 491) (by decide +kernel) (by decide +kernel)
theorem vl_492 : Cond.code yX7_setFlow cX7_setFlow 6 (some .int) ∈ GW := gw_of (i := 492) (by decide +kernel) (by decide +kernel)
theorem vl_469 : Cond.methodLink RL 14 yX7_setConflict ∈ GW := gw_of (i := 469) (by decide +kernel) (by decide +kernel)
theorem vl_470 : Cond.instanceMethod yX7_setConflict ∈ GW := gw_of (i := 470) (by decide +kernel) (by decide +kernel)
theorem vl_471 : Cond.selects RX7 yX7_setConflict yX7_setConflict ∈ GW := gw_of (i := 471) (by decide +kernel) (by decide +kernel)
theorem vl_472 : Cond.code yX7_setConflict cX7_setConflict 7 (some .int) ∈ GW := gw_of (i := 472) (by decide +kernel) (by decide +kernel)
theorem vl_416 : Cond.methodLink RL 8 yX7_setPhases ∈ GW := gw_of (i := 416) (by decide +kernel) (by decide +kernel)
theorem vl_417 : Cond.instanceMethod yX7_setPhases ∈ GW := gw_of (i := 417) (by decide +kernel) (by decide +kernel)
theorem vl_418 : Cond.selects RX7 yX7_setPhases yX7_setPhases ∈ GW := gw_of (i := 418) (by decide +kernel) (by decide +kernel)
theorem vl_419 : Cond.code yX7_setPhases cX7_setPhases 7 (some .int) ∈ GW := gw_of (i := 419) (by decide +kernel) (by decide +kernel)
theorem vl_406 : Cond.methodLink RL 71 yL_low ∈ GW := gw_of (i := 406) (by decide +kernel) (by decide +kernel)
theorem vl_407 : Cond.static yL_low ∈ GW := gw_of (i := 407) (by decide +kernel) (by decide +kernel)
theorem vl_408 : Cond.code yL_low cL_low 2 (some .int) ∈ GW := gw_of (i := 408) (by decide +kernel) (by decide +kernel)
theorem vl_399 : Cond.methodLink RL 74 yX7_junctions ∈ GW := gw_of (i := 399) (by decide +kernel) (by decide +kernel)
theorem vl_400 : Cond.instanceMethod yX7_junctions ∈ GW := gw_of (i := 400) (by decide +kernel) (by decide +kernel)
theorem vl_401 : Cond.selects RX7 yX7_junctions yX7_junctions ∈ GW := gw_of (i := 401) (by decide +kernel) (by decide +kernel)
theorem vl_402 : Cond.code yX7_junctions cX7_junctions 1 (some .int) ∈ GW := gw_of (i := 402) (by decide +kernel) (by decide +kernel)
theorem vl_734 : Cond.methodLink RL 81 yX7_clock ∈ GW := gw_of (i := 734) (by decide +kernel) (by decide +kernel)
theorem vl_735 : Cond.instanceMethod yX7_clock ∈ GW := gw_of (i := 735) (by decide +kernel) (by decide +kernel)
theorem vl_736 : Cond.selects RX7 yX7_clock yX7_clock ∈ GW := gw_of (i := 736) (by decide +kernel) (by decide +kernel)
theorem vl_737 : Cond.code yX7_clock cX7_clock 1 (some .int) ∈ GW := gw_of (i := 737) (by decide +kernel) (by decide +kernel)
theorem vl_410 : Cond.methodLink RL 77 yL_does ∈ GW := gw_of (i := 410) (by decide +kernel) (by decide +kernel)
theorem vl_411 : Cond.static yL_does ∈ GW := gw_of (i := 411) (by decide +kernel) (by decide +kernel)
theorem vl_412 : Cond.codeWith yL_does cL_does 7 (some .int) [(0, 129, 130, 47), (0, 129, 135, 50), (0, 129, 140, 52)] ∈ GW := gw_of (i := 412) (by decide +kernel) (by decide +kernel)
theorem vl_785 : Cond.methodLink RL 106 yL_green ∈ GW := gw_of (i := 785) (by decide +kernel) (by decide +kernel)
theorem vl_786 : Cond.static yL_green ∈ GW := gw_of (i := 786) (by decide +kernel) (by decide +kernel)
theorem vl_787 : Cond.codeWith yL_green cL_green 4 (some .int) [(0, 6, 7, 47), (0, 6, 10, 52)] ∈ GW := gw_of (i := 787) (by decide +kernel) (by decide +kernel)
theorem vl_797 : Cond.methodLink RL 108 yX7_clearing ∈ GW := gw_of (i := 797) (by decide +kernel) (by decide +kernel)
theorem vl_798 : Cond.instanceMethod yX7_clearing ∈ GW := gw_of (i := 798) (by decide +kernel) (by decide +kernel)
theorem vl_799 : Cond.selects RX7 yX7_clearing yX7_clearing ∈ GW := gw_of (i := 799) (by decide +kernel) (by decide +kernel)
theorem vl_800 : Cond.code yX7_clearing cX7_clearing 4 (some .int) ∈ GW := gw_of (i := 800) (by decide +kernel) (by decide +kernel)
theorem vl_804 : Cond.methodLink RL 111 yL_cycle ∈ GW := gw_of (i := 804) (by decide +kernel) (by decide +kernel)
theorem vl_805 : Cond.static yL_cycle ∈ GW := gw_of (i := 805) (by decide +kernel) (by decide +kernel)
theorem vl_806 : Cond.code yL_cycle cL_cycle 4 (some .int) ∈ GW := gw_of (i := 806) (by decide +kernel) (by decide +kernel)
theorem vl_761 : Cond.methodLink RL 93 yX7_hasPlan ∈ GW := gw_of (i := 761) (by decide +kernel) (by decide +kernel)
theorem vl_762 : Cond.instanceMethod yX7_hasPlan ∈ GW := gw_of (i := 762) (by decide +kernel) (by decide +kernel)
theorem vl_763 : Cond.selects RX7 yX7_hasPlan yX7_hasPlan ∈ GW := gw_of (i := 763) (by decide +kernel) (by decide +kernel)
theorem vl_764 : Cond.code yX7_hasPlan cX7_hasPlan 2 (some .boolean) ∈ GW := gw_of (i := 764) (by decide +kernel) (by decide +kernel)
theorem vl_749 : Cond.methodLink RL 90 yL_band ∈ GW := gw_of (i := 749) (by decide +kernel) (by decide +kernel)
theorem vl_750 : Cond.static yL_band ∈ GW := gw_of (i := 750) (by decide +kernel) (by decide +kernel)
theorem vl_751 : Cond.codeWith yL_band cL_band 3 (some .int) [(0, 5, 6, 52)] ∈ GW := gw_of (i := 751) (by decide +kernel) (by decide +kernel)
theorem vl_765 : Cond.methodLink RL 97 yX7_offset ∈ GW := gw_of (i := 765) (by decide +kernel) (by decide +kernel)
theorem vl_766 : Cond.instanceMethod yX7_offset ∈ GW := gw_of (i := 766) (by decide +kernel) (by decide +kernel)
theorem vl_767 : Cond.selects RX7 yX7_offset yX7_offset ∈ GW := gw_of (i := 767) (by decide +kernel) (by decide +kernel)
theorem vl_768 : Cond.code yX7_offset cX7_offset 2 (some .int) ∈ GW := gw_of (i := 768) (by decide +kernel) (by decide +kernel)
theorem vl_807 : Cond.methodLink RL 114 yX7_isGreen ∈ GW := gw_of (i := 807) (by decide +kernel) (by decide +kernel)
theorem vl_808 : Cond.instanceMethod yX7_isGreen ∈ GW := gw_of (i := 808) (by decide +kernel) (by decide +kernel)
theorem vl_809 : Cond.selects RX7 yX7_isGreen yX7_isGreen ∈ GW := gw_of (i := 809) (by decide +kernel) (by decide +kernel)
theorem vl_810 : Cond.code yX7_isGreen cX7_isGreen 5 (some .boolean) ∈ GW := gw_of (i := 810) (by decide +kernel) (by decide +kernel)
theorem vl_818 : Cond.methodLink RL 118 yX7_breaches ∈ GW := gw_of (i := 818) (by decide +kernel) (by decide +kernel)
theorem vl_819 : Cond.instanceMethod yX7_breaches ∈ GW := gw_of (i := 819) (by decide +kernel) (by decide +kernel)
theorem vl_820 : Cond.selects RX7 yX7_breaches yX7_breaches ∈ GW := gw_of (i := 820) (by decide +kernel) (by decide +kernel)
theorem vl_821 : Cond.code yX7_breaches cX7_breaches 3 (some .int) ∈ GW := gw_of (i := 821) (by decide +kernel) (by decide +kernel)
theorem vl_745 : Cond.methodLink RL 87 yX7_through ∈ GW := gw_of (i := 745) (by decide +kernel) (by decide +kernel)
theorem vl_746 : Cond.instanceMethod yX7_through ∈ GW := gw_of (i := 746) (by decide +kernel) (by decide +kernel)
theorem vl_747 : Cond.selects RX7 yX7_through yX7_through ∈ GW := gw_of (i := 747) (by decide +kernel) (by decide +kernel)
theorem vl_748 : Cond.code yX7_through cX7_through 1 (some .int) ∈ GW := gw_of (i := 748) (by decide +kernel) (by decide +kernel)
theorem vl_769 : Cond.methodLink RL 100 yX7_queue ∈ GW := gw_of (i := 769) (by decide +kernel) (by decide +kernel)
theorem vl_770 : Cond.instanceMethod yX7_queue ∈ GW := gw_of (i := 770) (by decide +kernel) (by decide +kernel)
theorem vl_771 : Cond.selects RX7 yX7_queue yX7_queue ∈ GW := gw_of (i := 771) (by decide +kernel) (by decide +kernel)
theorem vl_772 : Cond.code yX7_queue cX7_queue 2 (some .int) ∈ GW := gw_of (i := 772) (by decide +kernel) (by decide +kernel)
theorem vl_741 : Cond.methodLink RL 84 yX7_come ∈ GW := gw_of (i := 741) (by decide +kernel) (by decide +kernel)
theorem vl_742 : Cond.instanceMethod yX7_come ∈ GW := gw_of (i := 742) (by decide +kernel) (by decide +kernel)
theorem vl_743 : Cond.selects RX7 yX7_come yX7_come ∈ GW := gw_of (i := 743) (by decide +kernel) (by decide +kernel)
theorem vl_744 : Cond.code yX7_come cX7_come 1 (some .int) ∈ GW := gw_of (i := 744) (by decide +kernel) (by decide +kernel)
theorem vl_838 : Cond.methodLink RL 121 yX7_held ∈ GW := gw_of (i := 838) (by decide +kernel) (by decide +kernel)
theorem vl_839 : Cond.instanceMethod yX7_held ∈ GW := gw_of (i := 839) (by decide +kernel) (by decide +kernel)
theorem vl_840 : Cond.selects RX7 yX7_held yX7_held ∈ GW := gw_of (i := 840) (by decide +kernel) (by decide +kernel)
theorem vl_841 : Cond.code yX7_held cX7_held 2 (some .int) ∈ GW := gw_of (i := 841) (by decide +kernel) (by decide +kernel)
theorem vl_773 : Cond.methodLink RL 103 yL_phaseNow ∈ GW := gw_of (i := 773) (by decide +kernel) (by decide +kernel)
theorem vl_774 : Cond.static yL_phaseNow ∈ GW := gw_of (i := 774) (by decide +kernel) (by decide +kernel)
theorem vl_775 : Cond.codeWith yL_phaseNow cL_phaseNow 3 (some .int) [(0, 5, 6, 52)] ∈ GW := gw_of (i := 775) (by decide +kernel) (by decide +kernel)
theorem vl_403 : Cond.methodLink RL 125 yL_cell ∈ GW := gw_of (i := 403) (by decide +kernel) (by decide +kernel)
theorem vl_404 : Cond.static yL_cell ∈ GW := gw_of (i := 404) (by decide +kernel) (by decide +kernel)
theorem vl_405 : Cond.code yL_cell cL_cell 2 (some .int) ∈ GW := gw_of (i := 405) (by decide +kernel) (by decide +kernel)
theorem vl_738 : Cond.methodLink RL 132 yL_areAlike ∈ GW := gw_of (i := 738) (by decide +kernel) (by decide +kernel)
theorem vl_739 : Cond.static yL_areAlike ∈ GW := gw_of (i := 739) (by decide +kernel) (by decide +kernel)
theorem vl_740 : Cond.code yL_areAlike cL_areAlike 4 (some .boolean) ∈ GW := gw_of (i := 740) (by decide +kernel) (by decide +kernel)
theorem vl_801 : Cond.methodLink RL 136 yL_arePlansSo ∈ GW := gw_of (i := 801) (by decide +kernel) (by decide +kernel)
theorem vl_802 : Cond.static yL_arePlansSo ∈ GW := gw_of (i := 802) (by decide +kernel) (by decide +kernel)
theorem vl_803 : Cond.code yL_arePlansSo cL_arePlansSo 10 (some .boolean) ∈ GW := gw_of (i := 803) (by decide +kernel) (by decide +kernel)
theorem vl_731 : Cond.methodLink RL 129 yL_act ∈ GW := gw_of (i := 731) (by decide +kernel) (by decide +kernel)
theorem vl_732 : Cond.static yL_act ∈ GW := gw_of (i := 732) (by decide +kernel) (by decide +kernel)
theorem vl_733 : Cond.code yL_act cL_act 6 (some .int) ∈ GW := gw_of (i := 733) (by decide +kernel) (by decide +kernel)
theorem vl_843 : Cond.methodLink RL 144 yL_isCalledSo ∈ GW := gw_of (i := 843) (by decide +kernel) (by decide +kernel)
theorem vl_844 : Cond.static yL_isCalledSo ∈ GW := gw_of (i := 844) (by decide +kernel) (by decide +kernel)
theorem vl_845 : Cond.code yL_isCalledSo cL_isCalledSo 9 (some .boolean) ∈ GW := gw_of (i := 845) (by decide +kernel) (by decide +kernel)
theorem vl_835 : Cond.methodLink RL 140 yL_areVehiclesSo ∈ GW := gw_of (i := 835) (by decide +kernel) (by decide +kernel)
theorem vl_836 : Cond.static yL_areVehiclesSo ∈ GW := gw_of (i := 836) (by decide +kernel) (by decide +kernel)
theorem vl_837 : Cond.code yL_areVehiclesSo cL_areVehiclesSo 4 (some .boolean) ∈ GW := gw_of (i := 837) (by decide +kernel) (by decide +kernel)
theorem vl_510 : Cond.methodLink RL 54 yX7_setLink ∈ GW := gw_of (i := 510) (by decide +kernel) (by decide +kernel)
theorem vl_511 : Cond.instanceMethod yX7_setLink ∈ GW := gw_of (i := 511) (by decide +kernel) (by decide +kernel)
theorem vl_512 : Cond.selects RX7 yX7_setLink yX7_setLink ∈ GW := gw_of (i := 512) (by decide +kernel) (by decide +kernel)
theorem vl_513 : Cond.code yX7_setLink cX7_setLink 5 none ∈ GW := gw_of (i := 513) (by decide +kernel) (by decide +kernel)
theorem vl_721 : Cond.methodLink RL 58 yX7_begin ∈ GW := gw_of (i := 721) (by decide +kernel) (by decide +kernel)
theorem vl_722 : Cond.instanceMethod yX7_begin ∈ GW := gw_of (i := 722) (by decide +kernel) (by decide +kernel)
theorem vl_723 : Cond.selects RX7 yX7_begin yX7_begin ∈ GW := gw_of (i := 723) (by decide +kernel) (by decide +kernel)
theorem vl_724 : Cond.code yX7_begin cX7_begin 3 none ∈ GW := gw_of (i := 724) (by decide +kernel) (by decide +kernel)
theorem kb_100 : (Int8.ofInt (100)).toInt32 = (100 : Int32) := by decide
theorem kb_11 : (Int8.ofInt (11)).toInt32 = (11 : Int32) := by decide
theorem kb_120 : (Int8.ofInt (120)).toInt32 = (120 : Int32) := by decide
theorem kb_13 : (Int8.ofInt (13)).toInt32 = (13 : Int32) := by decide
theorem kb_18 : (Int8.ofInt (18)).toInt32 = (18 : Int32) := by decide
theorem kb_24 : (Int8.ofInt (24)).toInt32 = (24 : Int32) := by decide
theorem kb_26 : (Int8.ofInt (26)).toInt32 = (26 : Int32) := by decide
theorem kb_31 : (Int8.ofInt (31)).toInt32 = (31 : Int32) := by decide
theorem kb_45 : (Int8.ofInt (45)).toInt32 = (45 : Int32) := by decide
theorem kb_6 : (Int8.ofInt (6)).toInt32 = (6 : Int32) := by decide
theorem kb_7 : (Int8.ofInt (7)).toInt32 = (7 : Int32) := by decide
theorem kb_70 : (Int8.ofInt (70)).toInt32 = (70 : Int32) := by decide
theorem kb_95 : (Int8.ofInt (95)).toInt32 = (95 : Int32) := by decide
theorem kb_m2 : (Int8.ofInt (-2)).toInt32 = (-2 : Int32) := by decide
theorem ks_1801 : (Int16.ofInt (1801)).toInt32 = (1801 : Int32) := by decide
theorem ks_2000 : (Int16.ofInt (2000)).toInt32 = (2000 : Int32) := by decide
theorem ks_500 : (Int16.ofInt (500)).toInt32 = (500 : Int32) := by decide
theorem ks_700 : (Int16.ofInt (700)).toInt32 = (700 : Int32) := by decide
abbrev rm_L_low : Room := { frames := 0, cells := 0, slots := 0, locals := 0 }
abbrev rl_link : Room := { frames := 9, cells := 3, slots := 6 * 3, locals := 157 }
abbrev rl_begin : Room := { frames := 7, cells := 1, slots := 6 * 1, locals := 160 }
abbrev rl_green : Room := { frames := 8, cells := 3, slots := 6 * 3, locals := 134 }
abbrev rl_phaseNow : Room := { frames := 8, cells := 2, slots := 6 * 2, locals := 133 }
abbrev rl_band : Room := { frames := 8, cells := 1, slots := 6 * 1, locals := 137 }
abbrev rl_does : Room := { frames := 10, cells := 5, slots := 6 * 5, locals := 182 }
abbrev rl_act : Room := { frames := 11, cells := 5, slots := 6 * 5, locals := 208 }
abbrev rl_cycle : Room := { frames := 9, cells := 39, slots := 6 * 39, locals := 157 }
abbrev rl_arePlansSo : Room := { frames := 10, cells := 548, slots := 6 * 548, locals := 180 }
abbrev rl_areVehiclesSo : Room := { frames := 9, cells := 14, slots := 6 * 14, locals := 155 }
abbrev rl_areAlike : Room := { frames := 9, cells := 74, slots := 6 * 74, locals := 159 }
abbrev rl_isCalledSo : Room := { frames := 11, cells := 34, slots := 6 * 34, locals := 208 }
