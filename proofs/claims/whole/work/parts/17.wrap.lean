theorem dw_of {i : Nat} {w : Cond} (h : lw_tbl[i]? = some w) (hg : isDC w = true) : w ∈ DW := List.mem_filter.mpr ⟨List.mem_of_getElem? h, hg⟩
/-- what a wrapper answers: 0, or the place of the exception -/
def hc1 {α : Type} (a : Nat) (z : Nat ⊕ α) : Option Int32 := match z with
  | .inr _ => some 0
  | .inl E => if E = a then some 1 else none
def hc2 {α : Type} (a b : Nat) (z : Nat ⊕ α) : Option Int32 := match z with
  | .inr _ => some 0
  | .inl E => if E = a then some 1 else if E = b then some 2 else none
def hc3 {α : Type} (a b c : Nat) (z : Nat ⊕ α) : Option Int32 := match z with
  | .inr _ => some 0
  | .inl E => if E = a then some 1 else if E = b then some 2 else if E = c then some 3 else none
theorem hc1_cases {α : Type} {a E : Nat} {r : Int32} (h : hc1 (α := α) a (.inl E) = some r) : E = a ∧ r = 1 := by
  have h : (if E = a then some (1 : Int32) else none) = some r := h
  by_cases e : E = a
  · rw [if_pos e] at h; exact ⟨e, (Option.some.inj h).symm⟩
  · rw [if_neg e] at h; cases h
theorem hc2_cases {α : Type} {a b E : Nat} {r : Int32} (h : hc2 (α := α) a b (.inl E) = some r) : (E = a ∧ r = 1) ∨ (E = b ∧ r = 2) := by
  have h : (if E = a then some (1 : Int32) else if E = b then some 2 else none) = some r := h
  by_cases e : E = a
  · rw [if_pos e] at h; exact Or.inl ⟨e, (Option.some.inj h).symm⟩
  · rw [if_neg e] at h
    by_cases e : E = b
    · rw [if_pos e] at h; exact Or.inr ⟨e, (Option.some.inj h).symm⟩
    · rw [if_neg e] at h; cases h
theorem hc3_cases {α : Type} {a b c E : Nat} {r : Int32} (h : hc3 (α := α) a b c (.inl E) = some r) : (E = a ∧ r = 1) ∨ (E = b ∧ r = 2) ∨ (E = c ∧ r = 3) := by
  have h : (if E = a then some (1 : Int32) else if E = b then some 2 else if E = c then some 3 else none) = some r := h
  by_cases e : E = a
  · rw [if_pos e] at h; exact Or.inl ⟨e, (Option.some.inj h).symm⟩
  · rw [if_neg e] at h
    by_cases e : E = b
    · rw [if_pos e] at h; exact Or.inr (Or.inl ⟨e, (Option.some.inj h).symm⟩)
    · rw [if_neg e] at h
      by_cases e : E = c
      · rw [if_pos e] at h; exact Or.inr (Or.inr ⟨e, (Option.some.inj h).symm⟩)
      · rw [if_neg e] at h; cases h
def ooI (z : Nat ⊕ Int32) (o : Nat → Int64) : Nat → Int64 := match z with
  | .inr v => vp_updL o 0 v.toInt64
  | .inl _ => o
def ooZ (z : Nat ⊕ Int32) (o : Nat → Int64) : Nat → Int64 := match z with
  | .inr v => vp_updL o 0 (if v = 0 then 0 else 1)
  | .inl _ => o
theorem vl_452 : Cond.methodLink RL 7 yX7_begin ∈ GW := gw_of (i := 452) (by decide +kernel) (by decide +kernel)
theorem vl_453 : Cond.instanceMethod yX7_begin ∈ GW := gw_of (i := 453) (by decide +kernel) (by decide +kernel)
theorem vl_454 : Cond.selects RX7 yX7_begin yX7_begin ∈ GW := gw_of (i := 454) (by decide +kernel) (by decide +kernel)
theorem vl_455 : Cond.code yX7_begin cX7_begin 3 none ∈ GW := gw_of (i := 455) (by decide +kernel) (by decide +kernel)
theorem vl_451 : Cond.classLink RL 13 "java/lang/IllegalArgumentException" ∈ GW := gw_of (i := 451) (by decide +kernel) (by decide +kernel)
theorem vl_461 : Cond.castable "java/lang/IllegalArgumentException" "java/lang/IllegalArgumentException" ∈ DW := dw_of (i := 461) (by decide +kernel) (by decide +kernel)
theorem vl_484 : Cond.methodLink RL 15 yX7_setConflict ∈ GW := gw_of (i := 484) (by decide +kernel) (by decide +kernel)
theorem vl_485 : Cond.instanceMethod yX7_setConflict ∈ GW := gw_of (i := 485) (by decide +kernel) (by decide +kernel)
theorem vl_486 : Cond.selects RX7 yX7_setConflict yX7_setConflict ∈ GW := gw_of (i := 486) (by decide +kernel) (by decide +kernel)
theorem vl_487 : Cond.code yX7_setConflict cX7_setConflict 7 (some .int) ∈ GW := gw_of (i := 487) (by decide +kernel) (by decide +kernel)
theorem vl_482 : Cond.classLink RL 19 "java/lang/IndexOutOfBoundsException" ∈ GW := gw_of (i := 482) (by decide +kernel) (by decide +kernel)
theorem vl_293 : Cond.castable "java/lang/IndexOutOfBoundsException" "java/lang/IndexOutOfBoundsException" ∈ DW := dw_of (i := 293) (by decide +kernel) (by decide +kernel)
theorem vl_483 : Cond.classLink RL 21 "java/lang/IllegalStateException" ∈ GW := gw_of (i := 483) (by decide +kernel) (by decide +kernel)
theorem vl_502 : Cond.castable "java/lang/IllegalStateException" "java/lang/IllegalStateException" ∈ DW := dw_of (i := 502) (by decide +kernel) (by decide +kernel)
theorem vl_529 : Cond.methodLink RL 23 yX7_setPhases ∈ GW := gw_of (i := 529) (by decide +kernel) (by decide +kernel)
theorem vl_530 : Cond.instanceMethod yX7_setPhases ∈ GW := gw_of (i := 530) (by decide +kernel) (by decide +kernel)
theorem vl_531 : Cond.selects RX7 yX7_setPhases yX7_setPhases ∈ GW := gw_of (i := 531) (by decide +kernel) (by decide +kernel)
theorem vl_532 : Cond.code yX7_setPhases cX7_setPhases 7 (some .int) ∈ GW := gw_of (i := 532) (by decide +kernel) (by decide +kernel)
theorem vl_545 : Cond.methodLink RL 27 yX7_setFlow ∈ GW := gw_of (i := 545) (by decide +kernel) (by decide +kernel)
theorem vl_546 : Cond.instanceMethod yX7_setFlow ∈ GW := gw_of (i := 546) (by decide +kernel) (by decide +kernel)
theorem vl_547 : Cond.selects RX7 yX7_setFlow yX7_setFlow ∈ GW := gw_of (i := 547) (by decide +kernel) (by decide +kernel)
theorem vl_548 : Cond.code yX7_setFlow cX7_setFlow 6 (some .int) ∈ GW := gw_of (i := 548) (by decide +kernel) (by decide +kernel)
theorem vl_561 : Cond.methodLink RL 31 yX7_setLink ∈ GW := gw_of (i := 561) (by decide +kernel) (by decide +kernel)
theorem vl_562 : Cond.instanceMethod yX7_setLink ∈ GW := gw_of (i := 562) (by decide +kernel) (by decide +kernel)
theorem vl_563 : Cond.selects RX7 yX7_setLink yX7_setLink ∈ GW := gw_of (i := 563) (by decide +kernel) (by decide +kernel)
theorem vl_564 : Cond.code yX7_setLink cX7_setLink 5 none ∈ GW := gw_of (i := 564) (by decide +kernel) (by decide +kernel)
theorem vl_578 : Cond.methodLink RL 35 yX7_setOffset ∈ GW := gw_of (i := 578) (by decide +kernel) (by decide +kernel)
theorem vl_579 : Cond.instanceMethod yX7_setOffset ∈ GW := gw_of (i := 579) (by decide +kernel) (by decide +kernel)
theorem vl_580 : Cond.selects RX7 yX7_setOffset yX7_setOffset ∈ GW := gw_of (i := 580) (by decide +kernel) (by decide +kernel)
theorem vl_581 : Cond.code yX7_setOffset cX7_setOffset 5 (some .int) ∈ GW := gw_of (i := 581) (by decide +kernel) (by decide +kernel)
theorem vl_586 : Cond.methodLink RL 39 yX7_improve ∈ GW := gw_of (i := 586) (by decide +kernel) (by decide +kernel)
theorem vl_587 : Cond.instanceMethod yX7_improve ∈ GW := gw_of (i := 587) (by decide +kernel) (by decide +kernel)
theorem vl_588 : Cond.selects RX7 yX7_improve yX7_improve ∈ GW := gw_of (i := 588) (by decide +kernel) (by decide +kernel)
theorem vl_589 : Cond.code yX7_improve cX7_improve 1 (some .int) ∈ GW := gw_of (i := 589) (by decide +kernel) (by decide +kernel)
theorem vl_690 : Cond.methodLink RL 43 yX7_hasPlan ∈ GW := gw_of (i := 690) (by decide +kernel) (by decide +kernel)
theorem vl_691 : Cond.instanceMethod yX7_hasPlan ∈ GW := gw_of (i := 691) (by decide +kernel) (by decide +kernel)
theorem vl_692 : Cond.selects RX7 yX7_hasPlan yX7_hasPlan ∈ GW := gw_of (i := 692) (by decide +kernel) (by decide +kernel)
theorem vl_693 : Cond.code yX7_hasPlan cX7_hasPlan 2 (some .boolean) ∈ GW := gw_of (i := 693) (by decide +kernel) (by decide +kernel)
theorem vl_697 : Cond.methodLink RL 47 yX7_green ∈ GW := gw_of (i := 697) (by decide +kernel) (by decide +kernel)
theorem vl_698 : Cond.instanceMethod yX7_green ∈ GW := gw_of (i := 698) (by decide +kernel) (by decide +kernel)
theorem vl_699 : Cond.selects RX7 yX7_green yX7_green ∈ GW := gw_of (i := 699) (by decide +kernel) (by decide +kernel)
theorem vl_700 : Cond.code yX7_green cX7_green 4 (some .int) ∈ GW := gw_of (i := 700) (by decide +kernel) (by decide +kernel)
theorem vl_713 : Cond.methodLink RL 50 yX7_clearing ∈ GW := gw_of (i := 713) (by decide +kernel) (by decide +kernel)
theorem vl_714 : Cond.instanceMethod yX7_clearing ∈ GW := gw_of (i := 714) (by decide +kernel) (by decide +kernel)
theorem vl_715 : Cond.selects RX7 yX7_clearing yX7_clearing ∈ GW := gw_of (i := 715) (by decide +kernel) (by decide +kernel)
theorem vl_716 : Cond.code yX7_clearing cX7_clearing 4 (some .int) ∈ GW := gw_of (i := 716) (by decide +kernel) (by decide +kernel)
theorem vl_720 : Cond.methodLink RL 53 yX7_offset ∈ GW := gw_of (i := 720) (by decide +kernel) (by decide +kernel)
theorem vl_721 : Cond.instanceMethod yX7_offset ∈ GW := gw_of (i := 721) (by decide +kernel) (by decide +kernel)
theorem vl_722 : Cond.selects RX7 yX7_offset yX7_offset ∈ GW := gw_of (i := 722) (by decide +kernel) (by decide +kernel)
theorem vl_723 : Cond.code yX7_offset cX7_offset 2 (some .int) ∈ GW := gw_of (i := 723) (by decide +kernel) (by decide +kernel)
theorem vl_727 : Cond.methodLink RL 57 yX7_isGreen ∈ GW := gw_of (i := 727) (by decide +kernel) (by decide +kernel)
theorem vl_728 : Cond.instanceMethod yX7_isGreen ∈ GW := gw_of (i := 728) (by decide +kernel) (by decide +kernel)
theorem vl_729 : Cond.selects RX7 yX7_isGreen yX7_isGreen ∈ GW := gw_of (i := 729) (by decide +kernel) (by decide +kernel)
theorem vl_730 : Cond.code yX7_isGreen cX7_isGreen 5 (some .boolean) ∈ GW := gw_of (i := 730) (by decide +kernel) (by decide +kernel)
theorem vl_741 : Cond.methodLink RL 61 yX7_breaches ∈ GW := gw_of (i := 741) (by decide +kernel) (by decide +kernel)
theorem vl_742 : Cond.instanceMethod yX7_breaches ∈ GW := gw_of (i := 742) (by decide +kernel) (by decide +kernel)
theorem vl_743 : Cond.selects RX7 yX7_breaches yX7_breaches ∈ GW := gw_of (i := 743) (by decide +kernel) (by decide +kernel)
theorem vl_744 : Cond.code yX7_breaches cX7_breaches 3 (some .int) ∈ GW := gw_of (i := 744) (by decide +kernel) (by decide +kernel)
theorem vl_761 : Cond.methodLink RL 64 yX7_band ∈ GW := gw_of (i := 761) (by decide +kernel) (by decide +kernel)
theorem vl_762 : Cond.instanceMethod yX7_band ∈ GW := gw_of (i := 762) (by decide +kernel) (by decide +kernel)
theorem vl_763 : Cond.selects RX7 yX7_band yX7_band ∈ GW := gw_of (i := 763) (by decide +kernel) (by decide +kernel)
theorem vl_764 : Cond.code yX7_band cX7_band 2 (some .int) ∈ GW := gw_of (i := 764) (by decide +kernel) (by decide +kernel)
theorem vl_773 : Cond.methodLink RL 68 yX7_bestByAll ∈ GW := gw_of (i := 773) (by decide +kernel) (by decide +kernel)
theorem vl_774 : Cond.instanceMethod yX7_bestByAll ∈ GW := gw_of (i := 774) (by decide +kernel) (by decide +kernel)
theorem vl_775 : Cond.selects RX7 yX7_bestByAll yX7_bestByAll ∈ GW := gw_of (i := 775) (by decide +kernel) (by decide +kernel)
theorem vl_776 : Cond.code yX7_bestByAll cX7_bestByAll 1 (some .int) ∈ GW := gw_of (i := 776) (by decide +kernel) (by decide +kernel)
theorem vl_790 : Cond.methodLink RL 71 yX7_run ∈ GW := gw_of (i := 790) (by decide +kernel) (by decide +kernel)
theorem vl_791 : Cond.instanceMethod yX7_run ∈ GW := gw_of (i := 791) (by decide +kernel) (by decide +kernel)
theorem vl_792 : Cond.selects RX7 yX7_run yX7_run ∈ GW := gw_of (i := 792) (by decide +kernel) (by decide +kernel)
theorem vl_793 : Cond.code yX7_run cX7_run 2 (some .int) ∈ GW := gw_of (i := 793) (by decide +kernel) (by decide +kernel)
theorem vl_862 : Cond.methodLink RL 74 yX7_callBus ∈ GW := gw_of (i := 862) (by decide +kernel) (by decide +kernel)
theorem vl_863 : Cond.instanceMethod yX7_callBus ∈ GW := gw_of (i := 863) (by decide +kernel) (by decide +kernel)
theorem vl_864 : Cond.selects RX7 yX7_callBus yX7_callBus ∈ GW := gw_of (i := 864) (by decide +kernel) (by decide +kernel)
theorem vl_865 : Cond.code yX7_callBus cX7_callBus 4 (some .int) ∈ GW := gw_of (i := 865) (by decide +kernel) (by decide +kernel)
theorem vl_889 : Cond.methodLink RL 77 yX7_phaseNow ∈ GW := gw_of (i := 889) (by decide +kernel) (by decide +kernel)
theorem vl_890 : Cond.instanceMethod yX7_phaseNow ∈ GW := gw_of (i := 890) (by decide +kernel) (by decide +kernel)
theorem vl_891 : Cond.selects RX7 yX7_phaseNow yX7_phaseNow ∈ GW := gw_of (i := 891) (by decide +kernel) (by decide +kernel)
theorem vl_892 : Cond.code yX7_phaseNow cX7_phaseNow 3 (some .int) ∈ GW := gw_of (i := 892) (by decide +kernel) (by decide +kernel)
theorem vl_897 : Cond.methodLink RL 80 yX7_queue ∈ GW := gw_of (i := 897) (by decide +kernel) (by decide +kernel)
theorem vl_898 : Cond.instanceMethod yX7_queue ∈ GW := gw_of (i := 898) (by decide +kernel) (by decide +kernel)
theorem vl_899 : Cond.selects RX7 yX7_queue yX7_queue ∈ GW := gw_of (i := 899) (by decide +kernel) (by decide +kernel)
theorem vl_900 : Cond.code yX7_queue cX7_queue 2 (some .int) ∈ GW := gw_of (i := 900) (by decide +kernel) (by decide +kernel)
theorem vl_904 : Cond.methodLink RL 83 yX7_held ∈ GW := gw_of (i := 904) (by decide +kernel) (by decide +kernel)
theorem vl_905 : Cond.instanceMethod yX7_held ∈ GW := gw_of (i := 905) (by decide +kernel) (by decide +kernel)
theorem vl_906 : Cond.selects RX7 yX7_held yX7_held ∈ GW := gw_of (i := 906) (by decide +kernel) (by decide +kernel)
theorem vl_907 : Cond.code yX7_held cX7_held 2 (some .int) ∈ GW := gw_of (i := 907) (by decide +kernel) (by decide +kernel)
abbrev rl_begin : Room := { frames := 7, cells := 1, slots := 6, locals := 160 }
theorem cw_begin (g : GC) (cJ : ClassId) (qo fu : Nat) (x1 : Int32) (x2 : Int32) (S : Mem) (o : Nat → Int64) {z : (Nat ⊕ Unit)} {S2 : Mem} {r : Int32} (h : fx_X7_begin fu x1 x2 S = some (z, S2)) (hr : hc1 1 z = some r) : ctW yL_begin cL_begin 4 [(0, 6, 9, 13)] rl_begin 1 6 g cJ qo [.ref (wA (wC g) 7 0), .int x1, .int x2] S o r S2 o := by
  refine ctw_of (own := RL) (L := [(0, .ref (wA (wC g) 7 0)), (1, .int x1), (2, .int x2)]) (by decide +kernel) rfl (Nat.le_of_ble_eq_true rfl) rfl (fun X A h0 hK hE hA => ?_)
  refine l_aload_n (pc' := 1) h0 0 dL_begin_0 rfl rfl rfl ?_
  refine l_iload_n (pc' := 2) h0 1 dL_begin_1 rfl rfl rfl ?_
  refine l_iload_n (pc' := 3) h0 2 dL_begin_2 rfl rfl rfl ?_
  refine w_call (z := z) (ov := oU) (n := 2) vl_452 vl_453 vl_454 vl_455 v_60 ⟨by decide +kernel, by decide +kernel, by decide +kernel⟩ [.int x1, .int x2] [] h0 hK hA (cx_X7_begin g fu x1 x2 S h) rfl rfl dL_begin_3 (Nat.le_of_ble_eq_true rfl) ⟨rfl, rfl, Nat.le_of_ble_eq_true rfl, Nat.le_of_ble_eq_true rfl⟩ ⟨Nat.le_of_ble_eq_true rfl, Nat.le_of_ble_eq_true rfl⟩ (fun E hz => ?_) (fun v hz => ?_)
  · subst hz
    rcases hc1_cases hr with ⟨rfl, rfl⟩
    · refine w_catch (E := 1) (pre := []) (suf := []) (x := ⟨0, 6, 9, 13⟩) (pc' := 9) h0 hK hE rfl (fun q hq => nomatch hq) rfl (by decide) vl_451 vl_461 rfl (fun q9 => ?_)
      refine l_astore_n (pc' := 10) (L' := [(3, .ref q9), (0, .ref (wA (wC g) 7 0)), (1, .int x1), (2, .int x2)]) h0 dL_begin_9 rfl (Nat.le_of_ble_eq_true rfl) rfl rfl ?_
      refine l_iconst (pc' := 11) h0 dL_begin_10 ki_1 rfl ?_
      exact w_iret h0 hE hA dL_begin_11 ⟨Nat.le_of_ble_eq_true rfl, Nat.le_of_ble_eq_true rfl⟩ rfl rfl rfl
  · subst hz
    show LV X A 4 1 6 (hW g cJ qo S2 o) [(0, .ref (wA (wC g) 7 0)), (1, .int x1), (2, .int x2)] 6 []
    refine l_goto (pc' := 12) h0 dL_begin_6 rfl ?_
    refine l_iconst (pc' := 13) h0 dL_begin_12 ki_0 rfl ?_
    exact w_iret h0 hE hA dL_begin_13 ⟨Nat.le_of_ble_eq_true rfl, Nat.le_of_ble_eq_true rfl⟩ (Option.some.inj hr) rfl rfl
abbrev rl_setConflict : Room := { frames := 8, cells := 5, slots := 30, locals := 143 }
theorem cw_setConflict (g : GC) (cJ : ClassId) (qo fu : Nat) (x1 : Int32) (x2 : Int32) (x3 : Int32) (x4 : Int32) (S : Mem) (o : Nat → Int64) {z : (Nat ⊕ Int32)} {S2 : Mem} {r : Int32} (h : fx_X7_setConflict fu x1 x2 x3 x4 S = some (z, S2)) (hr : hc3 3 1 2 z = some r) : ctW yL_setConflict cL_setConflict 7 [(0, 14, 17, 19), (0, 14, 21, 13), (0, 14, 25, 21)] rl_setConflict 5 30 g cJ qo [.ref (wA (wC g) 7 0), .int x1, .int x2, .int x3, .int x4, .ref qo] S o r S2 (ooI z o) := by
  refine ctw_of (own := RL) (L := [(0, .ref (wA (wC g) 7 0)), (1, .int x1), (2, .int x2), (3, .int x3), (4, .int x4), (5, .ref qo)]) (by decide +kernel) rfl (Nat.le_of_ble_eq_true rfl) rfl (fun X A h0 hK hE hA => ?_)
  refine l_aload (pc' := 2) h0 5 dL_setConflict_0 rfl rfl ?_
  refine l_iconst (pc' := 3) h0 dL_setConflict_2 ki_0 rfl ?_
  refine l_aload_n (pc' := 4) h0 0 dL_setConflict_3 rfl rfl rfl ?_
  refine l_iload_n (pc' := 5) h0 1 dL_setConflict_4 rfl rfl rfl ?_
  refine l_iload_n (pc' := 6) h0 2 dL_setConflict_5 rfl rfl rfl ?_
  refine l_iload_n (pc' := 7) h0 3 dL_setConflict_6 rfl rfl rfl ?_
  refine l_iload (pc' := 9) h0 4 dL_setConflict_7 rfl rfl ?_
  refine w_call (z := z) (ov := oI) (n := 4) vl_484 vl_485 vl_486 vl_487 v_60 ⟨by decide +kernel, by decide +kernel, by decide +kernel⟩ [.int x1, .int x2, .int x3, .int x4] [.int 0, .ref qo] h0 hK hA (cx_X7_setConflict g fu x1 x2 x3 x4 S h) rfl rfl dL_setConflict_9 (Nat.le_of_ble_eq_true rfl) ⟨rfl, rfl, Nat.le_of_ble_eq_true rfl, Nat.le_of_ble_eq_true rfl⟩ ⟨Nat.le_of_ble_eq_true rfl, Nat.le_of_ble_eq_true rfl⟩ (fun E hz => ?_) (fun v hz => ?_)
  · subst hz
    rcases hc3_cases hr with ⟨rfl, rfl⟩ | ⟨rfl, rfl⟩ | ⟨rfl, rfl⟩
    · refine w_catch (E := 3) (pre := []) (suf := [⟨0, 14, 21, 13⟩, ⟨0, 14, 25, 21⟩]) (x := ⟨0, 14, 17, 19⟩) (pc' := 17) h0 hK hE rfl (fun q hq => nomatch hq) rfl (by decide) vl_482 vl_293 rfl (fun q9 => ?_)
      refine l_astore (pc' := 19) (L' := [(6, .ref q9), (0, .ref (wA (wC g) 7 0)), (1, .int x1), (2, .int x2), (3, .int x3), (4, .int x4), (5, .ref qo)]) h0 dL_setConflict_17 (Nat.le_of_ble_eq_true rfl) rfl rfl ?_
      refine l_iconst (pc' := 20) h0 dL_setConflict_19 ki_1 rfl ?_
      exact w_iret h0 hE hA dL_setConflict_20 ⟨Nat.le_of_ble_eq_true rfl, Nat.le_of_ble_eq_true rfl⟩ rfl rfl rfl
    · refine w_catch (E := 1) (pre := [⟨0, 14, 17, 19⟩]) (suf := [⟨0, 14, 25, 21⟩]) (x := ⟨0, 14, 21, 13⟩) (pc' := 21) h0 hK hE rfl (fun q hq => by simp only [List.mem_cons, List.not_mem_nil, or_false] at hq; subst hq; exact ⟨by decide, "java/lang/IndexOutOfBoundsException", vl_482, by decide +kernel⟩) rfl (by decide) vl_451 vl_461 rfl (fun q9 => ?_)
      refine l_astore (pc' := 23) (L' := [(6, .ref q9), (0, .ref (wA (wC g) 7 0)), (1, .int x1), (2, .int x2), (3, .int x3), (4, .int x4), (5, .ref qo)]) h0 dL_setConflict_21 (Nat.le_of_ble_eq_true rfl) rfl rfl ?_
      refine l_iconst (pc' := 24) h0 dL_setConflict_23 ki_2 rfl ?_
      exact w_iret h0 hE hA dL_setConflict_24 ⟨Nat.le_of_ble_eq_true rfl, Nat.le_of_ble_eq_true rfl⟩ rfl rfl rfl
    · refine w_catch (E := 2) (pre := [⟨0, 14, 17, 19⟩, ⟨0, 14, 21, 13⟩]) (suf := []) (x := ⟨0, 14, 25, 21⟩) (pc' := 25) h0 hK hE rfl (fun q hq => by simp only [List.mem_cons, List.not_mem_nil, or_false] at hq; rcases hq with rfl | rfl <;> first | exact ⟨by decide, "java/lang/IndexOutOfBoundsException", vl_482, by decide +kernel⟩ | exact ⟨by decide, "java/lang/IllegalArgumentException", vl_451, by decide +kernel⟩) rfl (by decide) vl_483 vl_502 rfl (fun q9 => ?_)
      refine l_astore (pc' := 27) (L' := [(6, .ref q9), (0, .ref (wA (wC g) 7 0)), (1, .int x1), (2, .int x2), (3, .int x3), (4, .int x4), (5, .ref qo)]) h0 dL_setConflict_25 (Nat.le_of_ble_eq_true rfl) rfl rfl ?_
      refine l_iconst (pc' := 28) h0 dL_setConflict_27 ki_3 rfl ?_
      exact w_iret h0 hE hA dL_setConflict_28 ⟨Nat.le_of_ble_eq_true rfl, Nat.le_of_ble_eq_true rfl⟩ rfl rfl rfl
  · subst hz
    show LV X A 7 5 30 (hW g cJ qo S2 o) [(0, .ref (wA (wC g) 7 0)), (1, .int x1), (2, .int x2), (3, .int x3), (4, .int x4), (5, .ref qo)] 12 [.int v, .int 0, .ref qo]
    refine l_i2l (pc' := 13) h0 dL_setConflict_12 rfl ?_
    refine w_last (pc' := 14) h0 hK hA dL_setConflict_13 rfl ?_
    refine l_goto (pc' := 29) h0 dL_setConflict_14 rfl ?_
    refine l_iconst (pc' := 30) h0 dL_setConflict_29 ki_0 rfl ?_
    exact w_iret h0 hE hA dL_setConflict_30 ⟨Nat.le_of_ble_eq_true rfl, Nat.le_of_ble_eq_true rfl⟩ (Option.some.inj hr) rfl rfl
abbrev rl_setPhases : Room := { frames := 8, cells := 3, slots := 18, locals := 144 }
theorem cw_setPhases (g : GC) (cJ : ClassId) (qo fu : Nat) (x1 : Int32) (x2 : Int32) (x3 : Int32) (x4 : Int32) (x5 : Int32) (S : Mem) (o : Nat → Int64) {z : (Nat ⊕ Int32)} {S2 : Mem} {r : Int32} (h : fx_X7_setPhases fu x1 x2 x3 x4 x5 S = some (z, S2)) (hr : hc3 3 1 2 z = some r) : ctW yL_setPhases cL_setPhases 8 [(0, 16, 19, 19), (0, 16, 23, 13), (0, 16, 27, 21)] rl_setPhases 3 18 g cJ qo [.ref (wA (wC g) 7 0), .int x1, .int x2, .int x3, .int x4, .int x5, .ref qo] S o r S2 (ooI z o) := by
  refine ctw_of (own := RL) (L := [(0, .ref (wA (wC g) 7 0)), (1, .int x1), (2, .int x2), (3, .int x3), (4, .int x4), (5, .int x5), (6, .ref qo)]) (by decide +kernel) rfl (Nat.le_of_ble_eq_true rfl) rfl (fun X A h0 hK hE hA => ?_)
  refine l_aload (pc' := 2) h0 6 dL_setPhases_0 rfl rfl ?_
  refine l_iconst (pc' := 3) h0 dL_setPhases_2 ki_0 rfl ?_
  refine l_aload_n (pc' := 4) h0 0 dL_setPhases_3 rfl rfl rfl ?_
  refine l_iload_n (pc' := 5) h0 1 dL_setPhases_4 rfl rfl rfl ?_
  refine l_iload_n (pc' := 6) h0 2 dL_setPhases_5 rfl rfl rfl ?_
  refine l_iload_n (pc' := 7) h0 3 dL_setPhases_6 rfl rfl rfl ?_
  refine l_iload (pc' := 9) h0 4 dL_setPhases_7 rfl rfl ?_
  refine l_iload (pc' := 11) h0 5 dL_setPhases_9 rfl rfl ?_
  refine w_call (z := z) (ov := oI) (n := 5) vl_529 vl_530 vl_531 vl_532 v_60 ⟨by decide +kernel, by decide +kernel, by decide +kernel⟩ [.int x1, .int x2, .int x3, .int x4, .int x5] [.int 0, .ref qo] h0 hK hA (cx_X7_setPhases g fu x1 x2 x3 x4 x5 S h) rfl rfl dL_setPhases_11 (Nat.le_of_ble_eq_true rfl) ⟨rfl, rfl, Nat.le_of_ble_eq_true rfl, Nat.le_of_ble_eq_true rfl⟩ ⟨Nat.le_of_ble_eq_true rfl, Nat.le_of_ble_eq_true rfl⟩ (fun E hz => ?_) (fun v hz => ?_)
  · subst hz
    rcases hc3_cases hr with ⟨rfl, rfl⟩ | ⟨rfl, rfl⟩ | ⟨rfl, rfl⟩
    · refine w_catch (E := 3) (pre := []) (suf := [⟨0, 16, 23, 13⟩, ⟨0, 16, 27, 21⟩]) (x := ⟨0, 16, 19, 19⟩) (pc' := 19) h0 hK hE rfl (fun q hq => nomatch hq) rfl (by decide) vl_482 vl_293 rfl (fun q9 => ?_)
      refine l_astore (pc' := 21) (L' := [(7, .ref q9), (0, .ref (wA (wC g) 7 0)), (1, .int x1), (2, .int x2), (3, .int x3), (4, .int x4), (5, .int x5), (6, .ref qo)]) h0 dL_setPhases_19 (Nat.le_of_ble_eq_true rfl) rfl rfl ?_
      refine l_iconst (pc' := 22) h0 dL_setPhases_21 ki_1 rfl ?_
      exact w_iret h0 hE hA dL_setPhases_22 ⟨Nat.le_of_ble_eq_true rfl, Nat.le_of_ble_eq_true rfl⟩ rfl rfl rfl
    · refine w_catch (E := 1) (pre := [⟨0, 16, 19, 19⟩]) (suf := [⟨0, 16, 27, 21⟩]) (x := ⟨0, 16, 23, 13⟩) (pc' := 23) h0 hK hE rfl (fun q hq => by simp only [List.mem_cons, List.not_mem_nil, or_false] at hq; subst hq; exact ⟨by decide, "java/lang/IndexOutOfBoundsException", vl_482, by decide +kernel⟩) rfl (by decide) vl_451 vl_461 rfl (fun q9 => ?_)
      refine l_astore (pc' := 25) (L' := [(7, .ref q9), (0, .ref (wA (wC g) 7 0)), (1, .int x1), (2, .int x2), (3, .int x3), (4, .int x4), (5, .int x5), (6, .ref qo)]) h0 dL_setPhases_23 (Nat.le_of_ble_eq_true rfl) rfl rfl ?_
      refine l_iconst (pc' := 26) h0 dL_setPhases_25 ki_2 rfl ?_
      exact w_iret h0 hE hA dL_setPhases_26 ⟨Nat.le_of_ble_eq_true rfl, Nat.le_of_ble_eq_true rfl⟩ rfl rfl rfl
    · refine w_catch (E := 2) (pre := [⟨0, 16, 19, 19⟩, ⟨0, 16, 23, 13⟩]) (suf := []) (x := ⟨0, 16, 27, 21⟩) (pc' := 27) h0 hK hE rfl (fun q hq => by simp only [List.mem_cons, List.not_mem_nil, or_false] at hq; rcases hq with rfl | rfl <;> first | exact ⟨by decide, "java/lang/IndexOutOfBoundsException", vl_482, by decide +kernel⟩ | exact ⟨by decide, "java/lang/IllegalArgumentException", vl_451, by decide +kernel⟩) rfl (by decide) vl_483 vl_502 rfl (fun q9 => ?_)
      refine l_astore (pc' := 29) (L' := [(7, .ref q9), (0, .ref (wA (wC g) 7 0)), (1, .int x1), (2, .int x2), (3, .int x3), (4, .int x4), (5, .int x5), (6, .ref qo)]) h0 dL_setPhases_27 (Nat.le_of_ble_eq_true rfl) rfl rfl ?_
      refine l_iconst (pc' := 30) h0 dL_setPhases_29 ki_3 rfl ?_
      exact w_iret h0 hE hA dL_setPhases_30 ⟨Nat.le_of_ble_eq_true rfl, Nat.le_of_ble_eq_true rfl⟩ rfl rfl rfl
  · subst hz
    show LV X A 8 3 18 (hW g cJ qo S2 o) [(0, .ref (wA (wC g) 7 0)), (1, .int x1), (2, .int x2), (3, .int x3), (4, .int x4), (5, .int x5), (6, .ref qo)] 14 [.int v, .int 0, .ref qo]
    refine l_i2l (pc' := 15) h0 dL_setPhases_14 rfl ?_
    refine w_last (pc' := 16) h0 hK hA dL_setPhases_15 rfl ?_
    refine l_goto (pc' := 31) h0 dL_setPhases_16 rfl ?_
    refine l_iconst (pc' := 32) h0 dL_setPhases_31 ki_0 rfl ?_
    exact w_iret h0 hE hA dL_setPhases_32 ⟨Nat.le_of_ble_eq_true rfl, Nat.le_of_ble_eq_true rfl⟩ (Option.some.inj hr) rfl rfl
abbrev rl_setFlow : Room := { frames := 8, cells := 3, slots := 18, locals := 141 }
theorem cw_setFlow (g : GC) (cJ : ClassId) (qo fu : Nat) (x1 : Int32) (x2 : Int32) (x3 : Int32) (S : Mem) (o : Nat → Int64) {z : (Nat ⊕ Int32)} {S2 : Mem} {r : Int32} (h : fx_X7_setFlow fu x1 x2 x3 S = some (z, S2)) (hr : hc3 3 1 2 z = some r) : ctW yL_setFlow cL_setFlow 6 [(0, 12, 15, 19), (0, 12, 19, 13), (0, 12, 23, 21)] rl_setFlow 3 18 g cJ qo [.ref (wA (wC g) 7 0), .int x1, .int x2, .int x3, .ref qo] S o r S2 (ooI z o) := by
  refine ctw_of (own := RL) (L := [(0, .ref (wA (wC g) 7 0)), (1, .int x1), (2, .int x2), (3, .int x3), (4, .ref qo)]) (by decide +kernel) rfl (Nat.le_of_ble_eq_true rfl) rfl (fun X A h0 hK hE hA => ?_)
  refine l_aload (pc' := 2) h0 4 dL_setFlow_0 rfl rfl ?_
  refine l_iconst (pc' := 3) h0 dL_setFlow_2 ki_0 rfl ?_
  refine l_aload_n (pc' := 4) h0 0 dL_setFlow_3 rfl rfl rfl ?_
  refine l_iload_n (pc' := 5) h0 1 dL_setFlow_4 rfl rfl rfl ?_
  refine l_iload_n (pc' := 6) h0 2 dL_setFlow_5 rfl rfl rfl ?_
  refine l_iload_n (pc' := 7) h0 3 dL_setFlow_6 rfl rfl rfl ?_
  refine w_call (z := z) (ov := oI) (n := 3) vl_545 vl_546 vl_547 vl_548 v_60 ⟨by decide +kernel, by decide +kernel, by decide +kernel⟩ [.int x1, .int x2, .int x3] [.int 0, .ref qo] h0 hK hA (cx_X7_setFlow g fu x1 x2 x3 S h) rfl rfl dL_setFlow_7 (Nat.le_of_ble_eq_true rfl) ⟨rfl, rfl, Nat.le_of_ble_eq_true rfl, Nat.le_of_ble_eq_true rfl⟩ ⟨Nat.le_of_ble_eq_true rfl, Nat.le_of_ble_eq_true rfl⟩ (fun E hz => ?_) (fun v hz => ?_)
  · subst hz
    rcases hc3_cases hr with ⟨rfl, rfl⟩ | ⟨rfl, rfl⟩ | ⟨rfl, rfl⟩
    · refine w_catch (E := 3) (pre := []) (suf := [⟨0, 12, 19, 13⟩, ⟨0, 12, 23, 21⟩]) (x := ⟨0, 12, 15, 19⟩) (pc' := 15) h0 hK hE rfl (fun q hq => nomatch hq) rfl (by decide) vl_482 vl_293 rfl (fun q9 => ?_)
      refine l_astore (pc' := 17) (L' := [(5, .ref q9), (0, .ref (wA (wC g) 7 0)), (1, .int x1), (2, .int x2), (3, .int x3), (4, .ref qo)]) h0 dL_setFlow_15 (Nat.le_of_ble_eq_true rfl) rfl rfl ?_
      refine l_iconst (pc' := 18) h0 dL_setFlow_17 ki_1 rfl ?_
      exact w_iret h0 hE hA dL_setFlow_18 ⟨Nat.le_of_ble_eq_true rfl, Nat.le_of_ble_eq_true rfl⟩ rfl rfl rfl
    · refine w_catch (E := 1) (pre := [⟨0, 12, 15, 19⟩]) (suf := [⟨0, 12, 23, 21⟩]) (x := ⟨0, 12, 19, 13⟩) (pc' := 19) h0 hK hE rfl (fun q hq => by simp only [List.mem_cons, List.not_mem_nil, or_false] at hq; subst hq; exact ⟨by decide, "java/lang/IndexOutOfBoundsException", vl_482, by decide +kernel⟩) rfl (by decide) vl_451 vl_461 rfl (fun q9 => ?_)
      refine l_astore (pc' := 21) (L' := [(5, .ref q9), (0, .ref (wA (wC g) 7 0)), (1, .int x1), (2, .int x2), (3, .int x3), (4, .ref qo)]) h0 dL_setFlow_19 (Nat.le_of_ble_eq_true rfl) rfl rfl ?_
      refine l_iconst (pc' := 22) h0 dL_setFlow_21 ki_2 rfl ?_
      exact w_iret h0 hE hA dL_setFlow_22 ⟨Nat.le_of_ble_eq_true rfl, Nat.le_of_ble_eq_true rfl⟩ rfl rfl rfl
    · refine w_catch (E := 2) (pre := [⟨0, 12, 15, 19⟩, ⟨0, 12, 19, 13⟩]) (suf := []) (x := ⟨0, 12, 23, 21⟩) (pc' := 23) h0 hK hE rfl (fun q hq => by simp only [List.mem_cons, List.not_mem_nil, or_false] at hq; rcases hq with rfl | rfl <;> first | exact ⟨by decide, "java/lang/IndexOutOfBoundsException", vl_482, by decide +kernel⟩ | exact ⟨by decide, "java/lang/IllegalArgumentException", vl_451, by decide +kernel⟩) rfl (by decide) vl_483 vl_502 rfl (fun q9 => ?_)
      refine l_astore (pc' := 25) (L' := [(5, .ref q9), (0, .ref (wA (wC g) 7 0)), (1, .int x1), (2, .int x2), (3, .int x3), (4, .ref qo)]) h0 dL_setFlow_23 (Nat.le_of_ble_eq_true rfl) rfl rfl ?_
      refine l_iconst (pc' := 26) h0 dL_setFlow_25 ki_3 rfl ?_
      exact w_iret h0 hE hA dL_setFlow_26 ⟨Nat.le_of_ble_eq_true rfl, Nat.le_of_ble_eq_true rfl⟩ rfl rfl rfl
  · subst hz
    show LV X A 6 3 18 (hW g cJ qo S2 o) [(0, .ref (wA (wC g) 7 0)), (1, .int x1), (2, .int x2), (3, .int x3), (4, .ref qo)] 10 [.int v, .int 0, .ref qo]
    refine l_i2l (pc' := 11) h0 dL_setFlow_10 rfl ?_
    refine w_last (pc' := 12) h0 hK hA dL_setFlow_11 rfl ?_
    refine l_goto (pc' := 27) h0 dL_setFlow_12 rfl ?_
    refine l_iconst (pc' := 28) h0 dL_setFlow_27 ki_0 rfl ?_
    exact w_iret h0 hE hA dL_setFlow_28 ⟨Nat.le_of_ble_eq_true rfl, Nat.le_of_ble_eq_true rfl⟩ (Option.some.inj hr) rfl rfl
abbrev rl_setLink : Room := { frames := 9, cells := 3, slots := 18, locals := 157 }
theorem cw_setLink (g : GC) (cJ : ClassId) (qo fu : Nat) (x1 : Int32) (x2 : Int32) (x3 : Int32) (S : Mem) (o : Nat → Int64) {z : (Nat ⊕ Unit)} {S2 : Mem} {r : Int32} (h : fx_X7_setLink fu x1 x2 x3 S = some (z, S2)) (hr : hc3 3 1 2 z = some r) : ctW yL_setLink cL_setLink 5 [(0, 7, 10, 19), (0, 7, 14, 13), (0, 7, 18, 21)] rl_setLink 3 18 g cJ qo [.ref (wA (wC g) 7 0), .int x1, .int x2, .int x3] S o r S2 o := by
  refine ctw_of (own := RL) (L := [(0, .ref (wA (wC g) 7 0)), (1, .int x1), (2, .int x2), (3, .int x3)]) (by decide +kernel) rfl (Nat.le_of_ble_eq_true rfl) rfl (fun X A h0 hK hE hA => ?_)
  refine l_aload_n (pc' := 1) h0 0 dL_setLink_0 rfl rfl rfl ?_
  refine l_iload_n (pc' := 2) h0 1 dL_setLink_1 rfl rfl rfl ?_
  refine l_iload_n (pc' := 3) h0 2 dL_setLink_2 rfl rfl rfl ?_
  refine l_iload_n (pc' := 4) h0 3 dL_setLink_3 rfl rfl rfl ?_
  refine w_call (z := z) (ov := oU) (n := 3) vl_561 vl_562 vl_563 vl_564 v_60 ⟨by decide +kernel, by decide +kernel, by decide +kernel⟩ [.int x1, .int x2, .int x3] [] h0 hK hA (cx_X7_setLink g fu x1 x2 x3 S h) rfl rfl dL_setLink_4 (Nat.le_of_ble_eq_true rfl) ⟨rfl, rfl, Nat.le_of_ble_eq_true rfl, Nat.le_of_ble_eq_true rfl⟩ ⟨Nat.le_of_ble_eq_true rfl, Nat.le_of_ble_eq_true rfl⟩ (fun E hz => ?_) (fun v hz => ?_)
  · subst hz
    rcases hc3_cases hr with ⟨rfl, rfl⟩ | ⟨rfl, rfl⟩ | ⟨rfl, rfl⟩
    · refine w_catch (E := 3) (pre := []) (suf := [⟨0, 7, 14, 13⟩, ⟨0, 7, 18, 21⟩]) (x := ⟨0, 7, 10, 19⟩) (pc' := 10) h0 hK hE rfl (fun q hq => nomatch hq) rfl (by decide) vl_482 vl_293 rfl (fun q9 => ?_)
      refine l_astore (pc' := 12) (L' := [(4, .ref q9), (0, .ref (wA (wC g) 7 0)), (1, .int x1), (2, .int x2), (3, .int x3)]) h0 dL_setLink_10 (Nat.le_of_ble_eq_true rfl) rfl rfl ?_
      refine l_iconst (pc' := 13) h0 dL_setLink_12 ki_1 rfl ?_
      exact w_iret h0 hE hA dL_setLink_13 ⟨Nat.le_of_ble_eq_true rfl, Nat.le_of_ble_eq_true rfl⟩ rfl rfl rfl
    · refine w_catch (E := 1) (pre := [⟨0, 7, 10, 19⟩]) (suf := [⟨0, 7, 18, 21⟩]) (x := ⟨0, 7, 14, 13⟩) (pc' := 14) h0 hK hE rfl (fun q hq => by simp only [List.mem_cons, List.not_mem_nil, or_false] at hq; subst hq; exact ⟨by decide, "java/lang/IndexOutOfBoundsException", vl_482, by decide +kernel⟩) rfl (by decide) vl_451 vl_461 rfl (fun q9 => ?_)
      refine l_astore (pc' := 16) (L' := [(4, .ref q9), (0, .ref (wA (wC g) 7 0)), (1, .int x1), (2, .int x2), (3, .int x3)]) h0 dL_setLink_14 (Nat.le_of_ble_eq_true rfl) rfl rfl ?_
      refine l_iconst (pc' := 17) h0 dL_setLink_16 ki_2 rfl ?_
      exact w_iret h0 hE hA dL_setLink_17 ⟨Nat.le_of_ble_eq_true rfl, Nat.le_of_ble_eq_true rfl⟩ rfl rfl rfl
    · refine w_catch (E := 2) (pre := [⟨0, 7, 10, 19⟩, ⟨0, 7, 14, 13⟩]) (suf := []) (x := ⟨0, 7, 18, 21⟩) (pc' := 18) h0 hK hE rfl (fun q hq => by simp only [List.mem_cons, List.not_mem_nil, or_false] at hq; rcases hq with rfl | rfl <;> first | exact ⟨by decide, "java/lang/IndexOutOfBoundsException", vl_482, by decide +kernel⟩ | exact ⟨by decide, "java/lang/IllegalArgumentException", vl_451, by decide +kernel⟩) rfl (by decide) vl_483 vl_502 rfl (fun q9 => ?_)
      refine l_astore (pc' := 20) (L' := [(4, .ref q9), (0, .ref (wA (wC g) 7 0)), (1, .int x1), (2, .int x2), (3, .int x3)]) h0 dL_setLink_18 (Nat.le_of_ble_eq_true rfl) rfl rfl ?_
      refine l_iconst (pc' := 21) h0 dL_setLink_20 ki_3 rfl ?_
      exact w_iret h0 hE hA dL_setLink_21 ⟨Nat.le_of_ble_eq_true rfl, Nat.le_of_ble_eq_true rfl⟩ rfl rfl rfl
  · subst hz
    show LV X A 5 3 18 (hW g cJ qo S2 o) [(0, .ref (wA (wC g) 7 0)), (1, .int x1), (2, .int x2), (3, .int x3)] 7 []
    refine l_goto (pc' := 22) h0 dL_setLink_7 rfl ?_
    refine l_iconst (pc' := 23) h0 dL_setLink_22 ki_0 rfl ?_
    exact w_iret h0 hE hA dL_setLink_23 ⟨Nat.le_of_ble_eq_true rfl, Nat.le_of_ble_eq_true rfl⟩ (Option.some.inj hr) rfl rfl
abbrev rl_setOffset : Room := { frames := 8, cells := 2, slots := 12, locals := 135 }
theorem cw_setOffset (g : GC) (cJ : ClassId) (qo fu : Nat) (x1 : Int32) (x2 : Int32) (S : Mem) (o : Nat → Int64) {z : (Nat ⊕ Int32)} {S2 : Mem} {r : Int32} (h : fx_X7_setOffset fu x1 x2 S = some (z, S2)) (hr : hc3 3 1 2 z = some r) : ctW yL_setOffset cL_setOffset 5 [(0, 10, 13, 19), (0, 10, 17, 13), (0, 10, 21, 21)] rl_setOffset 2 12 g cJ qo [.ref (wA (wC g) 7 0), .int x1, .int x2, .ref qo] S o r S2 (ooI z o) := by
  refine ctw_of (own := RL) (L := [(0, .ref (wA (wC g) 7 0)), (1, .int x1), (2, .int x2), (3, .ref qo)]) (by decide +kernel) rfl (Nat.le_of_ble_eq_true rfl) rfl (fun X A h0 hK hE hA => ?_)
  refine l_aload_n (pc' := 1) h0 3 dL_setOffset_0 rfl rfl rfl ?_
  refine l_iconst (pc' := 2) h0 dL_setOffset_1 ki_0 rfl ?_
  refine l_aload_n (pc' := 3) h0 0 dL_setOffset_2 rfl rfl rfl ?_
  refine l_iload_n (pc' := 4) h0 1 dL_setOffset_3 rfl rfl rfl ?_
  refine l_iload_n (pc' := 5) h0 2 dL_setOffset_4 rfl rfl rfl ?_
  refine w_call (z := z) (ov := oI) (n := 2) vl_578 vl_579 vl_580 vl_581 v_60 ⟨by decide +kernel, by decide +kernel, by decide +kernel⟩ [.int x1, .int x2] [.int 0, .ref qo] h0 hK hA (cx_X7_setOffset g fu x1 x2 S h) rfl rfl dL_setOffset_5 (Nat.le_of_ble_eq_true rfl) ⟨rfl, rfl, Nat.le_of_ble_eq_true rfl, Nat.le_of_ble_eq_true rfl⟩ ⟨Nat.le_of_ble_eq_true rfl, Nat.le_of_ble_eq_true rfl⟩ (fun E hz => ?_) (fun v hz => ?_)
  · subst hz
    rcases hc3_cases hr with ⟨rfl, rfl⟩ | ⟨rfl, rfl⟩ | ⟨rfl, rfl⟩
    · refine w_catch (E := 3) (pre := []) (suf := [⟨0, 10, 17, 13⟩, ⟨0, 10, 21, 21⟩]) (x := ⟨0, 10, 13, 19⟩) (pc' := 13) h0 hK hE rfl (fun q hq => nomatch hq) rfl (by decide) vl_482 vl_293 rfl (fun q9 => ?_)
      refine l_astore (pc' := 15) (L' := [(4, .ref q9), (0, .ref (wA (wC g) 7 0)), (1, .int x1), (2, .int x2), (3, .ref qo)]) h0 dL_setOffset_13 (Nat.le_of_ble_eq_true rfl) rfl rfl ?_
      refine l_iconst (pc' := 16) h0 dL_setOffset_15 ki_1 rfl ?_
      exact w_iret h0 hE hA dL_setOffset_16 ⟨Nat.le_of_ble_eq_true rfl, Nat.le_of_ble_eq_true rfl⟩ rfl rfl rfl
    · refine w_catch (E := 1) (pre := [⟨0, 10, 13, 19⟩]) (suf := [⟨0, 10, 21, 21⟩]) (x := ⟨0, 10, 17, 13⟩) (pc' := 17) h0 hK hE rfl (fun q hq => by simp only [List.mem_cons, List.not_mem_nil, or_false] at hq; subst hq; exact ⟨by decide, "java/lang/IndexOutOfBoundsException", vl_482, by decide +kernel⟩) rfl (by decide) vl_451 vl_461 rfl (fun q9 => ?_)
      refine l_astore (pc' := 19) (L' := [(4, .ref q9), (0, .ref (wA (wC g) 7 0)), (1, .int x1), (2, .int x2), (3, .ref qo)]) h0 dL_setOffset_17 (Nat.le_of_ble_eq_true rfl) rfl rfl ?_
      refine l_iconst (pc' := 20) h0 dL_setOffset_19 ki_2 rfl ?_
      exact w_iret h0 hE hA dL_setOffset_20 ⟨Nat.le_of_ble_eq_true rfl, Nat.le_of_ble_eq_true rfl⟩ rfl rfl rfl
    · refine w_catch (E := 2) (pre := [⟨0, 10, 13, 19⟩, ⟨0, 10, 17, 13⟩]) (suf := []) (x := ⟨0, 10, 21, 21⟩) (pc' := 21) h0 hK hE rfl (fun q hq => by simp only [List.mem_cons, List.not_mem_nil, or_false] at hq; rcases hq with rfl | rfl <;> first | exact ⟨by decide, "java/lang/IndexOutOfBoundsException", vl_482, by decide +kernel⟩ | exact ⟨by decide, "java/lang/IllegalArgumentException", vl_451, by decide +kernel⟩) rfl (by decide) vl_483 vl_502 rfl (fun q9 => ?_)
      refine l_astore (pc' := 23) (L' := [(4, .ref q9), (0, .ref (wA (wC g) 7 0)), (1, .int x1), (2, .int x2), (3, .ref qo)]) h0 dL_setOffset_21 (Nat.le_of_ble_eq_true rfl) rfl rfl ?_
      refine l_iconst (pc' := 24) h0 dL_setOffset_23 ki_3 rfl ?_
      exact w_iret h0 hE hA dL_setOffset_24 ⟨Nat.le_of_ble_eq_true rfl, Nat.le_of_ble_eq_true rfl⟩ rfl rfl rfl
  · subst hz
    show LV X A 5 2 12 (hW g cJ qo S2 o) [(0, .ref (wA (wC g) 7 0)), (1, .int x1), (2, .int x2), (3, .ref qo)] 8 [.int v, .int 0, .ref qo]
    refine l_i2l (pc' := 9) h0 dL_setOffset_8 rfl ?_
    refine w_last (pc' := 10) h0 hK hA dL_setOffset_9 rfl ?_
    refine l_goto (pc' := 25) h0 dL_setOffset_10 rfl ?_
    refine l_iconst (pc' := 26) h0 dL_setOffset_25 ki_0 rfl ?_
    exact w_iret h0 hE hA dL_setOffset_26 ⟨Nat.le_of_ble_eq_true rfl, Nat.le_of_ble_eq_true rfl⟩ (Option.some.inj hr) rfl rfl
abbrev rl_improve : Room := { frames := 8, cells := 2, slots := 12, locals := 160 }
theorem cw_improve (g : GC) (cJ : ClassId) (qo fu : Nat)  (S : Mem) (o : Nat → Int64) {z : (Nat ⊕ Int32)} {S2 : Mem} {r : Int32} (h : fx_X7_improve fu  S = some (z, S2)) (hr : hc1 2 z = some r) : ctW yL_improve cL_improve 3 [(0, 8, 11, 21)] rl_improve 2 12 g cJ qo [.ref (wA (wC g) 7 0), .ref qo] S o r S2 (ooI z o) := by
  refine ctw_of (own := RL) (L := [(0, .ref (wA (wC g) 7 0)), (1, .ref qo)]) (by decide +kernel) rfl (Nat.le_of_ble_eq_true rfl) rfl (fun X A h0 hK hE hA => ?_)
  refine l_aload_n (pc' := 1) h0 1 dL_improve_0 rfl rfl rfl ?_
  refine l_iconst (pc' := 2) h0 dL_improve_1 ki_0 rfl ?_
  refine l_aload_n (pc' := 3) h0 0 dL_improve_2 rfl rfl rfl ?_
  refine w_call (z := z) (ov := oI) (n := 0) vl_586 vl_587 vl_588 vl_589 v_60 ⟨by decide +kernel, by decide +kernel, by decide +kernel⟩ [] [.int 0, .ref qo] h0 hK hA (cx_X7_improve g fu  S h) rfl rfl dL_improve_3 (Nat.le_of_ble_eq_true rfl) ⟨rfl, rfl, Nat.le_of_ble_eq_true rfl, Nat.le_of_ble_eq_true rfl⟩ ⟨Nat.le_of_ble_eq_true rfl, Nat.le_of_ble_eq_true rfl⟩ (fun E hz => ?_) (fun v hz => ?_)
  · subst hz
    rcases hc1_cases hr with ⟨rfl, rfl⟩
    · refine w_catch (E := 2) (pre := []) (suf := []) (x := ⟨0, 8, 11, 21⟩) (pc' := 11) h0 hK hE rfl (fun q hq => nomatch hq) rfl (by decide) vl_483 vl_502 rfl (fun q9 => ?_)
      refine l_astore_n (pc' := 12) (L' := [(2, .ref q9), (0, .ref (wA (wC g) 7 0)), (1, .ref qo)]) h0 dL_improve_11 rfl (Nat.le_of_ble_eq_true rfl) rfl rfl ?_
      refine l_iconst (pc' := 13) h0 dL_improve_12 ki_1 rfl ?_
      exact w_iret h0 hE hA dL_improve_13 ⟨Nat.le_of_ble_eq_true rfl, Nat.le_of_ble_eq_true rfl⟩ rfl rfl rfl
  · subst hz
    show LV X A 3 2 12 (hW g cJ qo S2 o) [(0, .ref (wA (wC g) 7 0)), (1, .ref qo)] 6 [.int v, .int 0, .ref qo]
    refine l_i2l (pc' := 7) h0 dL_improve_6 rfl ?_
    refine w_last (pc' := 8) h0 hK hA dL_improve_7 rfl ?_
    refine l_goto (pc' := 14) h0 dL_improve_8 rfl ?_
    refine l_iconst (pc' := 15) h0 dL_improve_14 ki_0 rfl ?_
    exact w_iret h0 hE hA dL_improve_15 ⟨Nat.le_of_ble_eq_true rfl, Nat.le_of_ble_eq_true rfl⟩ (Option.some.inj hr) rfl rfl
abbrev rl_hasPlan : Room := { frames := 8, cells := 1, slots := 6, locals := 132 }
theorem cw_hasPlan (g : GC) (cJ : ClassId) (qo fu : Nat) (x1 : Int32) (S : Mem) (o : Nat → Int64) {z : (Nat ⊕ Int32)} {r : Int32} (h : fx_X7_hasPlan fu x1 S = some z) (hr : hc1 3 z = some r) : ctW yL_hasPlan cL_hasPlan 4 [(0, 16, 19, 19)] rl_hasPlan 1 6 g cJ qo [.ref (wA (wC g) 7 0), .int x1, .ref qo] S o r S (ooZ z o) := by
  refine ctw_of (own := RL) (L := [(0, .ref (wA (wC g) 7 0)), (1, .int x1), (2, .ref qo)]) (by decide +kernel) rfl (Nat.le_of_ble_eq_true rfl) rfl (fun X A h0 hK hE hA => ?_)
  refine l_aload_n (pc' := 1) h0 2 dL_hasPlan_0 rfl rfl rfl ?_
  refine l_iconst (pc' := 2) h0 dL_hasPlan_1 ki_0 rfl ?_
  refine l_aload_n (pc' := 3) h0 0 dL_hasPlan_2 rfl rfl rfl ?_
  refine l_iload_n (pc' := 4) h0 1 dL_hasPlan_3 rfl rfl rfl ?_
  refine w_call (z := z) (ov := oI) (n := 1) vl_690 vl_691 vl_692 vl_693 v_60 ⟨by decide +kernel, by decide +kernel, by decide +kernel⟩ [.int x1] [.int 0, .ref qo] h0 hK hA (cx_X7_hasPlan g fu x1 S h) rfl rfl dL_hasPlan_4 (Nat.le_of_ble_eq_true rfl) ⟨rfl, rfl, Nat.le_of_ble_eq_true rfl, Nat.le_of_ble_eq_true rfl⟩ ⟨Nat.le_of_ble_eq_true rfl, Nat.le_of_ble_eq_true rfl⟩ (fun E hz => ?_) (fun v hz => ?_)
  · subst hz
    rcases hc1_cases hr with ⟨rfl, rfl⟩
    · refine w_catch (E := 3) (pre := []) (suf := []) (x := ⟨0, 16, 19, 19⟩) (pc' := 19) h0 hK hE rfl (fun q hq => nomatch hq) rfl (by decide) vl_482 vl_293 rfl (fun q9 => ?_)
      refine l_astore_n (pc' := 20) (L' := [(3, .ref q9), (0, .ref (wA (wC g) 7 0)), (1, .int x1), (2, .ref qo)]) h0 dL_hasPlan_19 rfl (Nat.le_of_ble_eq_true rfl) rfl rfl ?_
      refine l_iconst (pc' := 21) h0 dL_hasPlan_20 ki_1 rfl ?_
      exact w_iret h0 hE hA dL_hasPlan_21 ⟨Nat.le_of_ble_eq_true rfl, Nat.le_of_ble_eq_true rfl⟩ rfl rfl rfl
  · subst hz
    show LV X A 4 1 6 (hW g cJ qo S o) [(0, .ref (wA (wC g) 7 0)), (1, .int x1), (2, .ref qo)] 7 [.int v, .int 0, .ref qo]
    refine l_if_eq (pt := 14) (pf := 10) h0 dL_hasPlan_7 rfl rfl (fun c => ?_) (fun c => ?_)
    · refine l_lconst (pc' := 15) (v := 0) h0 dL_hasPlan_14 rfl rfl ?_
      refine w_last (pc' := 16) h0 hK hA dL_hasPlan_15 rfl ?_
      refine l_goto (pc' := 22) h0 dL_hasPlan_16 rfl ?_
      refine l_iconst (pc' := 23) h0 dL_hasPlan_22 ki_0 rfl ?_
      exact w_iret h0 hE hA dL_hasPlan_23 ⟨Nat.le_of_ble_eq_true rfl, Nat.le_of_ble_eq_true rfl⟩ (Option.some.inj hr) rfl (by rw [show ooZ (Sum.inr v) o = vp_updL o 0 (if v = 0 then 0 else 1) from rfl, if_pos c])
    · refine l_lconst (pc' := 11) (v := 1) h0 dL_hasPlan_10 rfl rfl ?_
      refine l_goto (pc' := 15) h0 dL_hasPlan_11 rfl ?_
      refine w_last (pc' := 16) h0 hK hA dL_hasPlan_15 rfl ?_
      refine l_goto (pc' := 22) h0 dL_hasPlan_16 rfl ?_
      refine l_iconst (pc' := 23) h0 dL_hasPlan_22 ki_0 rfl ?_
      exact w_iret h0 hE hA dL_hasPlan_23 ⟨Nat.le_of_ble_eq_true rfl, Nat.le_of_ble_eq_true rfl⟩ (Option.some.inj hr) rfl (by rw [show ooZ (Sum.inr v) o = vp_updL o 0 (if v = 0 then 0 else 1) from rfl, if_neg c])
abbrev rl_green : Room := { frames := 8, cells := 3, slots := 18, locals := 134 }
theorem cw_green (g : GC) (cJ : ClassId) (qo fu : Nat) (x1 : Int32) (x2 : Int32) (S : Mem) (o : Nat → Int64) {z : (Nat ⊕ Int32)} {r : Int32} (h : fx_X7_green fu x1 x2 S = some z) (hr : hc2 3 2 z = some r) : ctW yL_green cL_green 5 [(0, 10, 13, 19), (0, 10, 17, 21)] rl_green 3 18 g cJ qo [.ref (wA (wC g) 7 0), .int x1, .int x2, .ref qo] S o r S (ooI z o) := by
  refine ctw_of (own := RL) (L := [(0, .ref (wA (wC g) 7 0)), (1, .int x1), (2, .int x2), (3, .ref qo)]) (by decide +kernel) rfl (Nat.le_of_ble_eq_true rfl) rfl (fun X A h0 hK hE hA => ?_)
  refine l_aload_n (pc' := 1) h0 3 dL_green_0 rfl rfl rfl ?_
  refine l_iconst (pc' := 2) h0 dL_green_1 ki_0 rfl ?_
  refine l_aload_n (pc' := 3) h0 0 dL_green_2 rfl rfl rfl ?_
  refine l_iload_n (pc' := 4) h0 1 dL_green_3 rfl rfl rfl ?_
  refine l_iload_n (pc' := 5) h0 2 dL_green_4 rfl rfl rfl ?_
  refine w_call (z := z) (ov := oI) (n := 2) vl_697 vl_698 vl_699 vl_700 v_60 ⟨by decide +kernel, by decide +kernel, by decide +kernel⟩ [.int x1, .int x2] [.int 0, .ref qo] h0 hK hA (cx_X7_green g fu x1 x2 S h) rfl rfl dL_green_5 (Nat.le_of_ble_eq_true rfl) ⟨rfl, rfl, Nat.le_of_ble_eq_true rfl, Nat.le_of_ble_eq_true rfl⟩ ⟨Nat.le_of_ble_eq_true rfl, Nat.le_of_ble_eq_true rfl⟩ (fun E hz => ?_) (fun v hz => ?_)
  · subst hz
    rcases hc2_cases hr with ⟨rfl, rfl⟩ | ⟨rfl, rfl⟩
    · refine w_catch (E := 3) (pre := []) (suf := [⟨0, 10, 17, 21⟩]) (x := ⟨0, 10, 13, 19⟩) (pc' := 13) h0 hK hE rfl (fun q hq => nomatch hq) rfl (by decide) vl_482 vl_293 rfl (fun q9 => ?_)
      refine l_astore (pc' := 15) (L' := [(4, .ref q9), (0, .ref (wA (wC g) 7 0)), (1, .int x1), (2, .int x2), (3, .ref qo)]) h0 dL_green_13 (Nat.le_of_ble_eq_true rfl) rfl rfl ?_
      refine l_iconst (pc' := 16) h0 dL_green_15 ki_1 rfl ?_
      exact w_iret h0 hE hA dL_green_16 ⟨Nat.le_of_ble_eq_true rfl, Nat.le_of_ble_eq_true rfl⟩ rfl rfl rfl
    · refine w_catch (E := 2) (pre := [⟨0, 10, 13, 19⟩]) (suf := []) (x := ⟨0, 10, 17, 21⟩) (pc' := 17) h0 hK hE rfl (fun q hq => by simp only [List.mem_cons, List.not_mem_nil, or_false] at hq; subst hq; exact ⟨by decide, "java/lang/IndexOutOfBoundsException", vl_482, by decide +kernel⟩) rfl (by decide) vl_483 vl_502 rfl (fun q9 => ?_)
      refine l_astore (pc' := 19) (L' := [(4, .ref q9), (0, .ref (wA (wC g) 7 0)), (1, .int x1), (2, .int x2), (3, .ref qo)]) h0 dL_green_17 (Nat.le_of_ble_eq_true rfl) rfl rfl ?_
      refine l_iconst (pc' := 20) h0 dL_green_19 ki_2 rfl ?_
      exact w_iret h0 hE hA dL_green_20 ⟨Nat.le_of_ble_eq_true rfl, Nat.le_of_ble_eq_true rfl⟩ rfl rfl rfl
  · subst hz
    show LV X A 5 3 18 (hW g cJ qo S o) [(0, .ref (wA (wC g) 7 0)), (1, .int x1), (2, .int x2), (3, .ref qo)] 8 [.int v, .int 0, .ref qo]
    refine l_i2l (pc' := 9) h0 dL_green_8 rfl ?_
    refine w_last (pc' := 10) h0 hK hA dL_green_9 rfl ?_
    refine l_goto (pc' := 21) h0 dL_green_10 rfl ?_
    refine l_iconst (pc' := 22) h0 dL_green_21 ki_0 rfl ?_
    exact w_iret h0 hE hA dL_green_22 ⟨Nat.le_of_ble_eq_true rfl, Nat.le_of_ble_eq_true rfl⟩ (Option.some.inj hr) rfl rfl
abbrev rl_clearing : Room := { frames := 8, cells := 2, slots := 12, locals := 134 }
theorem cw_clearing (g : GC) (cJ : ClassId) (qo fu : Nat) (x1 : Int32) (x2 : Int32) (S : Mem) (o : Nat → Int64) {z : (Nat ⊕ Int32)} {r : Int32} (h : fx_X7_clearing fu x1 x2 S = some z) (hr : hc1 3 z = some r) : ctW yL_clearing cL_clearing 5 [(0, 10, 13, 19)] rl_clearing 2 12 g cJ qo [.ref (wA (wC g) 7 0), .int x1, .int x2, .ref qo] S o r S (ooI z o) := by
  refine ctw_of (own := RL) (L := [(0, .ref (wA (wC g) 7 0)), (1, .int x1), (2, .int x2), (3, .ref qo)]) (by decide +kernel) rfl (Nat.le_of_ble_eq_true rfl) rfl (fun X A h0 hK hE hA => ?_)
  refine l_aload_n (pc' := 1) h0 3 dL_clearing_0 rfl rfl rfl ?_
  refine l_iconst (pc' := 2) h0 dL_clearing_1 ki_0 rfl ?_
  refine l_aload_n (pc' := 3) h0 0 dL_clearing_2 rfl rfl rfl ?_
  refine l_iload_n (pc' := 4) h0 1 dL_clearing_3 rfl rfl rfl ?_
  refine l_iload_n (pc' := 5) h0 2 dL_clearing_4 rfl rfl rfl ?_
  refine w_call (z := z) (ov := oI) (n := 2) vl_713 vl_714 vl_715 vl_716 v_60 ⟨by decide +kernel, by decide +kernel, by decide +kernel⟩ [.int x1, .int x2] [.int 0, .ref qo] h0 hK hA (cx_X7_clearing g fu x1 x2 S h) rfl rfl dL_clearing_5 (Nat.le_of_ble_eq_true rfl) ⟨rfl, rfl, Nat.le_of_ble_eq_true rfl, Nat.le_of_ble_eq_true rfl⟩ ⟨Nat.le_of_ble_eq_true rfl, Nat.le_of_ble_eq_true rfl⟩ (fun E hz => ?_) (fun v hz => ?_)
  · subst hz
    rcases hc1_cases hr with ⟨rfl, rfl⟩
    · refine w_catch (E := 3) (pre := []) (suf := []) (x := ⟨0, 10, 13, 19⟩) (pc' := 13) h0 hK hE rfl (fun q hq => nomatch hq) rfl (by decide) vl_482 vl_293 rfl (fun q9 => ?_)
      refine l_astore (pc' := 15) (L' := [(4, .ref q9), (0, .ref (wA (wC g) 7 0)), (1, .int x1), (2, .int x2), (3, .ref qo)]) h0 dL_clearing_13 (Nat.le_of_ble_eq_true rfl) rfl rfl ?_
      refine l_iconst (pc' := 16) h0 dL_clearing_15 ki_1 rfl ?_
      exact w_iret h0 hE hA dL_clearing_16 ⟨Nat.le_of_ble_eq_true rfl, Nat.le_of_ble_eq_true rfl⟩ rfl rfl rfl
  · subst hz
    show LV X A 5 2 12 (hW g cJ qo S o) [(0, .ref (wA (wC g) 7 0)), (1, .int x1), (2, .int x2), (3, .ref qo)] 8 [.int v, .int 0, .ref qo]
    refine l_i2l (pc' := 9) h0 dL_clearing_8 rfl ?_
    refine w_last (pc' := 10) h0 hK hA dL_clearing_9 rfl ?_
    refine l_goto (pc' := 17) h0 dL_clearing_10 rfl ?_
    refine l_iconst (pc' := 18) h0 dL_clearing_17 ki_0 rfl ?_
    exact w_iret h0 hE hA dL_clearing_18 ⟨Nat.le_of_ble_eq_true rfl, Nat.le_of_ble_eq_true rfl⟩ (Option.some.inj hr) rfl rfl
abbrev rl_offset : Room := { frames := 8, cells := 1, slots := 6, locals := 132 }
theorem cw_offset (g : GC) (cJ : ClassId) (qo fu : Nat) (x1 : Int32) (S : Mem) (o : Nat → Int64) {z : (Nat ⊕ Int32)} {r : Int32} (h : fx_X7_offset fu x1 S = some z) (hr : hc1 3 z = some r) : ctW yL_offset cL_offset 4 [(0, 9, 12, 19)] rl_offset 1 6 g cJ qo [.ref (wA (wC g) 7 0), .int x1, .ref qo] S o r S (ooI z o) := by
  refine ctw_of (own := RL) (L := [(0, .ref (wA (wC g) 7 0)), (1, .int x1), (2, .ref qo)]) (by decide +kernel) rfl (Nat.le_of_ble_eq_true rfl) rfl (fun X A h0 hK hE hA => ?_)
  refine l_aload_n (pc' := 1) h0 2 dL_offset_0 rfl rfl rfl ?_
  refine l_iconst (pc' := 2) h0 dL_offset_1 ki_0 rfl ?_
  refine l_aload_n (pc' := 3) h0 0 dL_offset_2 rfl rfl rfl ?_
  refine l_iload_n (pc' := 4) h0 1 dL_offset_3 rfl rfl rfl ?_
  refine w_call (z := z) (ov := oI) (n := 1) vl_720 vl_721 vl_722 vl_723 v_60 ⟨by decide +kernel, by decide +kernel, by decide +kernel⟩ [.int x1] [.int 0, .ref qo] h0 hK hA (cx_X7_offset g fu x1 S h) rfl rfl dL_offset_4 (Nat.le_of_ble_eq_true rfl) ⟨rfl, rfl, Nat.le_of_ble_eq_true rfl, Nat.le_of_ble_eq_true rfl⟩ ⟨Nat.le_of_ble_eq_true rfl, Nat.le_of_ble_eq_true rfl⟩ (fun E hz => ?_) (fun v hz => ?_)
  · subst hz
    rcases hc1_cases hr with ⟨rfl, rfl⟩
    · refine w_catch (E := 3) (pre := []) (suf := []) (x := ⟨0, 9, 12, 19⟩) (pc' := 12) h0 hK hE rfl (fun q hq => nomatch hq) rfl (by decide) vl_482 vl_293 rfl (fun q9 => ?_)
      refine l_astore_n (pc' := 13) (L' := [(3, .ref q9), (0, .ref (wA (wC g) 7 0)), (1, .int x1), (2, .ref qo)]) h0 dL_offset_12 rfl (Nat.le_of_ble_eq_true rfl) rfl rfl ?_
      refine l_iconst (pc' := 14) h0 dL_offset_13 ki_1 rfl ?_
      exact w_iret h0 hE hA dL_offset_14 ⟨Nat.le_of_ble_eq_true rfl, Nat.le_of_ble_eq_true rfl⟩ rfl rfl rfl
  · subst hz
    show LV X A 4 1 6 (hW g cJ qo S o) [(0, .ref (wA (wC g) 7 0)), (1, .int x1), (2, .ref qo)] 7 [.int v, .int 0, .ref qo]
    refine l_i2l (pc' := 8) h0 dL_offset_7 rfl ?_
    refine w_last (pc' := 9) h0 hK hA dL_offset_8 rfl ?_
    refine l_goto (pc' := 15) h0 dL_offset_9 rfl ?_
    refine l_iconst (pc' := 16) h0 dL_offset_15 ki_0 rfl ?_
    exact w_iret h0 hE hA dL_offset_16 ⟨Nat.le_of_ble_eq_true rfl, Nat.le_of_ble_eq_true rfl⟩ (Option.some.inj hr) rfl rfl
abbrev rl_isGreen : Room := { frames := 8, cells := 3, slots := 18, locals := 135 }
theorem cw_isGreen (g : GC) (cJ : ClassId) (qo fu : Nat) (x1 : Int32) (x2 : Int32) (x3 : Int32) (S : Mem) (o : Nat → Int64) {z : (Nat ⊕ Int32)} {r : Int32} (h : fx_X7_isGreen fu x1 x2 x3 S = some z) (hr : hc3 3 1 2 z = some r) : ctW yL_isGreen cL_isGreen 6 [(0, 19, 22, 19), (0, 19, 26, 13), (0, 19, 30, 21)] rl_isGreen 3 18 g cJ qo [.ref (wA (wC g) 7 0), .int x1, .int x2, .int x3, .ref qo] S o r S (ooZ z o) := by
  refine ctw_of (own := RL) (L := [(0, .ref (wA (wC g) 7 0)), (1, .int x1), (2, .int x2), (3, .int x3), (4, .ref qo)]) (by decide +kernel) rfl (Nat.le_of_ble_eq_true rfl) rfl (fun X A h0 hK hE hA => ?_)
  refine l_aload (pc' := 2) h0 4 dL_isGreen_0 rfl rfl ?_
  refine l_iconst (pc' := 3) h0 dL_isGreen_2 ki_0 rfl ?_
  refine l_aload_n (pc' := 4) h0 0 dL_isGreen_3 rfl rfl rfl ?_
  refine l_iload_n (pc' := 5) h0 1 dL_isGreen_4 rfl rfl rfl ?_
  refine l_iload_n (pc' := 6) h0 2 dL_isGreen_5 rfl rfl rfl ?_
  refine l_iload_n (pc' := 7) h0 3 dL_isGreen_6 rfl rfl rfl ?_
  refine w_call (z := z) (ov := oI) (n := 3) vl_727 vl_728 vl_729 vl_730 v_60 ⟨by decide +kernel, by decide +kernel, by decide +kernel⟩ [.int x1, .int x2, .int x3] [.int 0, .ref qo] h0 hK hA (cx_X7_isGreen g fu x1 x2 x3 S h) rfl rfl dL_isGreen_7 (Nat.le_of_ble_eq_true rfl) ⟨rfl, rfl, Nat.le_of_ble_eq_true rfl, Nat.le_of_ble_eq_true rfl⟩ ⟨Nat.le_of_ble_eq_true rfl, Nat.le_of_ble_eq_true rfl⟩ (fun E hz => ?_) (fun v hz => ?_)
  · subst hz
    rcases hc3_cases hr with ⟨rfl, rfl⟩ | ⟨rfl, rfl⟩ | ⟨rfl, rfl⟩
    · refine w_catch (E := 3) (pre := []) (suf := [⟨0, 19, 26, 13⟩, ⟨0, 19, 30, 21⟩]) (x := ⟨0, 19, 22, 19⟩) (pc' := 22) h0 hK hE rfl (fun q hq => nomatch hq) rfl (by decide) vl_482 vl_293 rfl (fun q9 => ?_)
      refine l_astore (pc' := 24) (L' := [(5, .ref q9), (0, .ref (wA (wC g) 7 0)), (1, .int x1), (2, .int x2), (3, .int x3), (4, .ref qo)]) h0 dL_isGreen_22 (Nat.le_of_ble_eq_true rfl) rfl rfl ?_
      refine l_iconst (pc' := 25) h0 dL_isGreen_24 ki_1 rfl ?_
      exact w_iret h0 hE hA dL_isGreen_25 ⟨Nat.le_of_ble_eq_true rfl, Nat.le_of_ble_eq_true rfl⟩ rfl rfl rfl
    · refine w_catch (E := 1) (pre := [⟨0, 19, 22, 19⟩]) (suf := [⟨0, 19, 30, 21⟩]) (x := ⟨0, 19, 26, 13⟩) (pc' := 26) h0 hK hE rfl (fun q hq => by simp only [List.mem_cons, List.not_mem_nil, or_false] at hq; subst hq; exact ⟨by decide, "java/lang/IndexOutOfBoundsException", vl_482, by decide +kernel⟩) rfl (by decide) vl_451 vl_461 rfl (fun q9 => ?_)
      refine l_astore (pc' := 28) (L' := [(5, .ref q9), (0, .ref (wA (wC g) 7 0)), (1, .int x1), (2, .int x2), (3, .int x3), (4, .ref qo)]) h0 dL_isGreen_26 (Nat.le_of_ble_eq_true rfl) rfl rfl ?_
      refine l_iconst (pc' := 29) h0 dL_isGreen_28 ki_2 rfl ?_
      exact w_iret h0 hE hA dL_isGreen_29 ⟨Nat.le_of_ble_eq_true rfl, Nat.le_of_ble_eq_true rfl⟩ rfl rfl rfl
    · refine w_catch (E := 2) (pre := [⟨0, 19, 22, 19⟩, ⟨0, 19, 26, 13⟩]) (suf := []) (x := ⟨0, 19, 30, 21⟩) (pc' := 30) h0 hK hE rfl (fun q hq => by simp only [List.mem_cons, List.not_mem_nil, or_false] at hq; rcases hq with rfl | rfl <;> first | exact ⟨by decide, "java/lang/IndexOutOfBoundsException", vl_482, by decide +kernel⟩ | exact ⟨by decide, "java/lang/IllegalArgumentException", vl_451, by decide +kernel⟩) rfl (by decide) vl_483 vl_502 rfl (fun q9 => ?_)
      refine l_astore (pc' := 32) (L' := [(5, .ref q9), (0, .ref (wA (wC g) 7 0)), (1, .int x1), (2, .int x2), (3, .int x3), (4, .ref qo)]) h0 dL_isGreen_30 (Nat.le_of_ble_eq_true rfl) rfl rfl ?_
      refine l_iconst (pc' := 33) h0 dL_isGreen_32 ki_3 rfl ?_
      exact w_iret h0 hE hA dL_isGreen_33 ⟨Nat.le_of_ble_eq_true rfl, Nat.le_of_ble_eq_true rfl⟩ rfl rfl rfl
  · subst hz
    show LV X A 6 3 18 (hW g cJ qo S o) [(0, .ref (wA (wC g) 7 0)), (1, .int x1), (2, .int x2), (3, .int x3), (4, .ref qo)] 10 [.int v, .int 0, .ref qo]
    refine l_if_eq (pt := 17) (pf := 13) h0 dL_isGreen_10 rfl rfl (fun c => ?_) (fun c => ?_)
    · refine l_lconst (pc' := 18) (v := 0) h0 dL_isGreen_17 rfl rfl ?_
      refine w_last (pc' := 19) h0 hK hA dL_isGreen_18 rfl ?_
      refine l_goto (pc' := 34) h0 dL_isGreen_19 rfl ?_
      refine l_iconst (pc' := 35) h0 dL_isGreen_34 ki_0 rfl ?_
      exact w_iret h0 hE hA dL_isGreen_35 ⟨Nat.le_of_ble_eq_true rfl, Nat.le_of_ble_eq_true rfl⟩ (Option.some.inj hr) rfl (by rw [show ooZ (Sum.inr v) o = vp_updL o 0 (if v = 0 then 0 else 1) from rfl, if_pos c])
    · refine l_lconst (pc' := 14) (v := 1) h0 dL_isGreen_13 rfl rfl ?_
      refine l_goto (pc' := 18) h0 dL_isGreen_14 rfl ?_
      refine w_last (pc' := 19) h0 hK hA dL_isGreen_18 rfl ?_
      refine l_goto (pc' := 34) h0 dL_isGreen_19 rfl ?_
      refine l_iconst (pc' := 35) h0 dL_isGreen_34 ki_0 rfl ?_
      exact w_iret h0 hE hA dL_isGreen_35 ⟨Nat.le_of_ble_eq_true rfl, Nat.le_of_ble_eq_true rfl⟩ (Option.some.inj hr) rfl (by rw [show ooZ (Sum.inr v) o = vp_updL o 0 (if v = 0 then 0 else 1) from rfl, if_neg c])
abbrev rl_breaches : Room := { frames := 8, cells := 2, slots := 12, locals := 158 }
theorem cw_breaches (g : GC) (cJ : ClassId) (qo fu : Nat) (x1 : Int32) (S : Mem) (o : Nat → Int64) {z : (Nat ⊕ Int32)} {r : Int32} (h : fx_X7_breaches fu x1 S = some z) (hr : hc2 3 2 z = some r) : ctW yL_breaches cL_breaches 4 [(0, 9, 12, 19), (0, 9, 15, 21)] rl_breaches 2 12 g cJ qo [.ref (wA (wC g) 7 0), .int x1, .ref qo] S o r S (ooI z o) := by
  refine ctw_of (own := RL) (L := [(0, .ref (wA (wC g) 7 0)), (1, .int x1), (2, .ref qo)]) (by decide +kernel) rfl (Nat.le_of_ble_eq_true rfl) rfl (fun X A h0 hK hE hA => ?_)
  refine l_aload_n (pc' := 1) h0 2 dL_breaches_0 rfl rfl rfl ?_
  refine l_iconst (pc' := 2) h0 dL_breaches_1 ki_0 rfl ?_
  refine l_aload_n (pc' := 3) h0 0 dL_breaches_2 rfl rfl rfl ?_
  refine l_iload_n (pc' := 4) h0 1 dL_breaches_3 rfl rfl rfl ?_
  refine w_call (z := z) (ov := oI) (n := 1) vl_741 vl_742 vl_743 vl_744 v_60 ⟨by decide +kernel, by decide +kernel, by decide +kernel⟩ [.int x1] [.int 0, .ref qo] h0 hK hA (cx_X7_breaches g fu x1 S h) rfl rfl dL_breaches_4 (Nat.le_of_ble_eq_true rfl) ⟨rfl, rfl, Nat.le_of_ble_eq_true rfl, Nat.le_of_ble_eq_true rfl⟩ ⟨Nat.le_of_ble_eq_true rfl, Nat.le_of_ble_eq_true rfl⟩ (fun E hz => ?_) (fun v hz => ?_)
  · subst hz
    rcases hc2_cases hr with ⟨rfl, rfl⟩ | ⟨rfl, rfl⟩
    · refine w_catch (E := 3) (pre := []) (suf := [⟨0, 9, 15, 21⟩]) (x := ⟨0, 9, 12, 19⟩) (pc' := 12) h0 hK hE rfl (fun q hq => nomatch hq) rfl (by decide) vl_482 vl_293 rfl (fun q9 => ?_)
      refine l_astore_n (pc' := 13) (L' := [(3, .ref q9), (0, .ref (wA (wC g) 7 0)), (1, .int x1), (2, .ref qo)]) h0 dL_breaches_12 rfl (Nat.le_of_ble_eq_true rfl) rfl rfl ?_
      refine l_iconst (pc' := 14) h0 dL_breaches_13 ki_1 rfl ?_
      exact w_iret h0 hE hA dL_breaches_14 ⟨Nat.le_of_ble_eq_true rfl, Nat.le_of_ble_eq_true rfl⟩ rfl rfl rfl
    · refine w_catch (E := 2) (pre := [⟨0, 9, 12, 19⟩]) (suf := []) (x := ⟨0, 9, 15, 21⟩) (pc' := 15) h0 hK hE rfl (fun q hq => by simp only [List.mem_cons, List.not_mem_nil, or_false] at hq; subst hq; exact ⟨by decide, "java/lang/IndexOutOfBoundsException", vl_482, by decide +kernel⟩) rfl (by decide) vl_483 vl_502 rfl (fun q9 => ?_)
      refine l_astore_n (pc' := 16) (L' := [(3, .ref q9), (0, .ref (wA (wC g) 7 0)), (1, .int x1), (2, .ref qo)]) h0 dL_breaches_15 rfl (Nat.le_of_ble_eq_true rfl) rfl rfl ?_
      refine l_iconst (pc' := 17) h0 dL_breaches_16 ki_2 rfl ?_
      exact w_iret h0 hE hA dL_breaches_17 ⟨Nat.le_of_ble_eq_true rfl, Nat.le_of_ble_eq_true rfl⟩ rfl rfl rfl
  · subst hz
    show LV X A 4 2 12 (hW g cJ qo S o) [(0, .ref (wA (wC g) 7 0)), (1, .int x1), (2, .ref qo)] 7 [.int v, .int 0, .ref qo]
    refine l_i2l (pc' := 8) h0 dL_breaches_7 rfl ?_
    refine w_last (pc' := 9) h0 hK hA dL_breaches_8 rfl ?_
    refine l_goto (pc' := 18) h0 dL_breaches_9 rfl ?_
    refine l_iconst (pc' := 19) h0 dL_breaches_18 ki_0 rfl ?_
    exact w_iret h0 hE hA dL_breaches_19 ⟨Nat.le_of_ble_eq_true rfl, Nat.le_of_ble_eq_true rfl⟩ (Option.some.inj hr) rfl rfl
abbrev rl_band : Room := { frames := 8, cells := 1, slots := 6, locals := 137 }
theorem cw_band (g : GC) (cJ : ClassId) (qo fu : Nat) (x1 : Int32) (S : Mem) (o : Nat → Int64) {z : (Nat ⊕ Int32)} {S2 : Mem} {r : Int32} (h : fx_X7_band fu x1 S = some (z, S2)) (hr : hc1 2 z = some r) : ctW yL_band cL_band 4 [(0, 9, 12, 21)] rl_band 1 6 g cJ qo [.ref (wA (wC g) 7 0), .int x1, .ref qo] S o r S2 (ooI z o) := by
  refine ctw_of (own := RL) (L := [(0, .ref (wA (wC g) 7 0)), (1, .int x1), (2, .ref qo)]) (by decide +kernel) rfl (Nat.le_of_ble_eq_true rfl) rfl (fun X A h0 hK hE hA => ?_)
  refine l_aload_n (pc' := 1) h0 2 dL_band_0 rfl rfl rfl ?_
  refine l_iconst (pc' := 2) h0 dL_band_1 ki_0 rfl ?_
  refine l_aload_n (pc' := 3) h0 0 dL_band_2 rfl rfl rfl ?_
  refine l_iload_n (pc' := 4) h0 1 dL_band_3 rfl rfl rfl ?_
  refine w_call (z := z) (ov := oI) (n := 1) vl_761 vl_762 vl_763 vl_764 v_60 ⟨by decide +kernel, by decide +kernel, by decide +kernel⟩ [.int x1] [.int 0, .ref qo] h0 hK hA (cx_X7_band g fu x1 S h) rfl rfl dL_band_4 (Nat.le_of_ble_eq_true rfl) ⟨rfl, rfl, Nat.le_of_ble_eq_true rfl, Nat.le_of_ble_eq_true rfl⟩ ⟨Nat.le_of_ble_eq_true rfl, Nat.le_of_ble_eq_true rfl⟩ (fun E hz => ?_) (fun v hz => ?_)
  · subst hz
    rcases hc1_cases hr with ⟨rfl, rfl⟩
    · refine w_catch (E := 2) (pre := []) (suf := []) (x := ⟨0, 9, 12, 21⟩) (pc' := 12) h0 hK hE rfl (fun q hq => nomatch hq) rfl (by decide) vl_483 vl_502 rfl (fun q9 => ?_)
      refine l_astore_n (pc' := 13) (L' := [(3, .ref q9), (0, .ref (wA (wC g) 7 0)), (1, .int x1), (2, .ref qo)]) h0 dL_band_12 rfl (Nat.le_of_ble_eq_true rfl) rfl rfl ?_
      refine l_iconst (pc' := 14) h0 dL_band_13 ki_1 rfl ?_
      exact w_iret h0 hE hA dL_band_14 ⟨Nat.le_of_ble_eq_true rfl, Nat.le_of_ble_eq_true rfl⟩ rfl rfl rfl
  · subst hz
    show LV X A 4 1 6 (hW g cJ qo S2 o) [(0, .ref (wA (wC g) 7 0)), (1, .int x1), (2, .ref qo)] 7 [.int v, .int 0, .ref qo]
    refine l_i2l (pc' := 8) h0 dL_band_7 rfl ?_
    refine w_last (pc' := 9) h0 hK hA dL_band_8 rfl ?_
    refine l_goto (pc' := 15) h0 dL_band_9 rfl ?_
    refine l_iconst (pc' := 16) h0 dL_band_15 ki_0 rfl ?_
    exact w_iret h0 hE hA dL_band_16 ⟨Nat.le_of_ble_eq_true rfl, Nat.le_of_ble_eq_true rfl⟩ (Option.some.inj hr) rfl rfl
abbrev rl_bestByAll : Room := { frames := 8, cells := 2, slots := 12, locals := 133 }
theorem cw_bestByAll (g : GC) (cJ : ClassId) (qo fu : Nat)  (S : Mem) (o : Nat → Int64) {z : (Nat ⊕ Int32)} {S2 : Mem} {r : Int32} (h : fx_X7_bestByAll fu  S = some (z, S2)) (hr : hc1 2 z = some r) : ctW yL_bestByAll cL_bestByAll 3 [(0, 8, 11, 21)] rl_bestByAll 2 12 g cJ qo [.ref (wA (wC g) 7 0), .ref qo] S o r S2 (ooI z o) := by
  refine ctw_of (own := RL) (L := [(0, .ref (wA (wC g) 7 0)), (1, .ref qo)]) (by decide +kernel) rfl (Nat.le_of_ble_eq_true rfl) rfl (fun X A h0 hK hE hA => ?_)
  refine l_aload_n (pc' := 1) h0 1 dL_bestByAll_0 rfl rfl rfl ?_
  refine l_iconst (pc' := 2) h0 dL_bestByAll_1 ki_0 rfl ?_
  refine l_aload_n (pc' := 3) h0 0 dL_bestByAll_2 rfl rfl rfl ?_
  refine w_call (z := z) (ov := oI) (n := 0) vl_773 vl_774 vl_775 vl_776 v_60 ⟨by decide +kernel, by decide +kernel, by decide +kernel⟩ [] [.int 0, .ref qo] h0 hK hA (cx_X7_bestByAll g fu  S h) rfl rfl dL_bestByAll_3 (Nat.le_of_ble_eq_true rfl) ⟨rfl, rfl, Nat.le_of_ble_eq_true rfl, Nat.le_of_ble_eq_true rfl⟩ ⟨Nat.le_of_ble_eq_true rfl, Nat.le_of_ble_eq_true rfl⟩ (fun E hz => ?_) (fun v hz => ?_)
  · subst hz
    rcases hc1_cases hr with ⟨rfl, rfl⟩
    · refine w_catch (E := 2) (pre := []) (suf := []) (x := ⟨0, 8, 11, 21⟩) (pc' := 11) h0 hK hE rfl (fun q hq => nomatch hq) rfl (by decide) vl_483 vl_502 rfl (fun q9 => ?_)
      refine l_astore_n (pc' := 12) (L' := [(2, .ref q9), (0, .ref (wA (wC g) 7 0)), (1, .ref qo)]) h0 dL_bestByAll_11 rfl (Nat.le_of_ble_eq_true rfl) rfl rfl ?_
      refine l_iconst (pc' := 13) h0 dL_bestByAll_12 ki_1 rfl ?_
      exact w_iret h0 hE hA dL_bestByAll_13 ⟨Nat.le_of_ble_eq_true rfl, Nat.le_of_ble_eq_true rfl⟩ rfl rfl rfl
  · subst hz
    show LV X A 3 2 12 (hW g cJ qo S2 o) [(0, .ref (wA (wC g) 7 0)), (1, .ref qo)] 6 [.int v, .int 0, .ref qo]
    refine l_i2l (pc' := 7) h0 dL_bestByAll_6 rfl ?_
    refine w_last (pc' := 8) h0 hK hA dL_bestByAll_7 rfl ?_
    refine l_goto (pc' := 14) h0 dL_bestByAll_8 rfl ?_
    refine l_iconst (pc' := 15) h0 dL_bestByAll_14 ki_0 rfl ?_
    exact w_iret h0 hE hA dL_bestByAll_15 ⟨Nat.le_of_ble_eq_true rfl, Nat.le_of_ble_eq_true rfl⟩ (Option.some.inj hr) rfl rfl
abbrev rl_run : Room := { frames := 8, cells := 2, slots := 12, locals := 157 }
theorem cw_run (g : GC) (cJ : ClassId) (qo fu : Nat) (x1 : Int32) (S : Mem) (o : Nat → Int64) {z : (Nat ⊕ Int32)} {S2 : Mem} {r : Int32} (h : fx_X7_run fu x1 S = some (z, S2)) (hr : hc2 1 2 z = some r) : ctW yL_run cL_run 4 [(0, 9, 12, 13), (0, 9, 15, 21)] rl_run 2 12 g cJ qo [.ref (wA (wC g) 7 0), .int x1, .ref qo] S o r S2 (ooI z o) := by
  refine ctw_of (own := RL) (L := [(0, .ref (wA (wC g) 7 0)), (1, .int x1), (2, .ref qo)]) (by decide +kernel) rfl (Nat.le_of_ble_eq_true rfl) rfl (fun X A h0 hK hE hA => ?_)
  refine l_aload_n (pc' := 1) h0 2 dL_run_0 rfl rfl rfl ?_
  refine l_iconst (pc' := 2) h0 dL_run_1 ki_0 rfl ?_
  refine l_aload_n (pc' := 3) h0 0 dL_run_2 rfl rfl rfl ?_
  refine l_iload_n (pc' := 4) h0 1 dL_run_3 rfl rfl rfl ?_
  refine w_call (z := z) (ov := oI) (n := 1) vl_790 vl_791 vl_792 vl_793 v_60 ⟨by decide +kernel, by decide +kernel, by decide +kernel⟩ [.int x1] [.int 0, .ref qo] h0 hK hA (cx_X7_run g fu x1 S h) rfl rfl dL_run_4 (Nat.le_of_ble_eq_true rfl) ⟨rfl, rfl, Nat.le_of_ble_eq_true rfl, Nat.le_of_ble_eq_true rfl⟩ ⟨Nat.le_of_ble_eq_true rfl, Nat.le_of_ble_eq_true rfl⟩ (fun E hz => ?_) (fun v hz => ?_)
  · subst hz
    rcases hc2_cases hr with ⟨rfl, rfl⟩ | ⟨rfl, rfl⟩
    · refine w_catch (E := 1) (pre := []) (suf := [⟨0, 9, 15, 21⟩]) (x := ⟨0, 9, 12, 13⟩) (pc' := 12) h0 hK hE rfl (fun q hq => nomatch hq) rfl (by decide) vl_451 vl_461 rfl (fun q9 => ?_)
      refine l_astore_n (pc' := 13) (L' := [(3, .ref q9), (0, .ref (wA (wC g) 7 0)), (1, .int x1), (2, .ref qo)]) h0 dL_run_12 rfl (Nat.le_of_ble_eq_true rfl) rfl rfl ?_
      refine l_iconst (pc' := 14) h0 dL_run_13 ki_1 rfl ?_
      exact w_iret h0 hE hA dL_run_14 ⟨Nat.le_of_ble_eq_true rfl, Nat.le_of_ble_eq_true rfl⟩ rfl rfl rfl
    · refine w_catch (E := 2) (pre := [⟨0, 9, 12, 13⟩]) (suf := []) (x := ⟨0, 9, 15, 21⟩) (pc' := 15) h0 hK hE rfl (fun q hq => by simp only [List.mem_cons, List.not_mem_nil, or_false] at hq; subst hq; exact ⟨by decide, "java/lang/IllegalArgumentException", vl_451, by decide +kernel⟩) rfl (by decide) vl_483 vl_502 rfl (fun q9 => ?_)
      refine l_astore_n (pc' := 16) (L' := [(3, .ref q9), (0, .ref (wA (wC g) 7 0)), (1, .int x1), (2, .ref qo)]) h0 dL_run_15 rfl (Nat.le_of_ble_eq_true rfl) rfl rfl ?_
      refine l_iconst (pc' := 17) h0 dL_run_16 ki_2 rfl ?_
      exact w_iret h0 hE hA dL_run_17 ⟨Nat.le_of_ble_eq_true rfl, Nat.le_of_ble_eq_true rfl⟩ rfl rfl rfl
  · subst hz
    show LV X A 4 2 12 (hW g cJ qo S2 o) [(0, .ref (wA (wC g) 7 0)), (1, .int x1), (2, .ref qo)] 7 [.int v, .int 0, .ref qo]
    refine l_i2l (pc' := 8) h0 dL_run_7 rfl ?_
    refine w_last (pc' := 9) h0 hK hA dL_run_8 rfl ?_
    refine l_goto (pc' := 18) h0 dL_run_9 rfl ?_
    refine l_iconst (pc' := 19) h0 dL_run_18 ki_0 rfl ?_
    exact w_iret h0 hE hA dL_run_19 ⟨Nat.le_of_ble_eq_true rfl, Nat.le_of_ble_eq_true rfl⟩ (Option.some.inj hr) rfl rfl
abbrev rl_callBus : Room := { frames := 8, cells := 4, slots := 24, locals := 134 }
theorem cw_callBus (g : GC) (cJ : ClassId) (qo fu : Nat) (x1 : Int32) (x2 : Int32) (S : Mem) (o : Nat → Int64) {z : (Nat ⊕ Int32)} {S2 : Mem} {r : Int32} (h : fx_X7_callBus fu x1 x2 S = some (z, S2)) (hr : hc2 3 2 z = some r) : ctW yL_callBus cL_callBus 5 [(0, 10, 13, 19), (0, 10, 17, 21)] rl_callBus 4 24 g cJ qo [.ref (wA (wC g) 7 0), .int x1, .int x2, .ref qo] S o r S2 (ooI z o) := by
  refine ctw_of (own := RL) (L := [(0, .ref (wA (wC g) 7 0)), (1, .int x1), (2, .int x2), (3, .ref qo)]) (by decide +kernel) rfl (Nat.le_of_ble_eq_true rfl) rfl (fun X A h0 hK hE hA => ?_)
  refine l_aload_n (pc' := 1) h0 3 dL_callBus_0 rfl rfl rfl ?_
  refine l_iconst (pc' := 2) h0 dL_callBus_1 ki_0 rfl ?_
  refine l_aload_n (pc' := 3) h0 0 dL_callBus_2 rfl rfl rfl ?_
  refine l_iload_n (pc' := 4) h0 1 dL_callBus_3 rfl rfl rfl ?_
  refine l_iload_n (pc' := 5) h0 2 dL_callBus_4 rfl rfl rfl ?_
  refine w_call (z := z) (ov := oI) (n := 2) vl_862 vl_863 vl_864 vl_865 v_60 ⟨by decide +kernel, by decide +kernel, by decide +kernel⟩ [.int x1, .int x2] [.int 0, .ref qo] h0 hK hA (cx_X7_callBus g fu x1 x2 S h) rfl rfl dL_callBus_5 (Nat.le_of_ble_eq_true rfl) ⟨rfl, rfl, Nat.le_of_ble_eq_true rfl, Nat.le_of_ble_eq_true rfl⟩ ⟨Nat.le_of_ble_eq_true rfl, Nat.le_of_ble_eq_true rfl⟩ (fun E hz => ?_) (fun v hz => ?_)
  · subst hz
    rcases hc2_cases hr with ⟨rfl, rfl⟩ | ⟨rfl, rfl⟩
    · refine w_catch (E := 3) (pre := []) (suf := [⟨0, 10, 17, 21⟩]) (x := ⟨0, 10, 13, 19⟩) (pc' := 13) h0 hK hE rfl (fun q hq => nomatch hq) rfl (by decide) vl_482 vl_293 rfl (fun q9 => ?_)
      refine l_astore (pc' := 15) (L' := [(4, .ref q9), (0, .ref (wA (wC g) 7 0)), (1, .int x1), (2, .int x2), (3, .ref qo)]) h0 dL_callBus_13 (Nat.le_of_ble_eq_true rfl) rfl rfl ?_
      refine l_iconst (pc' := 16) h0 dL_callBus_15 ki_1 rfl ?_
      exact w_iret h0 hE hA dL_callBus_16 ⟨Nat.le_of_ble_eq_true rfl, Nat.le_of_ble_eq_true rfl⟩ rfl rfl rfl
    · refine w_catch (E := 2) (pre := [⟨0, 10, 13, 19⟩]) (suf := []) (x := ⟨0, 10, 17, 21⟩) (pc' := 17) h0 hK hE rfl (fun q hq => by simp only [List.mem_cons, List.not_mem_nil, or_false] at hq; subst hq; exact ⟨by decide, "java/lang/IndexOutOfBoundsException", vl_482, by decide +kernel⟩) rfl (by decide) vl_483 vl_502 rfl (fun q9 => ?_)
      refine l_astore (pc' := 19) (L' := [(4, .ref q9), (0, .ref (wA (wC g) 7 0)), (1, .int x1), (2, .int x2), (3, .ref qo)]) h0 dL_callBus_17 (Nat.le_of_ble_eq_true rfl) rfl rfl ?_
      refine l_iconst (pc' := 20) h0 dL_callBus_19 ki_2 rfl ?_
      exact w_iret h0 hE hA dL_callBus_20 ⟨Nat.le_of_ble_eq_true rfl, Nat.le_of_ble_eq_true rfl⟩ rfl rfl rfl
  · subst hz
    show LV X A 5 4 24 (hW g cJ qo S2 o) [(0, .ref (wA (wC g) 7 0)), (1, .int x1), (2, .int x2), (3, .ref qo)] 8 [.int v, .int 0, .ref qo]
    refine l_i2l (pc' := 9) h0 dL_callBus_8 rfl ?_
    refine w_last (pc' := 10) h0 hK hA dL_callBus_9 rfl ?_
    refine l_goto (pc' := 21) h0 dL_callBus_10 rfl ?_
    refine l_iconst (pc' := 22) h0 dL_callBus_21 ki_0 rfl ?_
    exact w_iret h0 hE hA dL_callBus_22 ⟨Nat.le_of_ble_eq_true rfl, Nat.le_of_ble_eq_true rfl⟩ (Option.some.inj hr) rfl rfl
abbrev rl_phaseNow : Room := { frames := 8, cells := 2, slots := 12, locals := 133 }
theorem cw_phaseNow (g : GC) (cJ : ClassId) (qo fu : Nat) (x1 : Int32) (S : Mem) (o : Nat → Int64) {z : (Nat ⊕ Int32)} {r : Int32} (h : fx_X7_phaseNow fu x1 S = some z) (hr : hc2 3 2 z = some r) : ctW yL_phaseNow cL_phaseNow 4 [(0, 9, 12, 19), (0, 9, 15, 21)] rl_phaseNow 2 12 g cJ qo [.ref (wA (wC g) 7 0), .int x1, .ref qo] S o r S (ooI z o) := by
  refine ctw_of (own := RL) (L := [(0, .ref (wA (wC g) 7 0)), (1, .int x1), (2, .ref qo)]) (by decide +kernel) rfl (Nat.le_of_ble_eq_true rfl) rfl (fun X A h0 hK hE hA => ?_)
  refine l_aload_n (pc' := 1) h0 2 dL_phaseNow_0 rfl rfl rfl ?_
  refine l_iconst (pc' := 2) h0 dL_phaseNow_1 ki_0 rfl ?_
  refine l_aload_n (pc' := 3) h0 0 dL_phaseNow_2 rfl rfl rfl ?_
  refine l_iload_n (pc' := 4) h0 1 dL_phaseNow_3 rfl rfl rfl ?_
  refine w_call (z := z) (ov := oI) (n := 1) vl_889 vl_890 vl_891 vl_892 v_60 ⟨by decide +kernel, by decide +kernel, by decide +kernel⟩ [.int x1] [.int 0, .ref qo] h0 hK hA (cx_X7_phaseNow g fu x1 S h) rfl rfl dL_phaseNow_4 (Nat.le_of_ble_eq_true rfl) ⟨rfl, rfl, Nat.le_of_ble_eq_true rfl, Nat.le_of_ble_eq_true rfl⟩ ⟨Nat.le_of_ble_eq_true rfl, Nat.le_of_ble_eq_true rfl⟩ (fun E hz => ?_) (fun v hz => ?_)
  · subst hz
    rcases hc2_cases hr with ⟨rfl, rfl⟩ | ⟨rfl, rfl⟩
    · refine w_catch (E := 3) (pre := []) (suf := [⟨0, 9, 15, 21⟩]) (x := ⟨0, 9, 12, 19⟩) (pc' := 12) h0 hK hE rfl (fun q hq => nomatch hq) rfl (by decide) vl_482 vl_293 rfl (fun q9 => ?_)
      refine l_astore_n (pc' := 13) (L' := [(3, .ref q9), (0, .ref (wA (wC g) 7 0)), (1, .int x1), (2, .ref qo)]) h0 dL_phaseNow_12 rfl (Nat.le_of_ble_eq_true rfl) rfl rfl ?_
      refine l_iconst (pc' := 14) h0 dL_phaseNow_13 ki_1 rfl ?_
      exact w_iret h0 hE hA dL_phaseNow_14 ⟨Nat.le_of_ble_eq_true rfl, Nat.le_of_ble_eq_true rfl⟩ rfl rfl rfl
    · refine w_catch (E := 2) (pre := [⟨0, 9, 12, 19⟩]) (suf := []) (x := ⟨0, 9, 15, 21⟩) (pc' := 15) h0 hK hE rfl (fun q hq => by simp only [List.mem_cons, List.not_mem_nil, or_false] at hq; subst hq; exact ⟨by decide, "java/lang/IndexOutOfBoundsException", vl_482, by decide +kernel⟩) rfl (by decide) vl_483 vl_502 rfl (fun q9 => ?_)
      refine l_astore_n (pc' := 16) (L' := [(3, .ref q9), (0, .ref (wA (wC g) 7 0)), (1, .int x1), (2, .ref qo)]) h0 dL_phaseNow_15 rfl (Nat.le_of_ble_eq_true rfl) rfl rfl ?_
      refine l_iconst (pc' := 17) h0 dL_phaseNow_16 ki_2 rfl ?_
      exact w_iret h0 hE hA dL_phaseNow_17 ⟨Nat.le_of_ble_eq_true rfl, Nat.le_of_ble_eq_true rfl⟩ rfl rfl rfl
  · subst hz
    show LV X A 4 2 12 (hW g cJ qo S o) [(0, .ref (wA (wC g) 7 0)), (1, .int x1), (2, .ref qo)] 7 [.int v, .int 0, .ref qo]
    refine l_i2l (pc' := 8) h0 dL_phaseNow_7 rfl ?_
    refine w_last (pc' := 9) h0 hK hA dL_phaseNow_8 rfl ?_
    refine l_goto (pc' := 18) h0 dL_phaseNow_9 rfl ?_
    refine l_iconst (pc' := 19) h0 dL_phaseNow_18 ki_0 rfl ?_
    exact w_iret h0 hE hA dL_phaseNow_19 ⟨Nat.le_of_ble_eq_true rfl, Nat.le_of_ble_eq_true rfl⟩ (Option.some.inj hr) rfl rfl
abbrev rl_queue : Room := { frames := 8, cells := 1, slots := 6, locals := 132 }
theorem cw_queue (g : GC) (cJ : ClassId) (qo fu : Nat) (x1 : Int32) (S : Mem) (o : Nat → Int64) {z : (Nat ⊕ Int32)} {r : Int32} (h : fx_X7_queue fu x1 S = some z) (hr : hc1 3 z = some r) : ctW yL_queue cL_queue 4 [(0, 9, 12, 19)] rl_queue 1 6 g cJ qo [.ref (wA (wC g) 7 0), .int x1, .ref qo] S o r S (ooI z o) := by
  refine ctw_of (own := RL) (L := [(0, .ref (wA (wC g) 7 0)), (1, .int x1), (2, .ref qo)]) (by decide +kernel) rfl (Nat.le_of_ble_eq_true rfl) rfl (fun X A h0 hK hE hA => ?_)
  refine l_aload_n (pc' := 1) h0 2 dL_queue_0 rfl rfl rfl ?_
  refine l_iconst (pc' := 2) h0 dL_queue_1 ki_0 rfl ?_
  refine l_aload_n (pc' := 3) h0 0 dL_queue_2 rfl rfl rfl ?_
  refine l_iload_n (pc' := 4) h0 1 dL_queue_3 rfl rfl rfl ?_
  refine w_call (z := z) (ov := oI) (n := 1) vl_897 vl_898 vl_899 vl_900 v_60 ⟨by decide +kernel, by decide +kernel, by decide +kernel⟩ [.int x1] [.int 0, .ref qo] h0 hK hA (cx_X7_queue g fu x1 S h) rfl rfl dL_queue_4 (Nat.le_of_ble_eq_true rfl) ⟨rfl, rfl, Nat.le_of_ble_eq_true rfl, Nat.le_of_ble_eq_true rfl⟩ ⟨Nat.le_of_ble_eq_true rfl, Nat.le_of_ble_eq_true rfl⟩ (fun E hz => ?_) (fun v hz => ?_)
  · subst hz
    rcases hc1_cases hr with ⟨rfl, rfl⟩
    · refine w_catch (E := 3) (pre := []) (suf := []) (x := ⟨0, 9, 12, 19⟩) (pc' := 12) h0 hK hE rfl (fun q hq => nomatch hq) rfl (by decide) vl_482 vl_293 rfl (fun q9 => ?_)
      refine l_astore_n (pc' := 13) (L' := [(3, .ref q9), (0, .ref (wA (wC g) 7 0)), (1, .int x1), (2, .ref qo)]) h0 dL_queue_12 rfl (Nat.le_of_ble_eq_true rfl) rfl rfl ?_
      refine l_iconst (pc' := 14) h0 dL_queue_13 ki_1 rfl ?_
      exact w_iret h0 hE hA dL_queue_14 ⟨Nat.le_of_ble_eq_true rfl, Nat.le_of_ble_eq_true rfl⟩ rfl rfl rfl
  · subst hz
    show LV X A 4 1 6 (hW g cJ qo S o) [(0, .ref (wA (wC g) 7 0)), (1, .int x1), (2, .ref qo)] 7 [.int v, .int 0, .ref qo]
    refine l_i2l (pc' := 8) h0 dL_queue_7 rfl ?_
    refine w_last (pc' := 9) h0 hK hA dL_queue_8 rfl ?_
    refine l_goto (pc' := 15) h0 dL_queue_9 rfl ?_
    refine l_iconst (pc' := 16) h0 dL_queue_15 ki_0 rfl ?_
    exact w_iret h0 hE hA dL_queue_16 ⟨Nat.le_of_ble_eq_true rfl, Nat.le_of_ble_eq_true rfl⟩ (Option.some.inj hr) rfl rfl
abbrev rl_held : Room := { frames := 10, cells := 3, slots := 18, locals := 175 }
theorem cw_held (g : GC) (cJ : ClassId) (qo fu : Nat) (x1 : Int32) (S : Mem) (o : Nat → Int64) {z : (Nat ⊕ Int32)} {r : Int32} (h : fx_X7_held fu x1 S = some z) (hr : hc1 3 z = some r) : ctW yL_held cL_held 4 [(0, 9, 12, 19)] rl_held 3 18 g cJ qo [.ref (wA (wC g) 7 0), .int x1, .ref qo] S o r S (ooI z o) := by
  refine ctw_of (own := RL) (L := [(0, .ref (wA (wC g) 7 0)), (1, .int x1), (2, .ref qo)]) (by decide +kernel) rfl (Nat.le_of_ble_eq_true rfl) rfl (fun X A h0 hK hE hA => ?_)
  refine l_aload_n (pc' := 1) h0 2 dL_held_0 rfl rfl rfl ?_
  refine l_iconst (pc' := 2) h0 dL_held_1 ki_0 rfl ?_
  refine l_aload_n (pc' := 3) h0 0 dL_held_2 rfl rfl rfl ?_
  refine l_iload_n (pc' := 4) h0 1 dL_held_3 rfl rfl rfl ?_
  refine w_call (z := z) (ov := oI) (n := 1) vl_904 vl_905 vl_906 vl_907 v_60 ⟨by decide +kernel, by decide +kernel, by decide +kernel⟩ [.int x1] [.int 0, .ref qo] h0 hK hA (cx_X7_held g fu x1 S h) rfl rfl dL_held_4 (Nat.le_of_ble_eq_true rfl) ⟨rfl, rfl, Nat.le_of_ble_eq_true rfl, Nat.le_of_ble_eq_true rfl⟩ ⟨Nat.le_of_ble_eq_true rfl, Nat.le_of_ble_eq_true rfl⟩ (fun E hz => ?_) (fun v hz => ?_)
  · subst hz
    rcases hc1_cases hr with ⟨rfl, rfl⟩
    · refine w_catch (E := 3) (pre := []) (suf := []) (x := ⟨0, 9, 12, 19⟩) (pc' := 12) h0 hK hE rfl (fun q hq => nomatch hq) rfl (by decide) vl_482 vl_293 rfl (fun q9 => ?_)
      refine l_astore_n (pc' := 13) (L' := [(3, .ref q9), (0, .ref (wA (wC g) 7 0)), (1, .int x1), (2, .ref qo)]) h0 dL_held_12 rfl (Nat.le_of_ble_eq_true rfl) rfl rfl ?_
      refine l_iconst (pc' := 14) h0 dL_held_13 ki_1 rfl ?_
      exact w_iret h0 hE hA dL_held_14 ⟨Nat.le_of_ble_eq_true rfl, Nat.le_of_ble_eq_true rfl⟩ rfl rfl rfl
  · subst hz
    show LV X A 4 3 18 (hW g cJ qo S o) [(0, .ref (wA (wC g) 7 0)), (1, .int x1), (2, .ref qo)] 7 [.int v, .int 0, .ref qo]
    refine l_i2l (pc' := 8) h0 dL_held_7 rfl ?_
    refine w_last (pc' := 9) h0 hK hA dL_held_8 rfl ?_
    refine l_goto (pc' := 15) h0 dL_held_9 rfl ?_
    refine l_iconst (pc' := 16) h0 dL_held_15 ki_0 rfl ?_
    exact w_iret h0 hE hA dL_held_16 ⟨Nat.le_of_ble_eq_true rfl, Nat.le_of_ble_eq_true rfl⟩ (Option.some.inj hr) rfl rfl
