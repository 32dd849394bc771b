theorem lc_hasPlan {X : MX} {g : GC} {g' : GR} {cJ : ClassId} {qo b Ln : Nat} {xs : Nat → Int32} {cn sn : Nat} {i : Int32} {S SR : Mem} {o : Nat → Int64} {fu : Nat} {R : Mem → Mem → Prop} (h0 : LX RL code 7 room_1 X) (hK : KL g g' cJ qo b Ln xs X) (hi : idxOK i Ln) (hcn : cn + 5 ≤ room_1.cells) (hsn : sn + 30 ≤ room_1.slots) (hS : Sim_hasPlan fu R) (hR : R S SR) (k9 : ∀ (S' SR' : Mem) (o' : Nat → Int64), R S' SR' → LV X (AL X) 7 (cn + 5) (sn + 30) (hL g g' cJ qo S' SR' o') (LB g g' qo b i) 1506 []) : LV X (AL X) 7 cn sn (hL g g' cJ qo S SR o) (LB g g' qo b i) 661 [] := by
  obtain ⟨hi0, hi1, hi2, hi3, hi4, hi5⟩ := hi
  obtain ⟨z, y, SR2, k, e1, e2, e3, e4, e5, e6⟩ := hS S SR (xs (i + 1).toNatClampNeg) hR
  refine l_aload_n (pc' := 662) h0 1 dw_661 rfl rfl rfl ?_
  refine l_aload_n (pc' := 663) h0 0 dw_662 rfl rfl rfl ?_
  refine l_iload (pc' := 665) h0 4 dw_663 rfl rfl ?_
  refine l_iconst (pc' := 666) h0 dw_665 ki_1 rfl ?_
  refine l_iadd (pc' := 667) h0 dw_666 rfl ?_
  refine s_ld (pc' := 668) h0 hK hi1 dw_667 rfl ?_
  refine l_aload_n (pc' := 669) h0 3 dw_668 rfl rfl rfl ?_
  refine l_callW (pc' := 672) (n := 3) h0 hK vm_687 vm_688 vm_59 vm_689 ⟨by decide +kernel, by decide +kernel, by decide +kernel⟩ [.ref (wA (wC g) 7 0), .int (xs (i + 1).toNatClampNeg), .ref qo] [] (cw_hasPlan g cJ qo fu (xs (i + 1).toNatClampNeg) S o e1 e2) rfl rfl dw_669 rfl (Nat.le_of_ble_eq_true rfl) ⟨rfl, rfl, Nat.le_of_ble_eq_true rfl, Nat.le_of_ble_eq_true rfl⟩ ⟨lcb hcn 1 (by decide), lcb hsn 6 (by decide)⟩ ?_
  refine l_istore (pc' := 674) (L' := [(5, .int k), (0, .ref b), (1, .ref (wA (wC g) 7 0)), (2, .ref (wA (wR g') 8 0)), (3, .ref qo), (4, .int i)]) h0 dw_672 (Nat.le_of_ble_eq_true rfl) rfl rfl ?_
  refine l_aload_n (pc' := 675) h0 3 dw_674 rfl rfl rfl ?_
  refine l_aload_n (pc' := 676) h0 1 dw_675 rfl rfl rfl ?_
  refine l_iload (pc' := 678) h0 5 dw_676 rfl rfl ?_
  refine l_iconst (pc' := 679) h0 dw_678 ki_1 rfl ?_
  refine l_iadd (pc' := 680) h0 dw_679 rfl ?_
  refine s_ld (pc' := 681) h0 hK hi1 dw_680 rfl ?_
  refine l_callM (pc' := 684) (n := 1) h0 hK vm_1126 vm_1127 vm_1128 vm_1129 vm_74 ⟨by decide +kernel, by decide +kernel, by decide +kernel⟩ [.int (xs (i + 1).toNatClampNeg)] [] (c_X8_hasPlan g' fu (xs (i + 1).toNatClampNeg) SR e3) rfl rfl dw_681 rfl (Nat.le_of_ble_eq_true rfl) ⟨rfl, rfl, Nat.le_of_ble_eq_true rfl, Nat.le_of_ble_eq_true rfl⟩ ⟨lcb hcn 1 (by decide), lcb hsn 6 (by decide)⟩ ?_
  refine l_istore (pc' := 686) (L' := [(6, .int y), (5, .int k), (0, .ref b), (1, .ref (wA (wC g) 7 0)), (2, .ref (wA (wR g') 8 0)), (3, .ref qo), (4, .int i)]) h0 dw_684 (Nat.le_of_ble_eq_true rfl) rfl rfl ?_
  refine l_aload_n (pc' := 687) h0 4 dw_686 rfl rfl rfl ?_
  refine l_callM (pc' := 690) (n := 0) h0 hK vm_1002 vm_1003 vm_1004 vm_1005 vm_74 ⟨by decide +kernel, by decide +kernel, by decide +kernel⟩ [] [] (c_X8_thrown g' fu SR2 rfl) rfl rfl dw_687 rfl (Nat.le_of_ble_eq_true rfl) ⟨rfl, rfl, Nat.le_of_ble_eq_true rfl, Nat.le_of_ble_eq_true rfl⟩ ⟨lcb hcn 1 (by decide), lcb hsn 6 (by decide)⟩ ?_
  refine l_iload (pc' := 692) h0 1 dw_690 rfl rfl ?_
  refine l_ic_eq (pt := 697) h0 dw_692 rfl e4 ?_
  refine l_iload (pc' := 699) h0 1 dw_697 rfl rfl ?_
  refine l_if_ne (pt := 721) (pf := 702) h0 dw_699 rfl rfl (fun _ => ?_) (fun c => ?_)
  · exact l_goto (pc' := 1506) h0 dw_721 rfl (l_widen (lcw cn 1 5 (by decide)) (lcw sn 6 30 (by decide)) (l_sub [2, 3, 4, 5, 6] rfl (k9 S SR2 _ e6)))
  · subst c
    obtain ⟨v, rfl⟩ := hc1_zero e2
    obtain rfl := e5 v rfl
    refine l_aload_n (pc' := 703) h0 5 dw_702 rfl rfl rfl ?_
    refine l_iconst (pc' := 704) h0 dw_703 ki_0 rfl ?_
    refine s_out (pc' := 705) h0 hK dw_704 rfl ?_
    refine l_iload (pc' := 707) h0 0 dw_705 rfl rfl ?_
    refine l_if_eq (pt := 714) (pf := 710) h0 dw_707 rfl rfl (fun c => ?_) (fun c => ?_)
    · refine l_lconst (pc' := 715) (v := 0) h0 dw_714 rfl rfl ?_
      refine l_lcmp (pc' := 716) h0 dw_715 rfl ?_
      refine t_eqT (pc' := 721) h0 dw_716 rfl (by rw [show ooZ (Sum.inr v) o 0 = (if v = 0 then 0 else 1) from rfl, if_pos c]; exact lg_self _) ?_
      exact l_goto (pc' := 1506) h0 dw_721 rfl (l_widen (lcw cn 1 5 (by decide)) (lcw sn 6 30 (by decide)) (l_sub [2, 3, 4, 5, 6] rfl (k9 S SR2 _ e6)))
    · refine l_lconst (pc' := 711) (v := 1) h0 dw_710 rfl rfl ?_
      refine l_goto (pc' := 715) h0 dw_711 rfl ?_
      refine l_lcmp (pc' := 716) h0 dw_715 rfl ?_
      refine t_eqT (pc' := 721) h0 dw_716 rfl (by rw [show ooZ (Sum.inr v) o 0 = (if v = 0 then 0 else 1) from rfl, if_neg c]; exact lg_self _) ?_
      exact l_goto (pc' := 1506) h0 dw_721 rfl (l_widen (lcw cn 1 5 (by decide)) (lcw sn 6 30 (by decide)) (l_sub [2, 3, 4, 5, 6] rfl (k9 S SR2 _ e6)))
theorem lc_green {X : MX} {g : GC} {g' : GR} {cJ : ClassId} {qo b Ln : Nat} {xs : Nat → Int32} {cn sn : Nat} {i : Int32} {S SR : Mem} {o : Nat → Int64} {fu : Nat} {R : Mem → Mem → Prop} (h0 : LX RL code 7 room_1 X) (hK : KL g g' cJ qo b Ln xs X) (hi : idxOK i Ln) (hcn : cn + 5 ≤ room_1.cells) (hsn : sn + 30 ≤ room_1.slots) (hS : Sim_green fu R) (hR : R S SR) (k9 : ∀ (S' SR' : Mem) (o' : Nat → Int64), R S' SR' → LV X (AL X) 7 (cn + 5) (sn + 30) (hL g g' cJ qo S' SR' o') (LB g g' qo b i) 1506 []) : LV X (AL X) 7 cn sn (hL g g' cJ qo S SR o) (LB g g' qo b i) 724 [] := by
  obtain ⟨hi0, hi1, hi2, hi3, hi4, hi5⟩ := hi
  obtain ⟨z, y, SR2, k, e1, e2, e3, e4, e5, e6⟩ := hS S SR (xs (i + 1).toNatClampNeg) (xs (i + 2).toNatClampNeg) hR
  refine l_aload_n (pc' := 725) h0 1 dw_724 rfl rfl rfl ?_
  refine l_aload_n (pc' := 726) h0 0 dw_725 rfl rfl rfl ?_
  refine l_iload (pc' := 728) h0 4 dw_726 rfl rfl ?_
  refine l_iconst (pc' := 729) h0 dw_728 ki_1 rfl ?_
  refine l_iadd (pc' := 730) h0 dw_729 rfl ?_
  refine s_ld (pc' := 731) h0 hK hi1 dw_730 rfl ?_
  refine l_aload_n (pc' := 732) h0 0 dw_731 rfl rfl rfl ?_
  refine l_iload (pc' := 734) h0 4 dw_732 rfl rfl ?_
  refine l_iconst (pc' := 735) h0 dw_734 ki_2 rfl ?_
  refine l_iadd (pc' := 736) h0 dw_735 rfl ?_
  refine s_ld (pc' := 737) h0 hK hi2 dw_736 rfl ?_
  refine l_aload_n (pc' := 738) h0 3 dw_737 rfl rfl rfl ?_
  refine l_callW (pc' := 741) (n := 4) h0 hK vm_694 vm_695 vm_59 vm_696 ⟨by decide +kernel, by decide +kernel, by decide +kernel⟩ [.ref (wA (wC g) 7 0), .int (xs (i + 1).toNatClampNeg), .int (xs (i + 2).toNatClampNeg), .ref qo] [] (cw_green g cJ qo fu (xs (i + 1).toNatClampNeg) (xs (i + 2).toNatClampNeg) S o e1 e2) rfl rfl dw_738 rfl (Nat.le_of_ble_eq_true rfl) ⟨rfl, rfl, Nat.le_of_ble_eq_true rfl, Nat.le_of_ble_eq_true rfl⟩ ⟨lcb hcn 3 (by decide), lcb hsn 18 (by decide)⟩ ?_
  refine l_istore (pc' := 743) (L' := [(5, .int k), (0, .ref b), (1, .ref (wA (wC g) 7 0)), (2, .ref (wA (wR g') 8 0)), (3, .ref qo), (4, .int i)]) h0 dw_741 (Nat.le_of_ble_eq_true rfl) rfl rfl ?_
  refine l_aload_n (pc' := 744) h0 3 dw_743 rfl rfl rfl ?_
  refine l_aload_n (pc' := 745) h0 1 dw_744 rfl rfl rfl ?_
  refine l_iload (pc' := 747) h0 5 dw_745 rfl rfl ?_
  refine l_iconst (pc' := 748) h0 dw_747 ki_1 rfl ?_
  refine l_iadd (pc' := 749) h0 dw_748 rfl ?_
  refine s_ld (pc' := 750) h0 hK hi1 dw_749 rfl ?_
  refine l_aload_n (pc' := 751) h0 1 dw_750 rfl rfl rfl ?_
  refine l_iload (pc' := 753) h0 5 dw_751 rfl rfl ?_
  refine l_iconst (pc' := 754) h0 dw_753 ki_2 rfl ?_
  refine l_iadd (pc' := 755) h0 dw_754 rfl ?_
  refine s_ld (pc' := 756) h0 hK hi2 dw_755 rfl ?_
  refine l_callM (pc' := 759) (n := 2) h0 hK vm_1134 vm_1135 vm_1136 vm_1137 vm_74 ⟨by decide +kernel, by decide +kernel, by decide +kernel⟩ [.int (xs (i + 1).toNatClampNeg), .int (xs (i + 2).toNatClampNeg)] [] (c_X8_green g' fu (xs (i + 1).toNatClampNeg) (xs (i + 2).toNatClampNeg) SR e3) rfl rfl dw_756 rfl (Nat.le_of_ble_eq_true rfl) ⟨rfl, rfl, Nat.le_of_ble_eq_true rfl, Nat.le_of_ble_eq_true rfl⟩ ⟨lcb hcn 3 (by decide), lcb hsn 18 (by decide)⟩ ?_
  refine l_istore (pc' := 761) (L' := [(6, .int y), (5, .int k), (0, .ref b), (1, .ref (wA (wC g) 7 0)), (2, .ref (wA (wR g') 8 0)), (3, .ref qo), (4, .int i)]) h0 dw_759 (Nat.le_of_ble_eq_true rfl) rfl rfl ?_
  refine l_aload_n (pc' := 762) h0 4 dw_761 rfl rfl rfl ?_
  refine l_callM (pc' := 765) (n := 0) h0 hK vm_1002 vm_1003 vm_1004 vm_1005 vm_74 ⟨by decide +kernel, by decide +kernel, by decide +kernel⟩ [] [] (c_X8_thrown g' fu SR2 rfl) rfl rfl dw_762 rfl (Nat.le_of_ble_eq_true rfl) ⟨rfl, rfl, Nat.le_of_ble_eq_true rfl, Nat.le_of_ble_eq_true rfl⟩ ⟨lcb hcn 3 (by decide), lcb hsn 18 (by decide)⟩ ?_
  refine l_iload (pc' := 767) h0 1 dw_765 rfl rfl ?_
  refine l_ic_eq (pt := 772) h0 dw_767 rfl e4 ?_
  refine l_iload (pc' := 774) h0 1 dw_772 rfl rfl ?_
  refine l_if_ne (pt := 789) (pf := 777) h0 dw_774 rfl rfl (fun _ => ?_) (fun c => ?_)
  · exact l_goto (pc' := 1506) h0 dw_789 rfl (l_widen (lcw cn 3 5 (by decide)) (lcw sn 18 30 (by decide)) (l_sub [2, 3, 4, 5, 6] rfl (k9 S SR2 _ e6)))
  · subst c
    obtain ⟨v, rfl⟩ := hc2_zero e2
    obtain rfl := e5 v rfl
    refine l_aload_n (pc' := 778) h0 5 dw_777 rfl rfl rfl ?_
    refine l_iconst (pc' := 779) h0 dw_778 ki_0 rfl ?_
    refine s_out (pc' := 780) h0 hK dw_779 rfl ?_
    refine l_iload (pc' := 782) h0 0 dw_780 rfl rfl ?_
    refine l_i2l (pc' := 783) h0 dw_782 rfl ?_
    refine l_lcmp (pc' := 784) h0 dw_783 rfl ?_
    refine t_eqT (pc' := 789) h0 dw_784 rfl (by exact lg_self _) ?_
    exact l_goto (pc' := 1506) h0 dw_789 rfl (l_widen (lcw cn 3 5 (by decide)) (lcw sn 18 30 (by decide)) (l_sub [2, 3, 4, 5, 6] rfl (k9 S SR2 _ e6)))
theorem lc_clearing {X : MX} {g : GC} {g' : GR} {cJ : ClassId} {qo b Ln : Nat} {xs : Nat → Int32} {cn sn : Nat} {i : Int32} {S SR : Mem} {o : Nat → Int64} {fu : Nat} {R : Mem → Mem → Prop} (h0 : LX RL code 7 room_1 X) (hK : KL g g' cJ qo b Ln xs X) (hi : idxOK i Ln) (hcn : cn + 5 ≤ room_1.cells) (hsn : sn + 30 ≤ room_1.slots) (hS : Sim_clearing fu R) (hR : R S SR) (k9 : ∀ (S' SR' : Mem) (o' : Nat → Int64), R S' SR' → LV X (AL X) 7 (cn + 5) (sn + 30) (hL g g' cJ qo S' SR' o') (LB g g' qo b i) 1506 []) : LV X (AL X) 7 cn sn (hL g g' cJ qo S SR o) (LB g g' qo b i) 792 [] := by
  obtain ⟨hi0, hi1, hi2, hi3, hi4, hi5⟩ := hi
  obtain ⟨z, y, SR2, k, e1, e2, e3, e4, e5, e6⟩ := hS S SR (xs (i + 1).toNatClampNeg) (xs (i + 2).toNatClampNeg) hR
  refine l_aload_n (pc' := 793) h0 1 dw_792 rfl rfl rfl ?_
  refine l_aload_n (pc' := 794) h0 0 dw_793 rfl rfl rfl ?_
  refine l_iload (pc' := 796) h0 4 dw_794 rfl rfl ?_
  refine l_iconst (pc' := 797) h0 dw_796 ki_1 rfl ?_
  refine l_iadd (pc' := 798) h0 dw_797 rfl ?_
  refine s_ld (pc' := 799) h0 hK hi1 dw_798 rfl ?_
  refine l_aload_n (pc' := 800) h0 0 dw_799 rfl rfl rfl ?_
  refine l_iload (pc' := 802) h0 4 dw_800 rfl rfl ?_
  refine l_iconst (pc' := 803) h0 dw_802 ki_2 rfl ?_
  refine l_iadd (pc' := 804) h0 dw_803 rfl ?_
  refine s_ld (pc' := 805) h0 hK hi2 dw_804 rfl ?_
  refine l_aload_n (pc' := 806) h0 3 dw_805 rfl rfl rfl ?_
  refine l_callW (pc' := 809) (n := 4) h0 hK vm_710 vm_711 vm_59 vm_712 ⟨by decide +kernel, by decide +kernel, by decide +kernel⟩ [.ref (wA (wC g) 7 0), .int (xs (i + 1).toNatClampNeg), .int (xs (i + 2).toNatClampNeg), .ref qo] [] (cw_clearing g cJ qo fu (xs (i + 1).toNatClampNeg) (xs (i + 2).toNatClampNeg) S o e1 e2) rfl rfl dw_806 rfl (Nat.le_of_ble_eq_true rfl) ⟨rfl, rfl, Nat.le_of_ble_eq_true rfl, Nat.le_of_ble_eq_true rfl⟩ ⟨lcb hcn 2 (by decide), lcb hsn 12 (by decide)⟩ ?_
  refine l_istore (pc' := 811) (L' := [(5, .int k), (0, .ref b), (1, .ref (wA (wC g) 7 0)), (2, .ref (wA (wR g') 8 0)), (3, .ref qo), (4, .int i)]) h0 dw_809 (Nat.le_of_ble_eq_true rfl) rfl rfl ?_
  refine l_aload_n (pc' := 812) h0 3 dw_811 rfl rfl rfl ?_
  refine l_aload_n (pc' := 813) h0 1 dw_812 rfl rfl rfl ?_
  refine l_iload (pc' := 815) h0 5 dw_813 rfl rfl ?_
  refine l_iconst (pc' := 816) h0 dw_815 ki_1 rfl ?_
  refine l_iadd (pc' := 817) h0 dw_816 rfl ?_
  refine s_ld (pc' := 818) h0 hK hi1 dw_817 rfl ?_
  refine l_aload_n (pc' := 819) h0 1 dw_818 rfl rfl rfl ?_
  refine l_iload (pc' := 821) h0 5 dw_819 rfl rfl ?_
  refine l_iconst (pc' := 822) h0 dw_821 ki_2 rfl ?_
  refine l_iadd (pc' := 823) h0 dw_822 rfl ?_
  refine s_ld (pc' := 824) h0 hK hi2 dw_823 rfl ?_
  refine l_callM (pc' := 827) (n := 2) h0 hK vm_1142 vm_1143 vm_1144 vm_1145 vm_74 ⟨by decide +kernel, by decide +kernel, by decide +kernel⟩ [.int (xs (i + 1).toNatClampNeg), .int (xs (i + 2).toNatClampNeg)] [] (c_X8_clearing g' fu (xs (i + 1).toNatClampNeg) (xs (i + 2).toNatClampNeg) SR e3) rfl rfl dw_824 rfl (Nat.le_of_ble_eq_true rfl) ⟨rfl, rfl, Nat.le_of_ble_eq_true rfl, Nat.le_of_ble_eq_true rfl⟩ ⟨lcb hcn 2 (by decide), lcb hsn 12 (by decide)⟩ ?_
  refine l_istore (pc' := 829) (L' := [(6, .int y), (5, .int k), (0, .ref b), (1, .ref (wA (wC g) 7 0)), (2, .ref (wA (wR g') 8 0)), (3, .ref qo), (4, .int i)]) h0 dw_827 (Nat.le_of_ble_eq_true rfl) rfl rfl ?_
  refine l_aload_n (pc' := 830) h0 4 dw_829 rfl rfl rfl ?_
  refine l_callM (pc' := 833) (n := 0) h0 hK vm_1002 vm_1003 vm_1004 vm_1005 vm_74 ⟨by decide +kernel, by decide +kernel, by decide +kernel⟩ [] [] (c_X8_thrown g' fu SR2 rfl) rfl rfl dw_830 rfl (Nat.le_of_ble_eq_true rfl) ⟨rfl, rfl, Nat.le_of_ble_eq_true rfl, Nat.le_of_ble_eq_true rfl⟩ ⟨lcb hcn 2 (by decide), lcb hsn 12 (by decide)⟩ ?_
  refine l_iload (pc' := 835) h0 1 dw_833 rfl rfl ?_
  refine l_ic_eq (pt := 840) h0 dw_835 rfl e4 ?_
  refine l_iload (pc' := 842) h0 1 dw_840 rfl rfl ?_
  refine l_if_ne (pt := 857) (pf := 845) h0 dw_842 rfl rfl (fun _ => ?_) (fun c => ?_)
  · exact l_goto (pc' := 1506) h0 dw_857 rfl (l_widen (lcw cn 2 5 (by decide)) (lcw sn 12 30 (by decide)) (l_sub [2, 3, 4, 5, 6] rfl (k9 S SR2 _ e6)))
  · subst c
    obtain ⟨v, rfl⟩ := hc1_zero e2
    obtain rfl := e5 v rfl
    refine l_aload_n (pc' := 846) h0 5 dw_845 rfl rfl rfl ?_
    refine l_iconst (pc' := 847) h0 dw_846 ki_0 rfl ?_
    refine s_out (pc' := 848) h0 hK dw_847 rfl ?_
    refine l_iload (pc' := 850) h0 0 dw_848 rfl rfl ?_
    refine l_i2l (pc' := 851) h0 dw_850 rfl ?_
    refine l_lcmp (pc' := 852) h0 dw_851 rfl ?_
    refine t_eqT (pc' := 857) h0 dw_852 rfl (by exact lg_self _) ?_
    exact l_goto (pc' := 1506) h0 dw_857 rfl (l_widen (lcw cn 2 5 (by decide)) (lcw sn 12 30 (by decide)) (l_sub [2, 3, 4, 5, 6] rfl (k9 S SR2 _ e6)))
theorem lc_offset {X : MX} {g : GC} {g' : GR} {cJ : ClassId} {qo b Ln : Nat} {xs : Nat → Int32} {cn sn : Nat} {i : Int32} {S SR : Mem} {o : Nat → Int64} {fu : Nat} {R : Mem → Mem → Prop} (h0 : LX RL code 7 room_1 X) (hK : KL g g' cJ qo b Ln xs X) (hi : idxOK i Ln) (hcn : cn + 5 ≤ room_1.cells) (hsn : sn + 30 ≤ room_1.slots) (hS : Sim_offset fu R) (hR : R S SR) (k9 : ∀ (S' SR' : Mem) (o' : Nat → Int64), R S' SR' → LV X (AL X) 7 (cn + 5) (sn + 30) (hL g g' cJ qo S' SR' o') (LB g g' qo b i) 1506 []) : LV X (AL X) 7 cn sn (hL g g' cJ qo S SR o) (LB g g' qo b i) 860 [] := by
  obtain ⟨hi0, hi1, hi2, hi3, hi4, hi5⟩ := hi
  obtain ⟨z, y, SR2, k, e1, e2, e3, e4, e5, e6⟩ := hS S SR (xs (i + 1).toNatClampNeg) hR
  refine l_aload_n (pc' := 861) h0 1 dw_860 rfl rfl rfl ?_
  refine l_aload_n (pc' := 862) h0 0 dw_861 rfl rfl rfl ?_
  refine l_iload (pc' := 864) h0 4 dw_862 rfl rfl ?_
  refine l_iconst (pc' := 865) h0 dw_864 ki_1 rfl ?_
  refine l_iadd (pc' := 866) h0 dw_865 rfl ?_
  refine s_ld (pc' := 867) h0 hK hi1 dw_866 rfl ?_
  refine l_aload_n (pc' := 868) h0 3 dw_867 rfl rfl rfl ?_
  refine l_callW (pc' := 871) (n := 3) h0 hK vm_717 vm_718 vm_59 vm_719 ⟨by decide +kernel, by decide +kernel, by decide +kernel⟩ [.ref (wA (wC g) 7 0), .int (xs (i + 1).toNatClampNeg), .ref qo] [] (cw_offset g cJ qo fu (xs (i + 1).toNatClampNeg) S o e1 e2) rfl rfl dw_868 rfl (Nat.le_of_ble_eq_true rfl) ⟨rfl, rfl, Nat.le_of_ble_eq_true rfl, Nat.le_of_ble_eq_true rfl⟩ ⟨lcb hcn 1 (by decide), lcb hsn 6 (by decide)⟩ ?_
  refine l_istore (pc' := 873) (L' := [(5, .int k), (0, .ref b), (1, .ref (wA (wC g) 7 0)), (2, .ref (wA (wR g') 8 0)), (3, .ref qo), (4, .int i)]) h0 dw_871 (Nat.le_of_ble_eq_true rfl) rfl rfl ?_
  refine l_aload_n (pc' := 874) h0 3 dw_873 rfl rfl rfl ?_
  refine l_aload_n (pc' := 875) h0 1 dw_874 rfl rfl rfl ?_
  refine l_iload (pc' := 877) h0 5 dw_875 rfl rfl ?_
  refine l_iconst (pc' := 878) h0 dw_877 ki_1 rfl ?_
  refine l_iadd (pc' := 879) h0 dw_878 rfl ?_
  refine s_ld (pc' := 880) h0 hK hi1 dw_879 rfl ?_
  refine l_callM (pc' := 883) (n := 1) h0 hK vm_1146 vm_1147 vm_1148 vm_1149 vm_74 ⟨by decide +kernel, by decide +kernel, by decide +kernel⟩ [.int (xs (i + 1).toNatClampNeg)] [] (c_X8_offset g' fu (xs (i + 1).toNatClampNeg) SR e3) rfl rfl dw_880 rfl (Nat.le_of_ble_eq_true rfl) ⟨rfl, rfl, Nat.le_of_ble_eq_true rfl, Nat.le_of_ble_eq_true rfl⟩ ⟨lcb hcn 1 (by decide), lcb hsn 6 (by decide)⟩ ?_
  refine l_istore (pc' := 885) (L' := [(6, .int y), (5, .int k), (0, .ref b), (1, .ref (wA (wC g) 7 0)), (2, .ref (wA (wR g') 8 0)), (3, .ref qo), (4, .int i)]) h0 dw_883 (Nat.le_of_ble_eq_true rfl) rfl rfl ?_
  refine l_aload_n (pc' := 886) h0 4 dw_885 rfl rfl rfl ?_
  refine l_callM (pc' := 889) (n := 0) h0 hK vm_1002 vm_1003 vm_1004 vm_1005 vm_74 ⟨by decide +kernel, by decide +kernel, by decide +kernel⟩ [] [] (c_X8_thrown g' fu SR2 rfl) rfl rfl dw_886 rfl (Nat.le_of_ble_eq_true rfl) ⟨rfl, rfl, Nat.le_of_ble_eq_true rfl, Nat.le_of_ble_eq_true rfl⟩ ⟨lcb hcn 1 (by decide), lcb hsn 6 (by decide)⟩ ?_
  refine l_iload (pc' := 891) h0 1 dw_889 rfl rfl ?_
  refine l_ic_eq (pt := 896) h0 dw_891 rfl e4 ?_
  refine l_iload (pc' := 898) h0 1 dw_896 rfl rfl ?_
  refine l_if_ne (pt := 913) (pf := 901) h0 dw_898 rfl rfl (fun _ => ?_) (fun c => ?_)
  · exact l_goto (pc' := 1506) h0 dw_913 rfl (l_widen (lcw cn 1 5 (by decide)) (lcw sn 6 30 (by decide)) (l_sub [2, 3, 4, 5, 6] rfl (k9 S SR2 _ e6)))
  · subst c
    obtain ⟨v, rfl⟩ := hc1_zero e2
    obtain rfl := e5 v rfl
    refine l_aload_n (pc' := 902) h0 5 dw_901 rfl rfl rfl ?_
    refine l_iconst (pc' := 903) h0 dw_902 ki_0 rfl ?_
    refine s_out (pc' := 904) h0 hK dw_903 rfl ?_
    refine l_iload (pc' := 906) h0 0 dw_904 rfl rfl ?_
    refine l_i2l (pc' := 907) h0 dw_906 rfl ?_
    refine l_lcmp (pc' := 908) h0 dw_907 rfl ?_
    refine t_eqT (pc' := 913) h0 dw_908 rfl (by exact lg_self _) ?_
    exact l_goto (pc' := 1506) h0 dw_913 rfl (l_widen (lcw cn 1 5 (by decide)) (lcw sn 6 30 (by decide)) (l_sub [2, 3, 4, 5, 6] rfl (k9 S SR2 _ e6)))
theorem lc_isGreen {X : MX} {g : GC} {g' : GR} {cJ : ClassId} {qo b Ln : Nat} {xs : Nat → Int32} {cn sn : Nat} {i : Int32} {S SR : Mem} {o : Nat → Int64} {fu : Nat} {R : Mem → Mem → Prop} (h0 : LX RL code 7 room_1 X) (hK : KL g g' cJ qo b Ln xs X) (hi : idxOK i Ln) (hcn : cn + 5 ≤ room_1.cells) (hsn : sn + 30 ≤ room_1.slots) (hS : Sim_isGreen fu R) (hR : R S SR) (k9 : ∀ (S' SR' : Mem) (o' : Nat → Int64), R S' SR' → LV X (AL X) 7 (cn + 5) (sn + 30) (hL g g' cJ qo S' SR' o') (LB g g' qo b i) 1506 []) : LV X (AL X) 7 cn sn (hL g g' cJ qo S SR o) (LB g g' qo b i) 916 [] := by
  obtain ⟨hi0, hi1, hi2, hi3, hi4, hi5⟩ := hi
  obtain ⟨z, y, SR2, k, e1, e2, e3, e4, e5, e6⟩ := hS S SR (xs (i + 1).toNatClampNeg) (xs (i + 2).toNatClampNeg) (xs (i + 3).toNatClampNeg) hR
  refine l_aload_n (pc' := 917) h0 1 dw_916 rfl rfl rfl ?_
  refine l_aload_n (pc' := 918) h0 0 dw_917 rfl rfl rfl ?_
  refine l_iload (pc' := 920) h0 4 dw_918 rfl rfl ?_
  refine l_iconst (pc' := 921) h0 dw_920 ki_1 rfl ?_
  refine l_iadd (pc' := 922) h0 dw_921 rfl ?_
  refine s_ld (pc' := 923) h0 hK hi1 dw_922 rfl ?_
  refine l_aload_n (pc' := 924) h0 0 dw_923 rfl rfl rfl ?_
  refine l_iload (pc' := 926) h0 4 dw_924 rfl rfl ?_
  refine l_iconst (pc' := 927) h0 dw_926 ki_2 rfl ?_
  refine l_iadd (pc' := 928) h0 dw_927 rfl ?_
  refine s_ld (pc' := 929) h0 hK hi2 dw_928 rfl ?_
  refine l_aload_n (pc' := 930) h0 0 dw_929 rfl rfl rfl ?_
  refine l_iload (pc' := 932) h0 4 dw_930 rfl rfl ?_
  refine l_iconst (pc' := 933) h0 dw_932 ki_3 rfl ?_
  refine l_iadd (pc' := 934) h0 dw_933 rfl ?_
  refine s_ld (pc' := 935) h0 hK hi3 dw_934 rfl ?_
  refine l_aload_n (pc' := 936) h0 3 dw_935 rfl rfl rfl ?_
  refine l_callW (pc' := 939) (n := 5) h0 hK vm_724 vm_725 vm_59 vm_726 ⟨by decide +kernel, by decide +kernel, by decide +kernel⟩ [.ref (wA (wC g) 7 0), .int (xs (i + 1).toNatClampNeg), .int (xs (i + 2).toNatClampNeg), .int (xs (i + 3).toNatClampNeg), .ref qo] [] (cw_isGreen g cJ qo fu (xs (i + 1).toNatClampNeg) (xs (i + 2).toNatClampNeg) (xs (i + 3).toNatClampNeg) S o e1 e2) rfl rfl dw_936 rfl (Nat.le_of_ble_eq_true rfl) ⟨rfl, rfl, Nat.le_of_ble_eq_true rfl, Nat.le_of_ble_eq_true rfl⟩ ⟨lcb hcn 3 (by decide), lcb hsn 18 (by decide)⟩ ?_
  refine l_istore (pc' := 941) (L' := [(5, .int k), (0, .ref b), (1, .ref (wA (wC g) 7 0)), (2, .ref (wA (wR g') 8 0)), (3, .ref qo), (4, .int i)]) h0 dw_939 (Nat.le_of_ble_eq_true rfl) rfl rfl ?_
  refine l_aload_n (pc' := 942) h0 3 dw_941 rfl rfl rfl ?_
  refine l_aload_n (pc' := 943) h0 1 dw_942 rfl rfl rfl ?_
  refine l_iload (pc' := 945) h0 5 dw_943 rfl rfl ?_
  refine l_iconst (pc' := 946) h0 dw_945 ki_1 rfl ?_
  refine l_iadd (pc' := 947) h0 dw_946 rfl ?_
  refine s_ld (pc' := 948) h0 hK hi1 dw_947 rfl ?_
  refine l_aload_n (pc' := 949) h0 1 dw_948 rfl rfl rfl ?_
  refine l_iload (pc' := 951) h0 5 dw_949 rfl rfl ?_
  refine l_iconst (pc' := 952) h0 dw_951 ki_2 rfl ?_
  refine l_iadd (pc' := 953) h0 dw_952 rfl ?_
  refine s_ld (pc' := 954) h0 hK hi2 dw_953 rfl ?_
  refine l_aload_n (pc' := 955) h0 1 dw_954 rfl rfl rfl ?_
  refine l_iload (pc' := 957) h0 5 dw_955 rfl rfl ?_
  refine l_iconst (pc' := 958) h0 dw_957 ki_3 rfl ?_
  refine l_iadd (pc' := 959) h0 dw_958 rfl ?_
  refine s_ld (pc' := 960) h0 hK hi3 dw_959 rfl ?_
  refine l_callM (pc' := 963) (n := 3) h0 hK vm_1150 vm_1151 vm_1152 vm_1153 vm_74 ⟨by decide +kernel, by decide +kernel, by decide +kernel⟩ [.int (xs (i + 1).toNatClampNeg), .int (xs (i + 2).toNatClampNeg), .int (xs (i + 3).toNatClampNeg)] [] (c_X8_isGreen g' fu (xs (i + 1).toNatClampNeg) (xs (i + 2).toNatClampNeg) (xs (i + 3).toNatClampNeg) SR e3) rfl rfl dw_960 rfl (Nat.le_of_ble_eq_true rfl) ⟨rfl, rfl, Nat.le_of_ble_eq_true rfl, Nat.le_of_ble_eq_true rfl⟩ ⟨lcb hcn 3 (by decide), lcb hsn 18 (by decide)⟩ ?_
  refine l_istore (pc' := 965) (L' := [(6, .int y), (5, .int k), (0, .ref b), (1, .ref (wA (wC g) 7 0)), (2, .ref (wA (wR g') 8 0)), (3, .ref qo), (4, .int i)]) h0 dw_963 (Nat.le_of_ble_eq_true rfl) rfl rfl ?_
  refine l_aload_n (pc' := 966) h0 4 dw_965 rfl rfl rfl ?_
  refine l_callM (pc' := 969) (n := 0) h0 hK vm_1002 vm_1003 vm_1004 vm_1005 vm_74 ⟨by decide +kernel, by decide +kernel, by decide +kernel⟩ [] [] (c_X8_thrown g' fu SR2 rfl) rfl rfl dw_966 rfl (Nat.le_of_ble_eq_true rfl) ⟨rfl, rfl, Nat.le_of_ble_eq_true rfl, Nat.le_of_ble_eq_true rfl⟩ ⟨lcb hcn 3 (by decide), lcb hsn 18 (by decide)⟩ ?_
  refine l_iload (pc' := 971) h0 1 dw_969 rfl rfl ?_
  refine l_ic_eq (pt := 976) h0 dw_971 rfl e4 ?_
  refine l_iload (pc' := 978) h0 1 dw_976 rfl rfl ?_
  refine l_if_ne (pt := 1000) (pf := 981) h0 dw_978 rfl rfl (fun _ => ?_) (fun c => ?_)
  · exact l_goto (pc' := 1506) h0 dw_1000 rfl (l_widen (lcw cn 3 5 (by decide)) (lcw sn 18 30 (by decide)) (l_sub [2, 3, 4, 5, 6] rfl (k9 S SR2 _ e6)))
  · subst c
    obtain ⟨v, rfl⟩ := hc3_zero e2
    obtain rfl := e5 v rfl
    refine l_aload_n (pc' := 982) h0 5 dw_981 rfl rfl rfl ?_
    refine l_iconst (pc' := 983) h0 dw_982 ki_0 rfl ?_
    refine s_out (pc' := 984) h0 hK dw_983 rfl ?_
    refine l_iload (pc' := 986) h0 0 dw_984 rfl rfl ?_
    refine l_if_eq (pt := 993) (pf := 989) h0 dw_986 rfl rfl (fun c => ?_) (fun c => ?_)
    · refine l_lconst (pc' := 994) (v := 0) h0 dw_993 rfl rfl ?_
      refine l_lcmp (pc' := 995) h0 dw_994 rfl ?_
      refine t_eqT (pc' := 1000) h0 dw_995 rfl (by rw [show ooZ (Sum.inr v) o 0 = (if v = 0 then 0 else 1) from rfl, if_pos c]; exact lg_self _) ?_
      exact l_goto (pc' := 1506) h0 dw_1000 rfl (l_widen (lcw cn 3 5 (by decide)) (lcw sn 18 30 (by decide)) (l_sub [2, 3, 4, 5, 6] rfl (k9 S SR2 _ e6)))
    · refine l_lconst (pc' := 990) (v := 1) h0 dw_989 rfl rfl ?_
      refine l_goto (pc' := 994) h0 dw_990 rfl ?_
      refine l_lcmp (pc' := 995) h0 dw_994 rfl ?_
      refine t_eqT (pc' := 1000) h0 dw_995 rfl (by rw [show ooZ (Sum.inr v) o 0 = (if v = 0 then 0 else 1) from rfl, if_neg c]; exact lg_self _) ?_
      exact l_goto (pc' := 1506) h0 dw_1000 rfl (l_widen (lcw cn 3 5 (by decide)) (lcw sn 18 30 (by decide)) (l_sub [2, 3, 4, 5, 6] rfl (k9 S SR2 _ e6)))
theorem lc_breaches {X : MX} {g : GC} {g' : GR} {cJ : ClassId} {qo b Ln : Nat} {xs : Nat → Int32} {cn sn : Nat} {i : Int32} {S SR : Mem} {o : Nat → Int64} {fu : Nat} {R : Mem → Mem → Prop} (h0 : LX RL code 7 room_1 X) (hK : KL g g' cJ qo b Ln xs X) (hi : idxOK i Ln) (hcn : cn + 5 ≤ room_1.cells) (hsn : sn + 30 ≤ room_1.slots) (hS : Sim_breaches fu R) (hR : R S SR) (k9 : ∀ (S' SR' : Mem) (o' : Nat → Int64), R S' SR' → LV X (AL X) 7 (cn + 5) (sn + 30) (hL g g' cJ qo S' SR' o') (LB g g' qo b i) 1506 []) : LV X (AL X) 7 cn sn (hL g g' cJ qo S SR o) (LB g g' qo b i) 1003 [] := by
  obtain ⟨hi0, hi1, hi2, hi3, hi4, hi5⟩ := hi
  obtain ⟨z, y, SR2, k, e1, e2, e3, e4, e5, e6⟩ := hS S SR (xs (i + 1).toNatClampNeg) hR
  refine l_aload_n (pc' := 1004) h0 1 dw_1003 rfl rfl rfl ?_
  refine l_aload_n (pc' := 1005) h0 0 dw_1004 rfl rfl rfl ?_
  refine l_iload (pc' := 1007) h0 4 dw_1005 rfl rfl ?_
  refine l_iconst (pc' := 1008) h0 dw_1007 ki_1 rfl ?_
  refine l_iadd (pc' := 1009) h0 dw_1008 rfl ?_
  refine s_ld (pc' := 1010) h0 hK hi1 dw_1009 rfl ?_
  refine l_aload_n (pc' := 1011) h0 3 dw_1010 rfl rfl rfl ?_
  refine l_callW (pc' := 1014) (n := 3) h0 hK vm_738 vm_739 vm_59 vm_740 ⟨by decide +kernel, by decide +kernel, by decide +kernel⟩ [.ref (wA (wC g) 7 0), .int (xs (i + 1).toNatClampNeg), .ref qo] [] (cw_breaches g cJ qo fu (xs (i + 1).toNatClampNeg) S o e1 e2) rfl rfl dw_1011 rfl (Nat.le_of_ble_eq_true rfl) ⟨rfl, rfl, Nat.le_of_ble_eq_true rfl, Nat.le_of_ble_eq_true rfl⟩ ⟨lcb hcn 2 (by decide), lcb hsn 12 (by decide)⟩ ?_
  refine l_istore (pc' := 1016) (L' := [(5, .int k), (0, .ref b), (1, .ref (wA (wC g) 7 0)), (2, .ref (wA (wR g') 8 0)), (3, .ref qo), (4, .int i)]) h0 dw_1014 (Nat.le_of_ble_eq_true rfl) rfl rfl ?_
  refine l_aload_n (pc' := 1017) h0 3 dw_1016 rfl rfl rfl ?_
  refine l_aload_n (pc' := 1018) h0 1 dw_1017 rfl rfl rfl ?_
  refine l_iload (pc' := 1020) h0 5 dw_1018 rfl rfl ?_
  refine l_iconst (pc' := 1021) h0 dw_1020 ki_1 rfl ?_
  refine l_iadd (pc' := 1022) h0 dw_1021 rfl ?_
  refine s_ld (pc' := 1023) h0 hK hi1 dw_1022 rfl ?_
  refine l_callM (pc' := 1026) (n := 1) h0 hK vm_1155 vm_1156 vm_1157 vm_1158 vm_74 ⟨by decide +kernel, by decide +kernel, by decide +kernel⟩ [.int (xs (i + 1).toNatClampNeg)] [] (c_X8_breaches g' fu (xs (i + 1).toNatClampNeg) SR e3) rfl rfl dw_1023 rfl (Nat.le_of_ble_eq_true rfl) ⟨rfl, rfl, Nat.le_of_ble_eq_true rfl, Nat.le_of_ble_eq_true rfl⟩ ⟨lcb hcn 2 (by decide), lcb hsn 12 (by decide)⟩ ?_
  refine l_istore (pc' := 1028) (L' := [(6, .int y), (5, .int k), (0, .ref b), (1, .ref (wA (wC g) 7 0)), (2, .ref (wA (wR g') 8 0)), (3, .ref qo), (4, .int i)]) h0 dw_1026 (Nat.le_of_ble_eq_true rfl) rfl rfl ?_
  refine l_aload_n (pc' := 1029) h0 4 dw_1028 rfl rfl rfl ?_
  refine l_callM (pc' := 1032) (n := 0) h0 hK vm_1002 vm_1003 vm_1004 vm_1005 vm_74 ⟨by decide +kernel, by decide +kernel, by decide +kernel⟩ [] [] (c_X8_thrown g' fu SR2 rfl) rfl rfl dw_1029 rfl (Nat.le_of_ble_eq_true rfl) ⟨rfl, rfl, Nat.le_of_ble_eq_true rfl, Nat.le_of_ble_eq_true rfl⟩ ⟨lcb hcn 2 (by decide), lcb hsn 12 (by decide)⟩ ?_
  refine l_iload (pc' := 1034) h0 1 dw_1032 rfl rfl ?_
  refine l_ic_eq (pt := 1039) h0 dw_1034 rfl e4 ?_
  refine l_iload (pc' := 1041) h0 1 dw_1039 rfl rfl ?_
  refine l_if_ne (pt := 1056) (pf := 1044) h0 dw_1041 rfl rfl (fun _ => ?_) (fun c => ?_)
  · exact l_goto (pc' := 1506) h0 dw_1056 rfl (l_widen (lcw cn 2 5 (by decide)) (lcw sn 12 30 (by decide)) (l_sub [2, 3, 4, 5, 6] rfl (k9 S SR2 _ e6)))
  · subst c
    obtain ⟨v, rfl⟩ := hc2_zero e2
    obtain rfl := e5 v rfl
    refine l_aload_n (pc' := 1045) h0 5 dw_1044 rfl rfl rfl ?_
    refine l_iconst (pc' := 1046) h0 dw_1045 ki_0 rfl ?_
    refine s_out (pc' := 1047) h0 hK dw_1046 rfl ?_
    refine l_iload (pc' := 1049) h0 0 dw_1047 rfl rfl ?_
    refine l_i2l (pc' := 1050) h0 dw_1049 rfl ?_
    refine l_lcmp (pc' := 1051) h0 dw_1050 rfl ?_
    refine t_eqT (pc' := 1056) h0 dw_1051 rfl (by exact lg_self _) ?_
    exact l_goto (pc' := 1506) h0 dw_1056 rfl (l_widen (lcw cn 2 5 (by decide)) (lcw sn 12 30 (by decide)) (l_sub [2, 3, 4, 5, 6] rfl (k9 S SR2 _ e6)))
theorem lc_band {X : MX} {g : GC} {g' : GR} {cJ : ClassId} {qo b Ln : Nat} {xs : Nat → Int32} {cn sn : Nat} {i : Int32} {S SR : Mem} {o : Nat → Int64} {fu : Nat} {R : Mem → Mem → Prop} (h0 : LX RL code 7 room_1 X) (hK : KL g g' cJ qo b Ln xs X) (hi : idxOK i Ln) (hcn : cn + 5 ≤ room_1.cells) (hsn : sn + 30 ≤ room_1.slots) (hS : Sim_band fu R) (hR : R S SR) (k9 : ∀ (S' SR' : Mem) (o' : Nat → Int64), R S' SR' → LV X (AL X) 7 (cn + 5) (sn + 30) (hL g g' cJ qo S' SR' o') (LB g g' qo b i) 1506 []) : LV X (AL X) 7 cn sn (hL g g' cJ qo S SR o) (LB g g' qo b i) 1059 [] := by
  obtain ⟨hi0, hi1, hi2, hi3, hi4, hi5⟩ := hi
  by_cases c : xs (i + 1).toNatClampNeg = 0
  · obtain ⟨z, S2, y, SR2, k, e1, e2, e3, e4, e5, e6⟩ := hS S SR 0 hR (Or.inl rfl)
    refine l_aload_n (pc' := 1060) h0 1 dw_1059 rfl rfl rfl ?_
    refine l_aload_n (pc' := 1061) h0 0 dw_1060 rfl rfl rfl ?_
    refine l_iload (pc' := 1063) h0 4 dw_1061 rfl rfl ?_
    refine l_iconst (pc' := 1064) h0 dw_1063 ki_1 rfl ?_
    refine l_iadd (pc' := 1065) h0 dw_1064 rfl ?_
    refine s_ld (pc' := 1066) h0 hK hi1 dw_1065 rfl ?_
    refine t_eqT (pc' := 1073) h0 dw_1066 rfl c ?_
    refine l_iconst (pc' := 1074) h0 dw_1073 ki_0 rfl ?_
    refine l_aload_n (pc' := 1075) h0 3 dw_1074 rfl rfl rfl ?_
    refine l_callW (pc' := 1078) (n := 3) h0 hK vm_758 vm_759 vm_59 vm_760 ⟨by decide +kernel, by decide +kernel, by decide +kernel⟩ [.ref (wA (wC g) 7 0), .int 0, .ref qo] [] (cw_band g cJ qo fu 0 S o e1 e2) rfl rfl dw_1075 rfl (Nat.le_of_ble_eq_true rfl) ⟨rfl, rfl, Nat.le_of_ble_eq_true rfl, Nat.le_of_ble_eq_true rfl⟩ ⟨lcb hcn 1 (by decide), lcb hsn 6 (by decide)⟩ ?_
    refine l_istore (pc' := 1080) (L' := [(5, .int k), (0, .ref b), (1, .ref (wA (wC g) 7 0)), (2, .ref (wA (wR g') 8 0)), (3, .ref qo), (4, .int i)]) h0 dw_1078 (Nat.le_of_ble_eq_true rfl) rfl rfl ?_
    refine l_aload_n (pc' := 1081) h0 3 dw_1080 rfl rfl rfl ?_
    refine l_aload_n (pc' := 1082) h0 1 dw_1081 rfl rfl rfl ?_
    refine l_iload (pc' := 1084) h0 5 dw_1082 rfl rfl ?_
    refine l_iconst (pc' := 1085) h0 dw_1084 ki_1 rfl ?_
    refine l_iadd (pc' := 1086) h0 dw_1085 rfl ?_
    refine s_ld (pc' := 1087) h0 hK hi1 dw_1086 rfl ?_
    refine t_eqT (pc' := 1094) h0 dw_1087 rfl c ?_
    refine l_iconst (pc' := 1095) h0 dw_1094 ki_0 rfl ?_
    refine l_callM (pc' := 1098) (n := 1) h0 hK vm_1163 vm_1164 vm_1165 vm_1166 vm_74 ⟨by decide +kernel, by decide +kernel, by decide +kernel⟩ [.int 0] [] (c_X8_band g' fu 0 SR e3) rfl rfl dw_1095 rfl (Nat.le_of_ble_eq_true rfl) ⟨rfl, rfl, Nat.le_of_ble_eq_true rfl, Nat.le_of_ble_eq_true rfl⟩ ⟨lcb hcn 1 (by decide), lcb hsn 6 (by decide)⟩ ?_
    refine l_istore (pc' := 1100) (L' := [(6, .int y), (5, .int k), (0, .ref b), (1, .ref (wA (wC g) 7 0)), (2, .ref (wA (wR g') 8 0)), (3, .ref qo), (4, .int i)]) h0 dw_1098 (Nat.le_of_ble_eq_true rfl) rfl rfl ?_
    refine l_aload_n (pc' := 1101) h0 4 dw_1100 rfl rfl rfl ?_
    refine l_callM (pc' := 1104) (n := 0) h0 hK vm_1002 vm_1003 vm_1004 vm_1005 vm_74 ⟨by decide +kernel, by decide +kernel, by decide +kernel⟩ [] [] (c_X8_thrown g' fu SR2 rfl) rfl rfl dw_1101 rfl (Nat.le_of_ble_eq_true rfl) ⟨rfl, rfl, Nat.le_of_ble_eq_true rfl, Nat.le_of_ble_eq_true rfl⟩ ⟨lcb hcn 1 (by decide), lcb hsn 6 (by decide)⟩ ?_
    refine l_iload (pc' := 1106) h0 1 dw_1104 rfl rfl ?_
    refine l_ic_eq (pt := 1111) h0 dw_1106 rfl e4 ?_
    refine l_iload (pc' := 1113) h0 1 dw_1111 rfl rfl ?_
    refine l_if_ne (pt := 1128) (pf := 1116) h0 dw_1113 rfl rfl (fun _ => ?_) (fun c => ?_)
    · exact l_goto (pc' := 1506) h0 dw_1128 rfl (l_widen (lcw cn 1 5 (by decide)) (lcw sn 6 30 (by decide)) (l_sub [2, 3, 4, 5, 6] rfl (k9 S2 SR2 _ e6)))
    · subst c
      obtain ⟨v, rfl⟩ := hc1_zero e2
      obtain rfl := e5 v rfl
      refine l_aload_n (pc' := 1117) h0 5 dw_1116 rfl rfl rfl ?_
      refine l_iconst (pc' := 1118) h0 dw_1117 ki_0 rfl ?_
      refine s_out (pc' := 1119) h0 hK dw_1118 rfl ?_
      refine l_iload (pc' := 1121) h0 0 dw_1119 rfl rfl ?_
      refine l_i2l (pc' := 1122) h0 dw_1121 rfl ?_
      refine l_lcmp (pc' := 1123) h0 dw_1122 rfl ?_
      refine t_eqT (pc' := 1128) h0 dw_1123 rfl (by exact lg_self _) ?_
      exact l_goto (pc' := 1506) h0 dw_1128 rfl (l_widen (lcw cn 1 5 (by decide)) (lcw sn 6 30 (by decide)) (l_sub [2, 3, 4, 5, 6] rfl (k9 S2 SR2 _ e6)))
  · obtain ⟨z, S2, y, SR2, k, e1, e2, e3, e4, e5, e6⟩ := hS S SR 1 hR (Or.inr rfl)
    refine l_aload_n (pc' := 1060) h0 1 dw_1059 rfl rfl rfl ?_
    refine l_aload_n (pc' := 1061) h0 0 dw_1060 rfl rfl rfl ?_
    refine l_iload (pc' := 1063) h0 4 dw_1061 rfl rfl ?_
    refine l_iconst (pc' := 1064) h0 dw_1063 ki_1 rfl ?_
    refine l_iadd (pc' := 1065) h0 dw_1064 rfl ?_
    refine s_ld (pc' := 1066) h0 hK hi1 dw_1065 rfl ?_
    refine t_eqF (pc' := 1069) h0 1073 dw_1066 rfl rfl c ?_
    refine l_iconst (pc' := 1070) h0 dw_1069 ki_1 rfl ?_
    refine l_goto (pc' := 1074) h0 dw_1070 rfl ?_
    refine l_aload_n (pc' := 1075) h0 3 dw_1074 rfl rfl rfl ?_
    refine l_callW (pc' := 1078) (n := 3) h0 hK vm_758 vm_759 vm_59 vm_760 ⟨by decide +kernel, by decide +kernel, by decide +kernel⟩ [.ref (wA (wC g) 7 0), .int 1, .ref qo] [] (cw_band g cJ qo fu 1 S o e1 e2) rfl rfl dw_1075 rfl (Nat.le_of_ble_eq_true rfl) ⟨rfl, rfl, Nat.le_of_ble_eq_true rfl, Nat.le_of_ble_eq_true rfl⟩ ⟨lcb hcn 1 (by decide), lcb hsn 6 (by decide)⟩ ?_
    refine l_istore (pc' := 1080) (L' := [(5, .int k), (0, .ref b), (1, .ref (wA (wC g) 7 0)), (2, .ref (wA (wR g') 8 0)), (3, .ref qo), (4, .int i)]) h0 dw_1078 (Nat.le_of_ble_eq_true rfl) rfl rfl ?_
    refine l_aload_n (pc' := 1081) h0 3 dw_1080 rfl rfl rfl ?_
    refine l_aload_n (pc' := 1082) h0 1 dw_1081 rfl rfl rfl ?_
    refine l_iload (pc' := 1084) h0 5 dw_1082 rfl rfl ?_
    refine l_iconst (pc' := 1085) h0 dw_1084 ki_1 rfl ?_
    refine l_iadd (pc' := 1086) h0 dw_1085 rfl ?_
    refine s_ld (pc' := 1087) h0 hK hi1 dw_1086 rfl ?_
    refine t_eqF (pc' := 1090) h0 1094 dw_1087 rfl rfl c ?_
    refine l_iconst (pc' := 1091) h0 dw_1090 ki_1 rfl ?_
    refine l_goto (pc' := 1095) h0 dw_1091 rfl ?_
    refine l_callM (pc' := 1098) (n := 1) h0 hK vm_1163 vm_1164 vm_1165 vm_1166 vm_74 ⟨by decide +kernel, by decide +kernel, by decide +kernel⟩ [.int 1] [] (c_X8_band g' fu 1 SR e3) rfl rfl dw_1095 rfl (Nat.le_of_ble_eq_true rfl) ⟨rfl, rfl, Nat.le_of_ble_eq_true rfl, Nat.le_of_ble_eq_true rfl⟩ ⟨lcb hcn 1 (by decide), lcb hsn 6 (by decide)⟩ ?_
    refine l_istore (pc' := 1100) (L' := [(6, .int y), (5, .int k), (0, .ref b), (1, .ref (wA (wC g) 7 0)), (2, .ref (wA (wR g') 8 0)), (3, .ref qo), (4, .int i)]) h0 dw_1098 (Nat.le_of_ble_eq_true rfl) rfl rfl ?_
    refine l_aload_n (pc' := 1101) h0 4 dw_1100 rfl rfl rfl ?_
    refine l_callM (pc' := 1104) (n := 0) h0 hK vm_1002 vm_1003 vm_1004 vm_1005 vm_74 ⟨by decide +kernel, by decide +kernel, by decide +kernel⟩ [] [] (c_X8_thrown g' fu SR2 rfl) rfl rfl dw_1101 rfl (Nat.le_of_ble_eq_true rfl) ⟨rfl, rfl, Nat.le_of_ble_eq_true rfl, Nat.le_of_ble_eq_true rfl⟩ ⟨lcb hcn 1 (by decide), lcb hsn 6 (by decide)⟩ ?_
    refine l_iload (pc' := 1106) h0 1 dw_1104 rfl rfl ?_
    refine l_ic_eq (pt := 1111) h0 dw_1106 rfl e4 ?_
    refine l_iload (pc' := 1113) h0 1 dw_1111 rfl rfl ?_
    refine l_if_ne (pt := 1128) (pf := 1116) h0 dw_1113 rfl rfl (fun _ => ?_) (fun c => ?_)
    · exact l_goto (pc' := 1506) h0 dw_1128 rfl (l_widen (lcw cn 1 5 (by decide)) (lcw sn 6 30 (by decide)) (l_sub [2, 3, 4, 5, 6] rfl (k9 S2 SR2 _ e6)))
    · subst c
      obtain ⟨v, rfl⟩ := hc1_zero e2
      obtain rfl := e5 v rfl
      refine l_aload_n (pc' := 1117) h0 5 dw_1116 rfl rfl rfl ?_
      refine l_iconst (pc' := 1118) h0 dw_1117 ki_0 rfl ?_
      refine s_out (pc' := 1119) h0 hK dw_1118 rfl ?_
      refine l_iload (pc' := 1121) h0 0 dw_1119 rfl rfl ?_
      refine l_i2l (pc' := 1122) h0 dw_1121 rfl ?_
      refine l_lcmp (pc' := 1123) h0 dw_1122 rfl ?_
      refine t_eqT (pc' := 1128) h0 dw_1123 rfl (by exact lg_self _) ?_
      exact l_goto (pc' := 1506) h0 dw_1128 rfl (l_widen (lcw cn 1 5 (by decide)) (lcw sn 6 30 (by decide)) (l_sub [2, 3, 4, 5, 6] rfl (k9 S2 SR2 _ e6)))
theorem lc_bestByAll {X : MX} {g : GC} {g' : GR} {cJ : ClassId} {qo b Ln : Nat} {xs : Nat → Int32} {cn sn : Nat} {i : Int32} {S SR : Mem} {o : Nat → Int64} {fu : Nat} {R : Mem → Mem → Prop} (h0 : LX RL code 7 room_1 X) (hK : KL g g' cJ qo b Ln xs X) (hi : idxOK i Ln) (hcn : cn + 5 ≤ room_1.cells) (hsn : sn + 30 ≤ room_1.slots) (hS : Sim_bestByAll fu R) (hR : R S SR) (k9 : ∀ (S' SR' : Mem) (o' : Nat → Int64), R S' SR' → LV X (AL X) 7 (cn + 5) (sn + 30) (hL g g' cJ qo S' SR' o') (LB g g' qo b i) 1506 []) : LV X (AL X) 7 cn sn (hL g g' cJ qo S SR o) (LB g g' qo b i) 1131 [] := by
  obtain ⟨hi0, hi1, hi2, hi3, hi4, hi5⟩ := hi
  obtain ⟨z, S2, y, SR2, k, e1, e2, e3, e4, e5, e6⟩ := hS S SR  hR
  refine l_aload_n (pc' := 1132) h0 1 dw_1131 rfl rfl rfl ?_
  refine l_aload_n (pc' := 1133) h0 3 dw_1132 rfl rfl rfl ?_
  refine l_callW (pc' := 1136) (n := 2) h0 hK vm_770 vm_771 vm_59 vm_772 ⟨by decide +kernel, by decide +kernel, by decide +kernel⟩ [.ref (wA (wC g) 7 0), .ref qo] [] (cw_bestByAll g cJ qo fu  S o e1 e2) rfl rfl dw_1133 rfl (Nat.le_of_ble_eq_true rfl) ⟨rfl, rfl, Nat.le_of_ble_eq_true rfl, Nat.le_of_ble_eq_true rfl⟩ ⟨lcb hcn 2 (by decide), lcb hsn 12 (by decide)⟩ ?_
  refine l_istore (pc' := 1138) (L' := [(5, .int k), (0, .ref b), (1, .ref (wA (wC g) 7 0)), (2, .ref (wA (wR g') 8 0)), (3, .ref qo), (4, .int i)]) h0 dw_1136 (Nat.le_of_ble_eq_true rfl) rfl rfl ?_
  refine l_aload_n (pc' := 1139) h0 3 dw_1138 rfl rfl rfl ?_
  refine l_callM (pc' := 1142) (n := 0) h0 hK vm_1167 vm_1168 vm_1169 vm_1170 vm_74 ⟨by decide +kernel, by decide +kernel, by decide +kernel⟩ [] [] (c_X8_bestByAll g' fu  SR e3) rfl rfl dw_1139 rfl (Nat.le_of_ble_eq_true rfl) ⟨rfl, rfl, Nat.le_of_ble_eq_true rfl, Nat.le_of_ble_eq_true rfl⟩ ⟨lcb hcn 2 (by decide), lcb hsn 12 (by decide)⟩ ?_
  refine l_istore (pc' := 1144) (L' := [(6, .int y), (5, .int k), (0, .ref b), (1, .ref (wA (wC g) 7 0)), (2, .ref (wA (wR g') 8 0)), (3, .ref qo), (4, .int i)]) h0 dw_1142 (Nat.le_of_ble_eq_true rfl) rfl rfl ?_
  refine l_aload_n (pc' := 1145) h0 4 dw_1144 rfl rfl rfl ?_
  refine l_callM (pc' := 1148) (n := 0) h0 hK vm_1002 vm_1003 vm_1004 vm_1005 vm_74 ⟨by decide +kernel, by decide +kernel, by decide +kernel⟩ [] [] (c_X8_thrown g' fu SR2 rfl) rfl rfl dw_1145 rfl (Nat.le_of_ble_eq_true rfl) ⟨rfl, rfl, Nat.le_of_ble_eq_true rfl, Nat.le_of_ble_eq_true rfl⟩ ⟨lcb hcn 2 (by decide), lcb hsn 12 (by decide)⟩ ?_
  refine l_iload (pc' := 1150) h0 1 dw_1148 rfl rfl ?_
  refine l_ic_eq (pt := 1155) h0 dw_1150 rfl e4 ?_
  refine l_iload (pc' := 1157) h0 1 dw_1155 rfl rfl ?_
  refine l_if_ne (pt := 1172) (pf := 1160) h0 dw_1157 rfl rfl (fun _ => ?_) (fun c => ?_)
  · exact l_goto (pc' := 1506) h0 dw_1172 rfl (l_widen (lcw cn 2 5 (by decide)) (lcw sn 12 30 (by decide)) (l_sub [2, 3, 4, 5, 6] rfl (k9 S2 SR2 _ e6)))
  · subst c
    obtain ⟨v, rfl⟩ := hc1_zero e2
    obtain rfl := e5 v rfl
    refine l_aload_n (pc' := 1161) h0 5 dw_1160 rfl rfl rfl ?_
    refine l_iconst (pc' := 1162) h0 dw_1161 ki_0 rfl ?_
    refine s_out (pc' := 1163) h0 hK dw_1162 rfl ?_
    refine l_iload (pc' := 1165) h0 0 dw_1163 rfl rfl ?_
    refine l_i2l (pc' := 1166) h0 dw_1165 rfl ?_
    refine l_lcmp (pc' := 1167) h0 dw_1166 rfl ?_
    refine t_eqT (pc' := 1172) h0 dw_1167 rfl (by exact lg_self _) ?_
    exact l_goto (pc' := 1506) h0 dw_1172 rfl (l_widen (lcw cn 2 5 (by decide)) (lcw sn 12 30 (by decide)) (l_sub [2, 3, 4, 5, 6] rfl (k9 S2 SR2 _ e6)))
