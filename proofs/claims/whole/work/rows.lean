section
-- ===== PART A: goes FIRST, ahead of the names: the tables' words, and 'selects' of the private methods out of them =====
/-- a private method of a class that the tables say can be made, by its rows of tables_1 -/
def lw_okq (q : MethodName × Nat) : Prop := (q.1.cls ≠ "java/lang/invoke/MethodHandle" ∧ q.1.cls ≠ "java/lang/invoke/VarHandle") ∧ Cond.instantiable q.1.cls q.2 ∈ tables_1 ∧ Cond.privateMethod q.1 ∈ tables_1 ∧ Cond.instanceMethod q.1 ∈ tables_1
theorem lw_p0 : lw_okq (⟨"java/lang/Throwable", "fillInStackTrace", "(I)Ljava/lang/Throwable;"⟩, 6) := ⟨⟨by decide +kernel, by decide +kernel⟩, List.mem_of_getElem? (i := 271) (by decide +kernel), List.mem_of_getElem? (i := 269) (by decide +kernel), List.mem_of_getElem? (i := 270) (by decide +kernel)⟩
theorem lw_p1 : lw_okq (⟨"Greenwave$Junction", "writeClearance", "(III)V"⟩, 17) := ⟨⟨by decide +kernel, by decide +kernel⟩, List.mem_of_getElem? (i := 35) (by decide +kernel), List.mem_of_getElem? (i := 313) (by decide +kernel), List.mem_of_getElem? (i := 314) (by decide +kernel)⟩
theorem lw_p2 : lw_okq (⟨"Greenwave$Junction", "writeSets", "(IIII)V"⟩, 17) := ⟨⟨by decide +kernel, by decide +kernel⟩, List.mem_of_getElem? (i := 35) (by decide +kernel), List.mem_of_getElem? (i := 320) (by decide +kernel), List.mem_of_getElem? (i := 321) (by decide +kernel)⟩
theorem lw_p3 : lw_okq (⟨"Greenwave$Junction", "makePlan", "()V"⟩, 17) := ⟨⟨by decide +kernel, by decide +kernel⟩, List.mem_of_getElem? (i := 35) (by decide +kernel), List.mem_of_getElem? (i := 324) (by decide +kernel), List.mem_of_getElem? (i := 325) (by decide +kernel)⟩
theorem lw_p4 : lw_okq (⟨"Greenwave$Junction", "greatestClearance", "(II)I"⟩, 17) := ⟨⟨by decide +kernel, by decide +kernel⟩, List.mem_of_getElem? (i := 35) (by decide +kernel), List.mem_of_getElem? (i := 331) (by decide +kernel), List.mem_of_getElem? (i := 332) (by decide +kernel)⟩
theorem lw_p5 : lw_okq (⟨"Greenwave$Junction", "leastGreen", "(I)I"⟩, 17) := ⟨⟨by decide +kernel, by decide +kernel⟩, List.mem_of_getElem? (i := 35) (by decide +kernel), List.mem_of_getElem? (i := 345) (by decide +kernel), List.mem_of_getElem? (i := 346) (by decide +kernel)⟩
theorem lw_p6 : lw_okq (⟨"Greenwave$Junction", "weightOf", "(I)I"⟩, 17) := ⟨⟨by decide +kernel, by decide +kernel⟩, List.mem_of_getElem? (i := 35) (by decide +kernel), List.mem_of_getElem? (i := 349) (by decide +kernel), List.mem_of_getElem? (i := 350) (by decide +kernel)⟩
theorem lw_p7 : lw_okq (⟨"Greenwave$Junction", "shareOut", "(II)V"⟩, 17) := ⟨⟨by decide +kernel, by decide +kernel⟩, List.mem_of_getElem? (i := 35) (by decide +kernel), List.mem_of_getElem? (i := 353) (by decide +kernel), List.mem_of_getElem? (i := 354) (by decide +kernel)⟩
theorem lw_p8 : lw_okq (⟨"Greenwave$Junction", "drawLights", "()V"⟩, 17) := ⟨⟨by decide +kernel, by decide +kernel⟩, List.mem_of_getElem? (i := 35) (by decide +kernel), List.mem_of_getElem? (i := 360) (by decide +kernel), List.mem_of_getElem? (i := 361) (by decide +kernel)⟩
theorem lw_p9 : lw_okq (⟨"Greenwave", "checkSettingUp", "()V"⟩, 3) := ⟨⟨by decide +kernel, by decide +kernel⟩, List.mem_of_getElem? (i := 20) (by decide +kernel), List.mem_of_getElem? (i := 438) (by decide +kernel), List.mem_of_getElem? (i := 439) (by decide +kernel)⟩
theorem lw_p10 : lw_okq (⟨"Greenwave", "checkPlans", "()V"⟩, 3) := ⟨⟨by decide +kernel, by decide +kernel⟩, List.mem_of_getElem? (i := 20) (by decide +kernel), List.mem_of_getElem? (i := 532) (by decide +kernel), List.mem_of_getElem? (i := 533) (by decide +kernel)⟩
theorem lw_p11 : lw_okq (⟨"Greenwave$Bands", "improveOffset", "(I)Z"⟩, 5) := ⟨⟨by decide +kernel, by decide +kernel⟩, List.mem_of_getElem? (i := 146) (by decide +kernel), List.mem_of_getElem? (i := 545) (by decide +kernel), List.mem_of_getElem? (i := 546) (by decide +kernel)⟩
theorem lw_p12 : lw_okq (⟨"Greenwave$Bands", "fillCommon", "(I)V"⟩, 5) := ⟨⟨by decide +kernel, by decide +kernel⟩, List.mem_of_getElem? (i := 146) (by decide +kernel), List.mem_of_getElem? (i := 550) (by decide +kernel), List.mem_of_getElem? (i := 551) (by decide +kernel)⟩
theorem lw_p13 : lw_okq (⟨"Greenwave$Bands", "fillFrom", "(IILGreenwave$FreeSeconds;)V"⟩, 5) := ⟨⟨by decide +kernel, by decide +kernel⟩, List.mem_of_getElem? (i := 146) (by decide +kernel), List.mem_of_getElem? (i := 570) (by decide +kernel), List.mem_of_getElem? (i := 571) (by decide +kernel)⟩
theorem lw_p14 : lw_okq (⟨"Greenwave$Bands", "lowestBestOffset", "()I"⟩, 5) := ⟨⟨by decide +kernel, by decide +kernel⟩, List.mem_of_getElem? (i := 146) (by decide +kernel), List.mem_of_getElem? (i := 594) (by decide +kernel), List.mem_of_getElem? (i := 595) (by decide +kernel)⟩
theorem lw_p15 : lw_okq (⟨"Greenwave$Seconds", "has", "(I)Z"⟩, 2) := ⟨⟨by decide +kernel, by decide +kernel⟩, List.mem_of_getElem? (i := 158) (by decide +kernel), List.mem_of_getElem? (i := 620) (by decide +kernel), List.mem_of_getElem? (i := 621) (by decide +kernel)⟩
def lw_privs_1 : List (MethodName × Nat) := [(⟨"java/lang/Throwable", "fillInStackTrace", "(I)Ljava/lang/Throwable;"⟩, 6), (⟨"Greenwave$Junction", "writeClearance", "(III)V"⟩, 17), (⟨"Greenwave$Junction", "writeSets", "(IIII)V"⟩, 17), (⟨"Greenwave$Junction", "makePlan", "()V"⟩, 17), (⟨"Greenwave$Junction", "greatestClearance", "(II)I"⟩, 17), (⟨"Greenwave$Junction", "leastGreen", "(I)I"⟩, 17), (⟨"Greenwave$Junction", "weightOf", "(I)I"⟩, 17), (⟨"Greenwave$Junction", "shareOut", "(II)V"⟩, 17), (⟨"Greenwave$Junction", "drawLights", "()V"⟩, 17), (⟨"Greenwave", "checkSettingUp", "()V"⟩, 3), (⟨"Greenwave", "checkPlans", "()V"⟩, 3), (⟨"Greenwave$Bands", "improveOffset", "(I)Z"⟩, 5), (⟨"Greenwave$Bands", "fillCommon", "(I)V"⟩, 5), (⟨"Greenwave$Bands", "fillFrom", "(IILGreenwave$FreeSeconds;)V"⟩, 5), (⟨"Greenwave$Bands", "lowestBestOffset", "()I"⟩, 5), (⟨"Greenwave$Seconds", "has", "(I)Z"⟩, 2)]
theorem lw_r1 : ∀ q ∈ lw_privs_1, lw_okq q := List.forall_mem_cons.mpr ⟨lw_p0, List.forall_mem_cons.mpr ⟨lw_p1, List.forall_mem_cons.mpr ⟨lw_p2, List.forall_mem_cons.mpr ⟨lw_p3, List.forall_mem_cons.mpr ⟨lw_p4, List.forall_mem_cons.mpr ⟨lw_p5, List.forall_mem_cons.mpr ⟨lw_p6, List.forall_mem_cons.mpr ⟨lw_p7, List.forall_mem_cons.mpr ⟨lw_p8, List.forall_mem_cons.mpr ⟨lw_p9, List.forall_mem_cons.mpr ⟨lw_p10, List.forall_mem_cons.mpr ⟨lw_p11, List.forall_mem_cons.mpr ⟨lw_p12, List.forall_mem_cons.mpr ⟨lw_p13, List.forall_mem_cons.mpr ⟨lw_p14, List.forall_mem_cons.mpr ⟨lw_p15, fun _ h => absurd h List.not_mem_nil⟩⟩⟩⟩⟩⟩⟩⟩⟩⟩⟩⟩⟩⟩⟩⟩
theorem lw_p16 : lw_okq (⟨"Greenwave$Seconds", "remove", "(I)V"⟩, 2) := ⟨⟨by decide +kernel, by decide +kernel⟩, List.mem_of_getElem? (i := 158) (by decide +kernel), List.mem_of_getElem? (i := 624) (by decide +kernel), List.mem_of_getElem? (i := 625) (by decide +kernel)⟩
theorem lw_p17 : lw_okq (⟨"Greenwave$Junction", "isBreached", "(I)Z"⟩, 17) := ⟨⟨by decide +kernel, by decide +kernel⟩, List.mem_of_getElem? (i := 35) (by decide +kernel), List.mem_of_getElem? (i := 691) (by decide +kernel), List.mem_of_getElem? (i := 692) (by decide +kernel)⟩
theorem lw_p18 : lw_okq (⟨"Greenwave$Junction", "isLitTooSoon", "(III)Z"⟩, 17) := ⟨⟨by decide +kernel, by decide +kernel⟩, List.mem_of_getElem? (i := 35) (by decide +kernel), List.mem_of_getElem? (i := 696) (by decide +kernel), List.mem_of_getElem? (i := 697) (by decide +kernel)⟩
theorem lw_p19 : lw_okq (⟨"Greenwave$Bands", "greatestOverOffsets", "(LGreenwave$FreeSeconds;LGreenwave$FreeSeconds;)I"⟩, 5) := ⟨⟨by decide +kernel, by decide +kernel⟩, List.mem_of_getElem? (i := 146) (by decide +kernel), List.mem_of_getElem? (i := 724) (by decide +kernel), List.mem_of_getElem? (i := 725) (by decide +kernel)⟩
theorem lw_p20 : lw_okq (⟨"Greenwave$Traffic", "passSecond", "()V"⟩, 6) := ⟨⟨by decide +kernel, by decide +kernel⟩, List.mem_of_getElem? (i := 196) (by decide +kernel), List.mem_of_getElem? (i := 742) (by decide +kernel), List.mem_of_getElem? (i := 743) (by decide +kernel)⟩
theorem lw_p21 : lw_okq (⟨"Greenwave$Traffic", "letCome", "(LGreenwave$Junction;)V"⟩, 6) := ⟨⟨by decide +kernel, by decide +kernel⟩, List.mem_of_getElem? (i := 196) (by decide +kernel), List.mem_of_getElem? (i := 747) (by decide +kernel), List.mem_of_getElem? (i := 748) (by decide +kernel)⟩
theorem lw_p22 : lw_okq (⟨"Greenwave$Junction", "placeInCycle", "(I)I"⟩, 17) := ⟨⟨by decide +kernel, by decide +kernel⟩, List.mem_of_getElem? (i := 35) (by decide +kernel), List.mem_of_getElem? (i := 772) (by decide +kernel), List.mem_of_getElem? (i := 773) (by decide +kernel)⟩
theorem lw_p23 : lw_okq (⟨"Greenwave$Junction", "changedGreen", "(I)I"⟩, 17) := ⟨⟨by decide +kernel, by decide +kernel⟩, List.mem_of_getElem? (i := 35) (by decide +kernel), List.mem_of_getElem? (i := 776) (by decide +kernel), List.mem_of_getElem? (i := 777) (by decide +kernel)⟩
theorem lw_p24 : lw_okq (⟨"Greenwave$Traffic", "hasRoomBehind", "(I)Z"⟩, 6) := ⟨⟨by decide +kernel, by decide +kernel⟩, List.mem_of_getElem? (i := 196) (by decide +kernel), List.mem_of_getElem? (i := 783) (by decide +kernel), List.mem_of_getElem? (i := 784) (by decide +kernel)⟩
theorem lw_p25 : lw_okq (⟨"Greenwave$Traffic", "letLeave", "(I)V"⟩, 6) := ⟨⟨by decide +kernel, by decide +kernel⟩, List.mem_of_getElem? (i := 196) (by decide +kernel), List.mem_of_getElem? (i := 793) (by decide +kernel), List.mem_of_getElem? (i := 794) (by decide +kernel)⟩
theorem lw_p26 : lw_okq (⟨"Greenwave$Junction", "spareGreen", "(I)I"⟩, 17) := ⟨⟨by decide +kernel, by decide +kernel⟩, List.mem_of_getElem? (i := 35) (by decide +kernel), List.mem_of_getElem? (i := 820) (by decide +kernel), List.mem_of_getElem? (i := 821) (by decide +kernel)⟩
theorem lw_p27 : lw_okq (⟨"Greenwave$Junction", "secondsOfGreenBehind", "(II)I"⟩, 17) := ⟨⟨by decide +kernel, by decide +kernel⟩, List.mem_of_getElem? (i := 35) (by decide +kernel), List.mem_of_getElem? (i := 824) (by decide +kernel), List.mem_of_getElem? (i := 825) (by decide +kernel)⟩
theorem lw_p28 : lw_okq (⟨"GreenwaveModel", "begins", "(II)V"⟩, 27) := ⟨⟨by decide +kernel, by decide +kernel⟩, List.mem_of_getElem? (i := 851) (by decide +kernel), List.mem_of_getElem? (i := 857) (by decide +kernel), List.mem_of_getElem? (i := 858) (by decide +kernel)⟩
theorem lw_p29 : lw_okq (⟨"GreenwaveModel", "holds", "(I)Z"⟩, 27) := ⟨⟨by decide +kernel, by decide +kernel⟩, List.mem_of_getElem? (i := 851) (by decide +kernel), List.mem_of_getElem? (i := 955) (by decide +kernel), List.mem_of_getElem? (i := 956) (by decide +kernel)⟩
theorem lw_p30 : lw_okq (⟨"GreenwaveModel", "errorOfConflict", "(IIII)I"⟩, 27) := ⟨⟨by decide +kernel, by decide +kernel⟩, List.mem_of_getElem? (i := 851) (by decide +kernel), List.mem_of_getElem? (i := 963) (by decide +kernel), List.mem_of_getElem? (i := 964) (by decide +kernel)⟩
theorem lw_p31 : lw_okq (⟨"GreenwaveModel", "isJunction", "(I)Z"⟩, 27) := ⟨⟨by decide +kernel, by decide +kernel⟩, List.mem_of_getElem? (i := 851) (by decide +kernel), List.mem_of_getElem? (i := 967) (by decide +kernel), List.mem_of_getElem? (i := 968) (by decide +kernel)⟩
def lw_privs_2 : List (MethodName × Nat) := [(⟨"Greenwave$Seconds", "remove", "(I)V"⟩, 2), (⟨"Greenwave$Junction", "isBreached", "(I)Z"⟩, 17), (⟨"Greenwave$Junction", "isLitTooSoon", "(III)Z"⟩, 17), (⟨"Greenwave$Bands", "greatestOverOffsets", "(LGreenwave$FreeSeconds;LGreenwave$FreeSeconds;)I"⟩, 5), (⟨"Greenwave$Traffic", "passSecond", "()V"⟩, 6), (⟨"Greenwave$Traffic", "letCome", "(LGreenwave$Junction;)V"⟩, 6), (⟨"Greenwave$Junction", "placeInCycle", "(I)I"⟩, 17), (⟨"Greenwave$Junction", "changedGreen", "(I)I"⟩, 17), (⟨"Greenwave$Traffic", "hasRoomBehind", "(I)Z"⟩, 6), (⟨"Greenwave$Traffic", "letLeave", "(I)V"⟩, 6), (⟨"Greenwave$Junction", "spareGreen", "(I)I"⟩, 17), (⟨"Greenwave$Junction", "secondsOfGreenBehind", "(II)I"⟩, 17), (⟨"GreenwaveModel", "begins", "(II)V"⟩, 27), (⟨"GreenwaveModel", "holds", "(I)Z"⟩, 27), (⟨"GreenwaveModel", "errorOfConflict", "(IIII)I"⟩, 27), (⟨"GreenwaveModel", "isJunction", "(I)Z"⟩, 27)]
theorem lw_r2 : ∀ q ∈ lw_privs_2, lw_okq q := List.forall_mem_cons.mpr ⟨lw_p16, List.forall_mem_cons.mpr ⟨lw_p17, List.forall_mem_cons.mpr ⟨lw_p18, List.forall_mem_cons.mpr ⟨lw_p19, List.forall_mem_cons.mpr ⟨lw_p20, List.forall_mem_cons.mpr ⟨lw_p21, List.forall_mem_cons.mpr ⟨lw_p22, List.forall_mem_cons.mpr ⟨lw_p23, List.forall_mem_cons.mpr ⟨lw_p24, List.forall_mem_cons.mpr ⟨lw_p25, List.forall_mem_cons.mpr ⟨lw_p26, List.forall_mem_cons.mpr ⟨lw_p27, List.forall_mem_cons.mpr ⟨lw_p28, List.forall_mem_cons.mpr ⟨lw_p29, List.forall_mem_cons.mpr ⟨lw_p30, List.forall_mem_cons.mpr ⟨lw_p31, fun _ h => absurd h List.not_mem_nil⟩⟩⟩⟩⟩⟩⟩⟩⟩⟩⟩⟩⟩⟩⟩⟩
theorem lw_p32 : lw_okq (⟨"GreenwaveModel", "isBad", "(II)Z"⟩, 27) := ⟨⟨by decide +kernel, by decide +kernel⟩, List.mem_of_getElem? (i := 851) (by decide +kernel), List.mem_of_getElem? (i := 984) (by decide +kernel), List.mem_of_getElem? (i := 985) (by decide +kernel)⟩
theorem lw_p33 : lw_okq (⟨"GreenwaveModel", "areIn", "(IIII)Z"⟩, 27) := ⟨⟨by decide +kernel, by decide +kernel⟩, List.mem_of_getElem? (i := 851) (by decide +kernel), List.mem_of_getElem? (i := 988) (by decide +kernel), List.mem_of_getElem? (i := 989) (by decide +kernel)⟩
theorem lw_p34 : lw_okq (⟨"GreenwaveModel", "isLink", "(I)Z"⟩, 27) := ⟨⟨by decide +kernel, by decide +kernel⟩, List.mem_of_getElem? (i := 851) (by decide +kernel), List.mem_of_getElem? (i := 1000) (by decide +kernel), List.mem_of_getElem? (i := 1001) (by decide +kernel)⟩
theorem lw_p35 : lw_okq (⟨"GreenwaveModel", "plansAll", "()Z"⟩, 27) := ⟨⟨by decide +kernel, by decide +kernel⟩, List.mem_of_getElem? (i := 851) (by decide +kernel), List.mem_of_getElem? (i := 1012) (by decide +kernel), List.mem_of_getElem? (i := 1013) (by decide +kernel)⟩
theorem lw_p36 : lw_okq (⟨"GreenwaveModel", "plans", "(I)V"⟩, 27) := ⟨⟨by decide +kernel, by decide +kernel⟩, List.mem_of_getElem? (i := 851) (by decide +kernel), List.mem_of_getElem? (i := 1016) (by decide +kernel), List.mem_of_getElem? (i := 1017) (by decide +kernel)⟩
theorem lw_p37 : lw_okq (⟨"GreenwaveModel", "clearingOf", "(II)I"⟩, 27) := ⟨⟨by decide +kernel, by decide +kernel⟩, List.mem_of_getElem? (i := 851) (by decide +kernel), List.mem_of_getElem? (i := 1020) (by decide +kernel), List.mem_of_getElem? (i := 1021) (by decide +kernel)⟩
theorem lw_p38 : lw_okq (⟨"GreenwaveModel", "leastOf", "(II)I"⟩, 27) := ⟨⟨by decide +kernel, by decide +kernel⟩, List.mem_of_getElem? (i := 851) (by decide +kernel), List.mem_of_getElem? (i := 1024) (by decide +kernel), List.mem_of_getElem? (i := 1025) (by decide +kernel)⟩
theorem lw_p39 : lw_okq (⟨"GreenwaveModel", "weight", "(II)I"⟩, 27) := ⟨⟨by decide +kernel, by decide +kernel⟩, List.mem_of_getElem? (i := 851) (by decide +kernel), List.mem_of_getElem? (i := 1028) (by decide +kernel), List.mem_of_getElem? (i := 1029) (by decide +kernel)⟩
theorem lw_p40 : lw_okq (⟨"GreenwaveModel", "betters", "(I)Z"⟩, 27) := ⟨⟨by decide +kernel, by decide +kernel⟩, List.mem_of_getElem? (i := 851) (by decide +kernel), List.mem_of_getElem? (i := 1032) (by decide +kernel), List.mem_of_getElem? (i := 1033) (by decide +kernel)⟩
theorem lw_p41 : lw_okq (⟨"GreenwaveModel", "bands", "()I"⟩, 27) := ⟨⟨by decide +kernel, by decide +kernel⟩, List.mem_of_getElem? (i := 851) (by decide +kernel), List.mem_of_getElem? (i := 1036) (by decide +kernel), List.mem_of_getElem? (i := 1037) (by decide +kernel)⟩
theorem lw_p42 : lw_okq (⟨"GreenwaveModel", "bandOf", "(Z)I"⟩, 27) := ⟨⟨by decide +kernel, by decide +kernel⟩, List.mem_of_getElem? (i := 851) (by decide +kernel), List.mem_of_getElem? (i := 1040) (by decide +kernel), List.mem_of_getElem? (i := 1041) (by decide +kernel)⟩
theorem lw_p43 : lw_okq (⟨"GreenwaveModel", "isFree", "(IZ)Z"⟩, 27) := ⟨⟨by decide +kernel, by decide +kernel⟩, List.mem_of_getElem? (i := 851) (by decide +kernel), List.mem_of_getElem? (i := 1044) (by decide +kernel), List.mem_of_getElem? (i := 1045) (by decide +kernel)⟩
theorem lw_p44 : lw_okq (⟨"GreenwaveModel", "isGreenAt", "(IIIZ)Z"⟩, 27) := ⟨⟨by decide +kernel, by decide +kernel⟩, List.mem_of_getElem? (i := 851) (by decide +kernel), List.mem_of_getElem? (i := 1048) (by decide +kernel), List.mem_of_getElem? (i := 1049) (by decide +kernel)⟩
theorem lw_p45 : lw_okq (⟨"GreenwaveModel", "phaseAt", "(IIZ)I"⟩, 27) := ⟨⟨by decide +kernel, by decide +kernel⟩, List.mem_of_getElem? (i := 851) (by decide +kernel), List.mem_of_getElem? (i := 1052) (by decide +kernel), List.mem_of_getElem? (i := 1053) (by decide +kernel)⟩
theorem lw_p46 : lw_okq (⟨"GreenwaveModel", "secondOf", "(II)I"⟩, 27) := ⟨⟨by decide +kernel, by decide +kernel⟩, List.mem_of_getElem? (i := 851) (by decide +kernel), List.mem_of_getElem? (i := 1056) (by decide +kernel), List.mem_of_getElem? (i := 1057) (by decide +kernel)⟩
theorem lw_p47 : lw_okq (⟨"GreenwaveModel", "cycleOf", "(II)I"⟩, 27) := ⟨⟨by decide +kernel, by decide +kernel⟩, List.mem_of_getElem? (i := 851) (by decide +kernel), List.mem_of_getElem? (i := 1060) (by decide +kernel), List.mem_of_getElem? (i := 1061) (by decide +kernel)⟩
def lw_privs_3 : List (MethodName × Nat) := [(⟨"GreenwaveModel", "isBad", "(II)Z"⟩, 27), (⟨"GreenwaveModel", "areIn", "(IIII)Z"⟩, 27), (⟨"GreenwaveModel", "isLink", "(I)Z"⟩, 27), (⟨"GreenwaveModel", "plansAll", "()Z"⟩, 27), (⟨"GreenwaveModel", "plans", "(I)V"⟩, 27), (⟨"GreenwaveModel", "clearingOf", "(II)I"⟩, 27), (⟨"GreenwaveModel", "leastOf", "(II)I"⟩, 27), (⟨"GreenwaveModel", "weight", "(II)I"⟩, 27), (⟨"GreenwaveModel", "betters", "(I)Z"⟩, 27), (⟨"GreenwaveModel", "bands", "()I"⟩, 27), (⟨"GreenwaveModel", "bandOf", "(Z)I"⟩, 27), (⟨"GreenwaveModel", "isFree", "(IZ)Z"⟩, 27), (⟨"GreenwaveModel", "isGreenAt", "(IIIZ)Z"⟩, 27), (⟨"GreenwaveModel", "phaseAt", "(IIZ)I"⟩, 27), (⟨"GreenwaveModel", "secondOf", "(II)I"⟩, 27), (⟨"GreenwaveModel", "cycleOf", "(II)I"⟩, 27)]
theorem lw_r3 : ∀ q ∈ lw_privs_3, lw_okq q := List.forall_mem_cons.mpr ⟨lw_p32, List.forall_mem_cons.mpr ⟨lw_p33, List.forall_mem_cons.mpr ⟨lw_p34, List.forall_mem_cons.mpr ⟨lw_p35, List.forall_mem_cons.mpr ⟨lw_p36, List.forall_mem_cons.mpr ⟨lw_p37, List.forall_mem_cons.mpr ⟨lw_p38, List.forall_mem_cons.mpr ⟨lw_p39, List.forall_mem_cons.mpr ⟨lw_p40, List.forall_mem_cons.mpr ⟨lw_p41, List.forall_mem_cons.mpr ⟨lw_p42, List.forall_mem_cons.mpr ⟨lw_p43, List.forall_mem_cons.mpr ⟨lw_p44, List.forall_mem_cons.mpr ⟨lw_p45, List.forall_mem_cons.mpr ⟨lw_p46, List.forall_mem_cons.mpr ⟨lw_p47, fun _ h => absurd h List.not_mem_nil⟩⟩⟩⟩⟩⟩⟩⟩⟩⟩⟩⟩⟩⟩⟩⟩
theorem lw_p48 : lw_okq (⟨"GreenwaveModel", "isPlanned", "(I)Z"⟩, 27) := ⟨⟨by decide +kernel, by decide +kernel⟩, List.mem_of_getElem? (i := 851) (by decide +kernel), List.mem_of_getElem? (i := 1072) (by decide +kernel), List.mem_of_getElem? (i := 1073) (by decide +kernel)⟩
theorem lw_p49 : lw_okq (⟨"GreenwaveModel", "isPhase", "(II)Z"⟩, 27) := ⟨⟨by decide +kernel, by decide +kernel⟩, List.mem_of_getElem? (i := 851) (by decide +kernel), List.mem_of_getElem? (i := 1080) (by decide +kernel), List.mem_of_getElem? (i := 1081) (by decide +kernel)⟩
theorem lw_p50 : lw_okq (⟨"GreenwaveModel", "isBreach", "(II)Z"⟩, 27) := ⟨⟨by decide +kernel, by decide +kernel⟩, List.mem_of_getElem? (i := 851) (by decide +kernel), List.mem_of_getElem? (i := 1101) (by decide +kernel), List.mem_of_getElem? (i := 1102) (by decide +kernel)⟩
theorem lw_p51 : lw_okq (⟨"GreenwaveModel", "arrives", "()V"⟩, 27) := ⟨⟨by decide +kernel, by decide +kernel⟩, List.mem_of_getElem? (i := 851) (by decide +kernel), List.mem_of_getElem? (i := 1117) (by decide +kernel), List.mem_of_getElem? (i := 1118) (by decide +kernel)⟩
theorem lw_p52 : lw_okq (⟨"GreenwaveModel", "joins", "(I)V"⟩, 27) := ⟨⟨by decide +kernel, by decide +kernel⟩, List.mem_of_getElem? (i := 851) (by decide +kernel), List.mem_of_getElem? (i := 1121) (by decide +kernel), List.mem_of_getElem? (i := 1122) (by decide +kernel)⟩
theorem lw_p53 : lw_okq (⟨"GreenwaveModel", "leaves", "(I)V"⟩, 27) := ⟨⟨by decide +kernel, by decide +kernel⟩, List.mem_of_getElem? (i := 851) (by decide +kernel), List.mem_of_getElem? (i := 1125) (by decide +kernel), List.mem_of_getElem? (i := 1126) (by decide +kernel)⟩
theorem lw_p54 : lw_okq (⟨"GreenwaveModel", "heldOf", "(I)I"⟩, 27) := ⟨⟨by decide +kernel, by decide +kernel⟩, List.mem_of_getElem? (i := 851) (by decide +kernel), List.mem_of_getElem? (i := 1129) (by decide +kernel), List.mem_of_getElem? (i := 1130) (by decide +kernel)⟩
theorem lw_p55 : lw_okq (⟨"GreenwaveModel", "errorOfCall", "(II)I"⟩, 27) := ⟨⟨by decide +kernel, by decide +kernel⟩, List.mem_of_getElem? (i := 851) (by decide +kernel), List.mem_of_getElem? (i := 1137) (by decide +kernel), List.mem_of_getElem? (i := 1138) (by decide +kernel)⟩
theorem lw_p56 : lw_okq (⟨"GreenwaveModel", "phaseOf", "(II)I"⟩, 27) := ⟨⟨by decide +kernel, by decide +kernel⟩, List.mem_of_getElem? (i := 851) (by decide +kernel), List.mem_of_getElem? (i := 1141) (by decide +kernel), List.mem_of_getElem? (i := 1142) (by decide +kernel)⟩
theorem lw_p57 : lw_okq (⟨"GreenwaveModel", "above", "(II)I"⟩, 27) := ⟨⟨by decide +kernel, by decide +kernel⟩, List.mem_of_getElem? (i := 851) (by decide +kernel), List.mem_of_getElem? (i := 1145) (by decide +kernel), List.mem_of_getElem? (i := 1146) (by decide +kernel)⟩
theorem lw_p58 : lw_okq (⟨"GreenwaveModel", "behind", "(II)I"⟩, 27) := ⟨⟨by decide +kernel, by decide +kernel⟩, List.mem_of_getElem? (i := 851) (by decide +kernel), List.mem_of_getElem? (i := 1152) (by decide +kernel), List.mem_of_getElem? (i := 1153) (by decide +kernel)⟩
def lw_privs_4 : List (MethodName × Nat) := [(⟨"GreenwaveModel", "isPlanned", "(I)Z"⟩, 27), (⟨"GreenwaveModel", "isPhase", "(II)Z"⟩, 27), (⟨"GreenwaveModel", "isBreach", "(II)Z"⟩, 27), (⟨"GreenwaveModel", "arrives", "()V"⟩, 27), (⟨"GreenwaveModel", "joins", "(I)V"⟩, 27), (⟨"GreenwaveModel", "leaves", "(I)V"⟩, 27), (⟨"GreenwaveModel", "heldOf", "(I)I"⟩, 27), (⟨"GreenwaveModel", "errorOfCall", "(II)I"⟩, 27), (⟨"GreenwaveModel", "phaseOf", "(II)I"⟩, 27), (⟨"GreenwaveModel", "above", "(II)I"⟩, 27), (⟨"GreenwaveModel", "behind", "(II)I"⟩, 27)]
theorem lw_r4 : ∀ q ∈ lw_privs_4, lw_okq q := List.forall_mem_cons.mpr ⟨lw_p48, List.forall_mem_cons.mpr ⟨lw_p49, List.forall_mem_cons.mpr ⟨lw_p50, List.forall_mem_cons.mpr ⟨lw_p51, List.forall_mem_cons.mpr ⟨lw_p52, List.forall_mem_cons.mpr ⟨lw_p53, List.forall_mem_cons.mpr ⟨lw_p54, List.forall_mem_cons.mpr ⟨lw_p55, List.forall_mem_cons.mpr ⟨lw_p56, List.forall_mem_cons.mpr ⟨lw_p57, List.forall_mem_cons.mpr ⟨lw_p58, fun _ h => absurd h List.not_mem_nil⟩⟩⟩⟩⟩⟩⟩⟩⟩⟩⟩
def lw_privs : List (MethodName × Nat) := lw_privs_1 ++ (lw_privs_2 ++ (lw_privs_3 ++ (lw_privs_4)))
def lw_tbl : List Cond := k2_sels lw_privs ++ tables_1
theorem lw_privs_ok : ∀ q ∈ lw_privs, lw_okq q := by
  show ∀ q ∈ lw_privs_1 ++ (lw_privs_2 ++ (lw_privs_3 ++ (lw_privs_4))), lw_okq q
  exact List.forall_mem_append.mpr ⟨lw_r1, List.forall_mem_append.mpr ⟨lw_r2, List.forall_mem_append.mpr ⟨lw_r3, lw_r4⟩⟩⟩
end
section
/-! ===== BEGIN words of one list among another's, by their places ===== -/
theorem goodIn_r {big : List Cond} (ws : List Cond) (ps : List Nat) (hp : ws = ps.filterMap (fun i => big[i]?)) (h : ws.all goodWord = true) : GoodIn big ws := by
  intro w hw
  have h1 := List.all_eq_true.mp h w hw
  rw [hp] at hw
  obtain ⟨i, -, hi⟩ := List.mem_filterMap.mp hw
  have hm : w ∈ big := by first | exact List.mem_of_getElem? hi | exact List.getElem?_mem hi
  exact ⟨hm, good_of_word h1⟩
theorem goodIn_app {big a b : List Cond} (ha : GoodIn big a) (hb : GoodIn big b) : GoodIn big (a ++ b) := fun w h => (List.mem_append.mp h).elim (ha w) (hb w)
theorem goodIn_ca {big a b : List Cond} {c : Cond} (ha : GoodIn big (c :: a)) (hb : GoodIn big b) : GoodIn big (c :: (a ++ b)) := fun w h => (List.mem_cons.mp h).elim (fun e => ha w (List.mem_cons.mpr (Or.inl e))) (fun h => (List.mem_append.mp h).elim (fun h => ha w (List.mem_cons.mpr (Or.inr h))) (hb w))
theorem goodIn_sub {big ws : List Cond} (hm : ∀ w ∈ ws, w ∈ big) (h : ws.all goodWord = true) : GoodIn big ws := fun w hw => ⟨hm w hw, good_of_word (List.all_eq_true.mp h w hw)⟩
/-! ===== END ===== -/

/-! ===== BEGIN exceptions that leave a method, and their catching by the caller (launches without stack traces) ===== -/
section VXA
/-! The laws vx_back, vx_callV, vx_callS, vx_callSW, vx_throw0, vx_throwS follow proofs of the library, with one case more: JvmDerived/Free/Laws.lean (Back.of_free), Shelf42/LK1.lean (callV, callS), Shelf/KitTraced.lean (throwNew0V, throwNewS). -/
/-- where a method has thrown q: the class by its name, the cell, what was written, the world -/
def vx_T (XC : String → State → State → Prop) (st : State) (q : Addr) (t : State) (mc ms : Nat) (free : Addr → Prop) : Prop :=
  ∃ (E : String) (ce : Cell) (L : List Loc), XC E st t ∧ t.heap[q]? = some ce ∧ ce.vm = .none ∧ st.vm.findClass E = some ce.cls ∧ st.WarmedH t.vm ∧ st.sameButNew ({ t with vm := st.vm } : State) L mc ms ∧ ∀ z ∈ L, free z.base
def vx_Q (Qc : Array Value → State → Outcome → State → Prop) (XC : String → State → State → Prop) (mc ms : Nat) (free : Addr → Prop) : Array Value → State → Outcome → State → Prop := fun a st o t =>
  (Qc a st o t ∧ ∃ L, FrameEnd st o t L mc ms ∧ ∀ q ∈ L, free q.base) ∨ ∃ q, o = .threw q ∧ vx_T XC st q t mc ms free
/-- a callee that returns or throws -/
def vx_Met (l : Launch) (y : MethodName) (ws : List Cond) (rm : Room) (Pc : Array Value → State → Prop) (Qc : Array Value → State → Outcome → State → Prop) (XC : String → State → State → Prop) (mc ms : Nat) (free : Addr → Prop) : Prop :=
  MetFree l y (headSpec ws rm) Pc (fun _ _ _ _ _ => True) (vx_Q Qc XC mc ms free)
def vx_Post (XC : String → State → State → Prop) (mc ms : Nat) (free : Addr → Prop) : Pt → Array Value → Addr → Pt → Prop := fun A a q B =>
  ∃ (g : JFrame) (mk : MethodId) (t : State) (L : List Loc) (E : String) (ce : Cell), B.U.heap = t.heap ∧ B.U.vm = t.vm ∧ XC E (A.U.calling g mk a) t ∧ t.heap[q]? = some ce ∧ ce.vm = .none ∧ A.U.vm.findClass E = some ce.cls ∧ B.locs = A.locs ++ L ∧ (∀ z ∈ L, free z.base) ∧ B.cells = A.cells + mc ∧ B.slots = A.slots + ms
def vx_Back (l : Launch) (R : Room) (p : Program) (e : Env) (below : List Frame) (s : State) (sargs : Array Value) (y : MethodName) (len W9 : Nat)
    (Pre : Pt → Array Value → Prop) (Post : Pt → Array Value → Option Value → Pt → Prop) (PostX : Pt → Array Value → Addr → Pt → Prop) : Prop :=
  ∀ (m : MethodId) (meth : Method) (c : Code) (A : Pt) (g : JFrame) (ig : Instr) (mk : MethodId) (a : Array Value),
    Stand p l e R s m sargs below meth c A.U A.locs A.cells A.slots → g.method = m → g.locals.size = c.maxLocals → decode c.code g.pc = .ok (ig, len) →
    2 * g.monitorRoom + (g.stack.map fun v => v.category).sum ≤ W9 → A.U.methodNamed? y = some mk → Pre A a →
    (∃ (v : Option Value) (B : Pt), Stand p l e R s m sargs below meth c B.U B.locs B.cells B.slots ∧ Post A a v B ∧
      Steps p.tables e below (doInvoke e (A.U.setTop g) [] mk a).1 (B.U.setTop { g with pc := g.pc + len, stack := v.toList ++ g.stack })) ∨
    (∃ (q : Addr) (B : Pt), Stand p l e R s m sargs below meth c B.U B.locs B.cells B.slots ∧ PostX A a q B ∧
      Steps p.tables e below (doInvoke e (A.U.setTop g) [] mk a).1 ((B.U.setTop g).pushFrame (.throwing q)))
section Payer
variable {l : Launch} {R : Room} {p : Program} {e : Env} {below : List Frame} {s : State} {sargs : Array Value} {y : MethodName} {len W9 : Nat}
theorem vx_back {ws : List Cond} {rm : Room} {Pc : Array Value → State → Prop} {Qc : Array Value → State → Outcome → State → Prop} {XC : String → State → State → Prop} {mc ms : Nat} {free : Addr → Prop} {bytes : ByteArray} {maxL : Nat} {ret : Option FieldType}
    (hM : vx_Met l y ws rm Pc Qc XC mc ms free) (hblind : FrameBlind Pc) (hrc : rm.cells = mc) (hrs : rm.slots = ms)
    (hframes : rm.frames + 1 ≤ R.frames) (hlocals : W9 + (maxL + 11) + rm.locals ≤ R.locals)
    (hws : ∀ w ∈ ws, ∀ a' U, s.WarmedH U.vm → w.before a' U = true) (hcode : Cond.code y bytes maxL ret ∈ ws) (hinit : ∀ a' U, s.WarmedH U.vm → (Cond.initialized y.cls).before a' U = true) :
    vx_Back l R p e below s sargs y len W9 (PreOf R mc ms Pc) (PostOf Qc mc ms free) (vx_Post XC mc ms free) := by
  intro m meth c A g ig mk a X hg hsize hdg hW hn hp
  have h1 : (headSpec ws rm).pre.before a A.U = true := atoms_intro fun w hw => hws w hw _ _ X.warmed
  have h2 : (Cond.code y bytes maxL ret).before a A.U = true := hws _ hcode _ _ X.warmed
  have h3 : (Cond.initialized y.cls).before a A.U = true := hinit _ _ X.warmed
  have h4 : A.cells + (headSpec ws rm).room.cells ≤ R.cells := by rw [show (headSpec ws rm).room.cells = mc from hrc]; exact hp.1
  have h5 : A.slots + (headSpec ws rm).room.slots ≤ R.slots := by rw [show (headSpec ws rm).room.slots = ms from hrs]; exact hp.2.1
  have hPc : Pc a (A.U.calling g mk a) := hblind _ _ _ _ hp.2.2
  obtain ⟨U, Ls, c0, s0⟩ := A
  dsimp only [Pt.U, Pt.locs, Pt.cells, Pt.slots] at h1 h2 h3 h4 h5 X hn hPc ⊢
  obtain ⟨methY, cY, hmY, hcY, -, hlY, -, -, -, -⟩ := Cond.code_spec hn h2
  obtain ⟨kY, hkY, -⟩ := className_of_methodNamed hn
  have hinitY : kY.init = .initialized := Cond.initialized_spec (findClass_of_methodNamed hn) hkY h3
  have h : At U g.method c below := by rw [hg]; exact X.here
  have hlocals9 : W9 + (maxL + 11) + (headSpec ws rm).room.locals ≤ R.locals := hlocals
  have happ : (headSpec ws rm).appliesLoose y e.platform (U.calling g mk a) = true :=
    Spec.appliesLoose_calling (g := g) h hdg hn hkY hinitY
      (X.room_calling (g := g) (R' := (headSpec ws rm).room) hsize hmY hcY hframes (by rw [hlY]; omega) h4 h5) h1
  obtain ⟨mid, hmid⟩ := h.above
  have hfr : (U.setTop g).frames = (.java g :: mid) ++ below := by rw [State.frames_setTop' g h.top, hmid]; rfl
  obtain ⟨o, s₂, hsteps, -, hend, hq⟩ := Steps.callFree hM p X.admits X.cas X.clock (acts := []) hfr happ hPc trivial
  have hq' : vx_Q Qc XC mc ms free a (U.calling g mk a) o s₂ := hq
  rw [State.frames_setTop' g h.top] at hend
  obtain ⟨g₀, hg0⟩ := Option.isSome_iff_exists.mp h.top
  obtain ⟨r, hr⟩ := State.topJava?_eq_some.mp hg0
  have hr' : (({ U with heap := s₂.heap, slotsUsed := s₂.slotsUsed } : State).setVm s₂.vm).frames = .java g₀ :: r := hr
  rcases hq' with ⟨hqc, L, hfe, hL⟩ | ⟨q, rfl, E, ce, L, hx, hce, hcv, hcl, hW₂, hsm, hL⟩
  · obtain ⟨⟨v, rfl⟩, hW₂, e2, q2, q3, q4, q5, q6⟩ := id hfe
    have e3 : s₂ = ({ (U.calling g mk a).setFrames s₂.frames with heap := s₂.heap, slotsUsed := s₂.slotsUsed } : State).setVm s₂.vm := by
      have : s₂ = ({ s₂ with vm := (U.calling g mk a).vm } : State).setVm s₂.vm := rfl
      rw [e2] at this
      exact this
    obtain ⟨c₂, i₂, len₂, hc₂, hd₂, hf₂⟩ := hend
    have hW' : U.WarmedH s₂.vm := hW₂
    have hcc : c₂ = c := by
      have h1 : s₂.code? g.method = U.code? g.method := by
        rw [State.code?_eq, State.code?_eq, hW'.alike.method?]
      exact Option.some.inj (hc₂.symm.trans (h1.trans h.code))
    subst hcc
    have hlen : len₂ = len := by rw [hdg] at hd₂; cases hd₂; rfl
    subst hlen
    have hs₂ : s₂ = (({ U with heap := s₂.heap, slotsUsed := s₂.slotsUsed } : State).setVm s₂.vm).setTop { g with pc := g.pc + len₂, stack := v.toList ++ g.stack } := by
      refine e3.trans ?_
      rw [hf₂, State.calling_eq h.top, State.setFrames_setFrames, State.setTop_of_frames _ hr', hr]
      rfl
    have hsame : U.sameButNew ({ U with heap := s₂.heap, slotsUsed := s₂.slotsUsed } : State) L mc ms := by
      refine ⟨?_, q2, q3, q4, q5, q6⟩
      obtain ⟨t, ht, -⟩ := State.frames_cons hr
      show ({ U with heap := s₂.heap, slotsUsed := s₂.slotsUsed } : State) = { U.setFrames U.frames with heap := s₂.heap, slotsUsed := s₂.slotsUsed }
      rw [State.setFrames_self ht]
    subst hg
    refine Or.inl ⟨v, ⟨(({ U with heap := s₂.heap, slotsUsed := s₂.slotsUsed } : State).setVm s₂.vm), Ls ++ L, c0 + mc, s0 + ms⟩,
      ⟨X.admits, X.cas, X.clock, X.frames, X.room, X.hears, X.method, X.code, (X.here.setHeapUsed s₂.heap s₂.slotsUsed).setVm hW'.alike, X.tail, State.WarmedH.trans X.warmed hW', X.limits, X.bytes, X.same.trans (hsame.setVm s.vm)⟩,
      ⟨g, mk, s₂, L, rfl, rfl, hqc, rfl, hL, rfl, rfl⟩, ?_⟩
    show Steps p.tables e below _ ((({ U with heap := s₂.heap, slotsUsed := s₂.slotsUsed } : State).setVm s₂.vm).setTop { g with pc := g.pc + len₂, stack := v.toList ++ g.stack })
    rw [← hs₂]
    exact hsteps
  · obtain ⟨e2, q2, q3, q4, q5, q6⟩ := id hsm
    have e3 : s₂ = ({ (U.calling g mk a).setFrames s₂.frames with heap := s₂.heap, slotsUsed := s₂.slotsUsed } : State).setVm s₂.vm := by
      have : s₂ = ({ s₂ with vm := (U.calling g mk a).vm } : State).setVm s₂.vm := rfl
      rw [e2] at this
      exact this
    have hf₂ : s₂.frames = .throwing q :: .java g :: U.frames.tail := hend
    have hW' : U.WarmedH s₂.vm := hW₂
    have hs₂ : s₂ = ((({ U with heap := s₂.heap, slotsUsed := s₂.slotsUsed } : State).setVm s₂.vm).setTop g).pushFrame (.throwing q) := by
      refine e3.trans ?_
      rw [hf₂, State.calling_eq h.top, State.setFrames_setFrames, State.pushFrame, State.frames_setTop _ hr', State.setTop_of_frames _ hr', State.setFrames_setFrames, hr]
      rfl
    have hsame : U.sameButNew ({ U with heap := s₂.heap, slotsUsed := s₂.slotsUsed } : State) L mc ms := by
      refine ⟨?_, q2, q3, q4, q5, q6⟩
      obtain ⟨t, ht, -⟩ := State.frames_cons hr
      show ({ U with heap := s₂.heap, slotsUsed := s₂.slotsUsed } : State) = { U.setFrames U.frames with heap := s₂.heap, slotsUsed := s₂.slotsUsed }
      rw [State.setFrames_self ht]
    subst hg
    refine Or.inr ⟨q, ⟨(({ U with heap := s₂.heap, slotsUsed := s₂.slotsUsed } : State).setVm s₂.vm), Ls ++ L, c0 + mc, s0 + ms⟩,
      ⟨X.admits, X.cas, X.clock, X.frames, X.room, X.hears, X.method, X.code, (X.here.setHeapUsed s₂.heap s₂.slotsUsed).setVm hW'.alike, X.tail, State.WarmedH.trans X.warmed hW', X.limits, X.bytes, X.same.trans (hsame.setVm s.vm)⟩,
      ⟨g, mk, s₂, L, E, ce, rfl, rfl, hx, hce, hcv, hcl, rfl, hL, rfl, rfl⟩, ?_⟩
    show Steps p.tables e below _ (((({ U with heap := s₂.heap, slotsUsed := s₂.slotsUsed } : State).setVm s₂.vm).setTop g).pushFrame (.throwing q))
    rw [← hs₂]
    exact hsteps
end Payer
section Calls
variable {p : Program} {l : Launch} {e : Env} {R : Room} {s : State} {m : MethodId} {args : Array Value} {below : List Frame} {meth : Method} {c : Code} {T : State} {locs : List Loc} {cells slots : Nat}
theorem vx_callV (X : Stand p l e R s m args below meth c T locs cells slots) (hexec : p.tables.exec = Jvm.exec) {own C : String} {index : Nat} {y : MethodName} {bytes : ByteArray} {maxL : Nat} {ret : Option FieldType}
    (hown : s.vm.findClass own = some m.cls) (hlink : (Cond.methodLink own index y).before args s = true) (hinst : (Cond.instanceMethod y).before args s = true) (hsel : (Cond.selects C y y).before args s = true)
    (hcode : (Cond.code y bytes maxL ret).before args s = true) (hy : y.cls ≠ "java/lang/invoke/MethodHandle" ∧ y.cls ≠ "java/lang/invoke/VarHandle")
    {W9 : Nat} {Pre : Pt → Array Value → Prop} {Post : Pt → Array Value → Option Value → Pt → Prop} {PostX : Pt → Array Value → Addr → Pt → Prop} (hK : vx_Back l R p e below s args y 3 W9 Pre Post PostX)
    {b : Addr} {cellB : Cell} (hcell : T.heap[b]? = some cellB) (hobj : cellB.vm.isStatics = false) (hcls : s.vm.findClass C = some cellB.cls)
    {g : JFrame} (hg : g.method = m) (hsize : g.locals.size = c.maxLocals) {argsL rest : List Value} (hlen : ∀ sig, parseMethodDescriptor y.desc = some sig → argsL.length = sig.parameters.length)
    (hstack : g.stack = argsL.reverse ++ .ref b :: rest) (hW : 2 * g.monitorRoom + (rest.map fun v => v.category).sum ≤ W9) (hdg : decode c.code g.pc = .ok (.invokevirtual index, 3))
    (hpre : ∀ vm₁, s.WarmedH vm₁ → Pre ⟨T.setVm vm₁, locs, cells, slots⟩ (Value.ref b :: argsL).toArray) :
    (∃ (v : Option Value) (vm₁ : Vm) (B : Pt), s.WarmedH vm₁ ∧ Stand p l e R s m args below meth c B.U B.locs B.cells B.slots ∧ Post ⟨T.setVm vm₁, locs, cells, slots⟩ (Value.ref b :: argsL).toArray v B ∧
      ∀ target, Steps p.tables e below (B.U.setTop { g with pc := g.pc + 3, stack := v.toList ++ rest }) target → Steps p.tables e below (T.setTop g) target) ∨
    (∃ (q : Addr) (vm₁ : Vm) (B : Pt), s.WarmedH vm₁ ∧ Stand p l e R s m args below meth c B.U B.locs B.cells B.slots ∧ PostX ⟨T.setVm vm₁, locs, cells, slots⟩ (Value.ref b :: argsL).toArray q B ∧
      Steps p.tables e below (T.setTop g) ((B.U.setTop { g with stack := rest }).pushFrame (.throwing q))) := by
  obtain ⟨mk, methM, hnamed, hmethM, hstM, habM⟩ := Cond.instanceMethod_spec hinst
  obtain ⟨methM', cM, hmethM', -, -, -, -, -, -, hsigM⟩ := Cond.code_spec hnamed hcode
  cases hmethM.symm.trans hmethM'
  obtain ⟨c2, r2, m2, q1, q2, q3, q4, kP, hkP, hkPi⟩ := Cond.selects_spec hsel
  cases hcls.symm.trans q1
  cases (State.methodFound?_of_named hnamed hy).symm.trans q2
  cases hnamed.symm.trans q3
  have hselP : selectMethod e.platform s.vm cellB.cls mk = .method mk := by rw [Launch.admits_selectMethod X.admits]; exact q4
  obtain ⟨vm₁, X₁, hstep₁⟩ := X.invokevirtual hexec hown hlink hnamed hmethM hstM hkP hkPi hy (a := b) (cell := cellB) hcell
    (fun z h => by rw [h] at hobj; cases hobj) hselP hmethM habM hkP hkPi (g := g) hg (argsL := argsL) (rest := rest) (hlen _ hsigM) hstack hdg
  rcases hK m meth c ⟨T.setVm vm₁, locs, cells, slots⟩ { g with stack := rest } (.invokevirtual index) mk (Value.ref b :: argsL).toArray X₁ hg hsize hdg hW (X₁.named hnamed) (hpre vm₁ X₁.warmed) with ⟨v, B, X', hpost, hsteps⟩ | ⟨q, B, X', hpost, hsteps⟩
  · exact Or.inl ⟨v, vm₁, B, X₁.warmed, X', hpost, fun target h => hstep₁ _ fun acts => by rw [doInvoke_state]; exact hsteps.trans h⟩
  · exact Or.inr ⟨q, vm₁, B, X₁.warmed, X', hpost, hstep₁ _ fun acts => by rw [doInvoke_state]; exact hsteps⟩
theorem vx_callS (X : Stand p l e R s m args below meth c T locs cells slots) (hexec : p.tables.exec = Jvm.exec) {own : String} {index : Nat} {y : MethodName} {bytes : ByteArray} {maxL : Nat} {ret : Option FieldType}
    (hown : s.vm.findClass own = some m.cls) (hlink : (Cond.methodLink own index y).before args s = true) (hstat : (Cond.static y).before args s = true) (hinit : (Cond.initialized y.cls).before args s = true)
    (hcode : (Cond.code y bytes maxL ret).before args s = true) (hy : y.cls ≠ "java/lang/invoke/MethodHandle" ∧ y.cls ≠ "java/lang/invoke/VarHandle")
    {W9 : Nat} {Pre : Pt → Array Value → Prop} {Post : Pt → Array Value → Option Value → Pt → Prop} {PostX : Pt → Array Value → Addr → Pt → Prop} (hK : vx_Back l R p e below s args y 3 W9 Pre Post PostX)
    {g : JFrame} (hg : g.method = m) (hsize : g.locals.size = c.maxLocals) {argsL rest : List Value} (hlen : ∀ sig, parseMethodDescriptor y.desc = some sig → argsL.length = sig.parameters.length)
    (hstack : g.stack = argsL.reverse ++ rest) (hW : 2 * g.monitorRoom + (rest.map fun v => v.category).sum ≤ W9) (hdg : decode c.code g.pc = .ok (.invokestatic index, 3))
    (hpre : ∀ vm₁, s.WarmedH vm₁ → Pre ⟨T.setVm vm₁, locs, cells, slots⟩ argsL.toArray) :
    (∃ (v : Option Value) (vm₁ : Vm) (B : Pt), s.WarmedH vm₁ ∧ Stand p l e R s m args below meth c B.U B.locs B.cells B.slots ∧ Post ⟨T.setVm vm₁, locs, cells, slots⟩ argsL.toArray v B ∧
      ∀ target, Steps p.tables e below (B.U.setTop { g with pc := g.pc + 3, stack := v.toList ++ rest }) target → Steps p.tables e below (T.setTop g) target) ∨
    (∃ (q : Addr) (vm₁ : Vm) (B : Pt), s.WarmedH vm₁ ∧ Stand p l e R s m args below meth c B.U B.locs B.cells B.slots ∧ PostX ⟨T.setVm vm₁, locs, cells, slots⟩ argsL.toArray q B ∧
      Steps p.tables e below (T.setTop g) ((B.U.setTop { g with stack := rest }).pushFrame (.throwing q))) := by
  obtain ⟨mk, hnamed⟩ := Cond.code_named hcode
  obtain ⟨methM, cM, hmethM, -, -, -, -, -, -, hsigM⟩ := Cond.code_spec hnamed hcode
  have hstatic : methM.isStatic = true := Cond.static_spec hnamed hmethM hstat
  obtain ⟨kP, hkP, -⟩ := className_of_methodNamed hnamed
  have hinitP : kP.init = .initialized := Cond.initialized_spec (findClass_of_methodNamed hnamed) hkP hinit
  obtain ⟨vm₁, X₁, hstep₁⟩ := X.invokestatic hexec hown hlink hnamed hmethM hstatic hkP hinitP hy (g := g) hg (argsL := argsL) (rest := rest) (hlen _ hsigM) hstack hdg
  rcases hK m meth c ⟨T.setVm vm₁, locs, cells, slots⟩ { g with stack := rest } (.invokestatic index) mk argsL.toArray X₁ hg hsize hdg hW (X₁.named hnamed) (hpre vm₁ X₁.warmed) with ⟨v, B, X', hpost, hsteps⟩ | ⟨q, B, X', hpost, hsteps⟩
  · exact Or.inl ⟨v, vm₁, B, X₁.warmed, X', hpost, fun target h => hstep₁ _ fun acts => by rw [doInvoke_state]; exact hsteps.trans h⟩
  · exact Or.inr ⟨q, vm₁, B, X₁.warmed, X', hpost, hstep₁ _ fun acts => by rw [doInvoke_state]; exact hsteps⟩
end Calls
theorem vx_cls {s : State} {T : State} {vm₁ : Vm} {E : String} {k : ClassId} (hW : s.WarmedH vm₁) (h : (T.setVm vm₁).vm.findClass E = some k) : s.vm.findClass E = some k := by
  have h1 : vm₁.findClass E = some k := h
  rw [hW.alike.findClass] at h1
  exact h1
/-- the method's frame g, with q thrown over it -/
def vx_W (p : Program) (l : Launch) (e : Env) (R : Room) (s : State) (m : MethodId) (args : Array Value) (below : List Frame) (meth : Method) (c : Code) (H : Heap) (locs : List Loc) (cells slots : Nat) (Q : State → Prop) (g : JFrame) (q : Addr) : Prop :=
  ∀ T : State, T.heap = H → Stand p l e R s m args below meth c T locs cells slots → ∃ t, Steps p.tables e below ((T.setTop g).pushFrame (.throwing q)) t ∧ Q t
def vx_Run (p : Program) (l : Launch) (e : Env) (R : Room) (s : State) (m : MethodId) (args : Array Value) (below : List Frame) (meth : Method) (c : Code) (H : Heap) (locs : List Loc) (cells slots mc ms : Nat) (g : JFrame) (rest : List Value) (Qa : State → Outcome → State → Prop) (XC : String → State → State → Prop) (free : Addr → Prop) : Prop :=
  ∀ T : State, T.heap = H → Stand p l e R s m args below meth c T locs cells slots →
    (∃ (v : Option Value) (st₀ t T' : State) (L : List Loc), st₀.heap = H ∧ Stand p l e R s m args below meth c T' (locs ++ L) (cells + mc) (slots + ms) ∧ (∀ q ∈ L, free q.base) ∧ T'.heap = t.heap ∧ T'.vm = t.vm ∧ Qa st₀ (.returned v) t ∧
      Goes p e below T g T' { g with pc := g.pc + 3, stack := v.toList ++ rest }) ∨
    (∃ (q : Addr) (st₀ t T' : State) (L : List Loc) (E : String) (ce : Cell), st₀.heap = H ∧ Stand p l e R s m args below meth c T' (locs ++ L) (cells + mc) (slots + ms) ∧ (∀ z ∈ L, free z.base) ∧ T'.heap = t.heap ∧ T'.vm = t.vm ∧ XC E st₀ t ∧ t.heap[q]? = some ce ∧ ce.vm = .none ∧ s.vm.findClass E = some ce.cls ∧
      Steps p.tables e below (T.setTop g) ((T'.setTop { g with stack := rest }).pushFrame (.throwing q)))
def vx_X {S : Type} (px : S → Prop) (B : String → S → State → Prop) (A : Nat → Prop) : String → State → State → Prop := fun E st t => ∃ u : S, px u ∧ B E u t ∧ va_F A st t
section Runs
variable {p : Program} {l : Launch} {e : Env} {R : Room} {s : State} {m : MethodId} {args : Array Value} {below : List Frame} {meth : Method} {c : Code} {H : Heap} {locs : List Loc} {cells slots : Nat}
variable {y : MethodName} {bytes cc : ByteArray} {maxL nL mc ms n index : Nat} {ret : Option FieldType} {ws : List Cond} {rm : Room} {Pc : Array Value → State → Prop} {Qc : Array Value → State → Outcome → State → Prop} {XC : String → State → State → Prop} {free : Addr → Prop} {Ts : List Cond} {own C : String} {b : Addr} {As rest : List Value} {g : JFrame}
theorem vx_callBack (cb : CallB R s args own index y bytes maxL ret ws rm mc ms n) (hM : vx_Met l y ws rm Pc Qc XC mc ms free) (hbl : FrameBlind Pc) : vx_Back l R p e below s args y 3 8 (PreOf R mc ms Pc) (PostOf Qc mc ms free) (vx_Post XC mc ms free) := by
  obtain ⟨hrc, hrs, hfr, hlo, hws, hcw, -, hini, -⟩ := cb
  exact vx_back (bytes := bytes) (maxL := maxL) (ret := ret) hM hbl hrc hrs hfr hlo hws hcw (fun a' U hW => word_at hW (Or.inl (by first | rfl | simp [Cond.onTables, Cond.keeps, Cond.steady])) hini)
theorem vx_runV (S : CallFix p m c cc nL s args Ts own) (hM : vx_Met l y ws rm Pc Qc XC mc ms free) (cw : CallW R s args own C index y bytes maxL ret ws rm mc ms n) (hp : PreV s H C b Pc As)
    (hg : g.method = m) (hn : As.length = n) (hsize : g.locals.size = nL) (hstack : g.stack = As.reverse ++ .ref b :: rest) (hW : 2 * g.monitorRoom + (rest.map fun v => v.category).sum ≤ 8) (hdg : decode cc g.pc = .ok (.invokevirtual index, 3)) (hf : cells + mc ≤ R.cells ∧ slots + ms ≤ R.slots) :
    vx_Run p l e R s m args below meth c H locs cells slots mc ms g rest (Qc (Value.ref b :: As).toArray) XC free := by
  have hK : vx_Back l R p e below s args y 3 8 (PreOf R mc ms Pc) (PostOf Qc mc ms free) (vx_Post XC mc ms free) := vx_callBack cw.1 hM hp.1
  obtain ⟨⟨-, -, -, -, -, -, hcode, -, hy, hlen, hl⟩, hin, hse⟩ := cw
  obtain ⟨hx, hb, hml, ho, -⟩ := S
  obtain ⟨-, ⟨cellB, hcB, hoB, hclB⟩, hPc⟩ := hp
  intro T hT X
  rcases vx_callV X hx (C := C) (bytes := bytes) (maxL := maxL) (ret := ret) ho hl hin hse hcode hy hK (by rw [hT]; exact hcB) hoB hclB hg (hsize.trans hml.symm) (argsL := As) (rest := rest) (fun sig h => hn.trans (hlen sig h)) hstack hW (by rw [hb]; exact hdg)
    (fun vm₁ hW₁ => ⟨hf.1, hf.2, hPc (T.setVm vm₁) hT hW₁⟩) with ⟨v, vm₁, ⟨U', l2, c2, s2⟩, hW₁, X', ⟨g', mk, t, L, e1, e2, hq, h1, hL, h2, h3⟩, st⟩ | ⟨q, vm₁, ⟨U', l2, c2, s2⟩, hW₁, X', ⟨g', mk, t, L, E, ce, e1, e2, hq, hce, hcv, hcl, h1, hL, h2, h3⟩, st⟩
  · dsimp only [Pt.U, Pt.locs, Pt.cells, Pt.slots] at X' e1 e2 h1 h2 h3 st
    subst h1; subst h2; subst h3
    exact Or.inl ⟨v, (T.setVm vm₁).calling g' mk (Value.ref b :: As).toArray, t, U', L, hT, X', hL, e1, e2, hq, st⟩
  · dsimp only [Pt.U, Pt.locs, Pt.cells, Pt.slots] at X' e1 e2 h1 h2 h3 st hcl
    subst h1; subst h2; subst h3
    exact Or.inr ⟨q, (T.setVm vm₁).calling g' mk (Value.ref b :: As).toArray, t, U', L, E, ce, hT, X', hL, e1, e2, hq, hce, hcv, vx_cls hW₁ hcl, st⟩
theorem vx_runS (S : CallFix p m c cc nL s args Ts own) (hM : vx_Met l y ws rm Pc Qc XC mc ms free) (cw : CallB R s args own index y bytes maxL ret ws rm mc ms n ∧ (Cond.static y).before args s = true) (hp : PreS s H Pc As)
    (hg : g.method = m) (hn : As.length = n) (hsize : g.locals.size = nL) (hstack : g.stack = As.reverse ++ rest) (hW : 2 * g.monitorRoom + (rest.map fun v => v.category).sum ≤ 8) (hdg : decode cc g.pc = .ok (.invokestatic index, 3)) (hf : cells + mc ≤ R.cells ∧ slots + ms ≤ R.slots) :
    vx_Run p l e R s m args below meth c H locs cells slots mc ms g rest (Qc As.toArray) XC free := by
  have hK : vx_Back l R p e below s args y 3 8 (PreOf R mc ms Pc) (PostOf Qc mc ms free) (vx_Post XC mc ms free) := vx_callBack cw.1 hM hp.1
  obtain ⟨⟨-, -, -, -, -, -, hcode, hini, hy, hlen, hl⟩, hstt⟩ := cw
  obtain ⟨hx, hb, hml, ho, -⟩ := S
  intro T hT X
  rcases vx_callS X hx (bytes := bytes) (maxL := maxL) (ret := ret) ho hl hstt hini hcode hy hK hg (hsize.trans hml.symm) (argsL := As) (rest := rest) (fun sig h => hn.trans (hlen sig h)) hstack hW (by rw [hb]; exact hdg)
    (fun vm₁ hW₁ => ⟨hf.1, hf.2, hp.2 (T.setVm vm₁) hT hW₁⟩) with ⟨v, vm₁, ⟨U', l2, c2, s2⟩, hW₁, X', ⟨g', mk, t, L, e1, e2, hq, h1, hL, h2, h3⟩, st⟩ | ⟨q, vm₁, ⟨U', l2, c2, s2⟩, hW₁, X', ⟨g', mk, t, L, E, ce, e1, e2, hq, hce, hcv, hcl, h1, hL, h2, h3⟩, st⟩
  · dsimp only [Pt.U, Pt.locs, Pt.cells, Pt.slots] at X' e1 e2 h1 h2 h3 st
    subst h1; subst h2; subst h3
    exact Or.inl ⟨v, (T.setVm vm₁).calling g' mk As.toArray, t, U', L, hT, X', hL, e1, e2, hq, st⟩
  · dsimp only [Pt.U, Pt.locs, Pt.cells, Pt.slots] at X' e1 e2 h1 h2 h3 st hcl
    subst h1; subst h2; subst h3
    exact Or.inr ⟨q, (T.setVm vm₁).calling g' mk As.toArray, t, U', L, E, ce, hT, X', hL, e1, e2, hq, hce, hcv, vx_cls hW₁ hcl, st⟩
end Runs
section Rows
variable {p : Program} {l : Launch} {e : Env} {R : Room} {s : State} {m : MethodId} {args : Array Value} {below : List Frame} {meth : Method} {c : Code} {H : Heap} {locs : List Loc} {cells slots : Nat} {Q : State → Prop}
variable {mc ms : Nat} {free : Addr → Prop} {A0 A1 : Nat → Prop} {H0 : Heap} {a : Array Value} {pc : Nat} {ls : Array Slot} {st0 rest : List Value}
theorem vx_keep {st₀ t T' : State} {L : List Loc} (h0 : st₀.heap = H) (e1 : T'.heap = t.heap) (hS : va_S A0 H0 H locs) (hA : ∀ q, q < H.size → A1 q → A0 q) (hf : ∀ q, free q → A0 q) (hL : ∀ q ∈ L, free q.base) (hF : va_F A1 st₀ t) :
    H.size ≤ T'.heap.size ∧ (∀ q : Nat, q < H.size → ¬ A1 q → T'.heap[q]? = H[q]?) ∧ va_S A0 H0 T'.heap (locs ++ L) := by
  obtain ⟨hz, hk⟩ := hF
  rw [h0] at hz hk
  exact ⟨by rw [e1]; exact hz, fun q h1 h2 => by rw [e1]; exact hk q h1 h2,
    ⟨Nat.le_trans hS.1 (by rw [e1]; exact hz), fun q h1 h2 => by rw [e1, hk q (Nat.lt_of_lt_of_le h1 hS.1) (fun z => h2 (hA q (Nat.lt_of_lt_of_le h1 hS.1) z))]; exact hS.2.1 q h1 h2, fun q hq => by
      rcases List.mem_append.mp hq with h | h
      · exact hS.2.2 q h
      · exact hf _ (hL q h)⟩⟩
theorem vx_calli {S SX : Type} {post : Int32 → S → Prop} {px : SX → Prop} {B : S → State → Prop} {BX : String → SX → State → Prop} {AX : Nat → Prop} (hr : vx_Run p l e R s m args below meth c H locs cells slots mc ms (F0 m pc ls st0) rest (va_Qi post B A1 a) (vx_X px BX AX) free) (hS : va_S A0 H0 H locs) (hA : ∀ q, q < H.size → A1 q → A0 q) (hf : ∀ q, free q → A0 q) (hAX : ∀ q, q < H.size → AX q → A0 q)
    (kx : ∀ (E : String) (ce : Cell) (q9 : Addr) (u : SX) (t : State) (H1 : Heap) (locs1 : List Loc), t.heap = H1 → s.vm.Alike t.vm → px u → BX E u t → H.size ≤ H1.size → (∀ q : Nat, q < H.size → ¬ AX q → H1[q]? = H[q]?) → va_S A0 H0 H1 locs1 → H1[q9]? = some ce → ce.vm = .none → s.vm.findClass E = some ce.cls → vx_W p l e R s m args below meth c H1 locs1 (cells + mc) (slots + ms) Q (F0 m pc ls rest) q9)
    (kk : ∀ (r : Int32) (u : S) (t : State) (H1 : Heap) (locs1 : List Loc), t.heap = H1 → s.vm.Alike t.vm → post r u → B u t → H.size ≤ H1.size → (∀ q : Nat, q < H.size → ¬ A1 q → H1[q]? = H[q]?) → va_S A0 H0 H1 locs1 → W p l e R s m args below meth c H1 locs1 (cells + mc) (slots + ms) Q (F0 m (pc + 3) ls (.int r :: rest))) : W p l e R s m args below meth c H locs cells slots Q (F0 m pc ls st0) := by
  intro T hT X
  rcases hr T hT X with ⟨v, st₀, t, T', L, h0, X', hL, e1, e2, ⟨⟨r, u, hv, hp, hb⟩, hF⟩, st⟩ | ⟨q, st₀, t, T', L, E, ce, h0, X', hL, e1, e2, ⟨u, hp, hb, hF⟩, hce, hcv, hcl, st⟩
  · cases hv
    obtain ⟨k1, k2, k3⟩ := vx_keep h0 e1 hS hA hf hL hF
    obtain ⟨t2, a1, b1⟩ := kk r u t T'.heap (locs ++ L) e1.symm (by rw [← e2]; exact X'.warmed.alike) hp hb k1 k2 k3 T' rfl X'
    exact ⟨t2, st t2 a1, b1⟩
  · obtain ⟨k1, k2, k3⟩ := vx_keep h0 e1 hS hAX hf hL hF
    obtain ⟨t2, a1, b1⟩ := kx E ce q u t T'.heap (locs ++ L) e1.symm (by rw [← e2]; exact X'.warmed.alike) hp hb k1 k2 k3 (by rw [e1]; exact hce) hcv hcl T' rfl X'
    exact ⟨t2, st.trans a1, b1⟩
theorem vx_calll {S SX : Type} {post : Int64 → S → Prop} {px : SX → Prop} {B : S → State → Prop} {BX : String → SX → State → Prop} {AX : Nat → Prop} (hr : vx_Run p l e R s m args below meth c H locs cells slots mc ms (F0 m pc ls st0) rest (va_Ql post B A1 a) (vx_X px BX AX) free) (hS : va_S A0 H0 H locs) (hA : ∀ q, q < H.size → A1 q → A0 q) (hf : ∀ q, free q → A0 q) (hAX : ∀ q, q < H.size → AX q → A0 q)
    (kx : ∀ (E : String) (ce : Cell) (q9 : Addr) (u : SX) (t : State) (H1 : Heap) (locs1 : List Loc), t.heap = H1 → s.vm.Alike t.vm → px u → BX E u t → H.size ≤ H1.size → (∀ q : Nat, q < H.size → ¬ AX q → H1[q]? = H[q]?) → va_S A0 H0 H1 locs1 → H1[q9]? = some ce → ce.vm = .none → s.vm.findClass E = some ce.cls → vx_W p l e R s m args below meth c H1 locs1 (cells + mc) (slots + ms) Q (F0 m pc ls rest) q9)
    (kk : ∀ (r : Int64) (u : S) (t : State) (H1 : Heap) (locs1 : List Loc), t.heap = H1 → s.vm.Alike t.vm → post r u → B u t → H.size ≤ H1.size → (∀ q : Nat, q < H.size → ¬ A1 q → H1[q]? = H[q]?) → va_S A0 H0 H1 locs1 → W p l e R s m args below meth c H1 locs1 (cells + mc) (slots + ms) Q (F0 m (pc + 3) ls (.long r :: rest))) : W p l e R s m args below meth c H locs cells slots Q (F0 m pc ls st0) := by
  intro T hT X
  rcases hr T hT X with ⟨v, st₀, t, T', L, h0, X', hL, e1, e2, ⟨⟨r, u, hv, hp, hb⟩, hF⟩, st⟩ | ⟨q, st₀, t, T', L, E, ce, h0, X', hL, e1, e2, ⟨u, hp, hb, hF⟩, hce, hcv, hcl, st⟩
  · cases hv
    obtain ⟨k1, k2, k3⟩ := vx_keep h0 e1 hS hA hf hL hF
    obtain ⟨t2, a1, b1⟩ := kk r u t T'.heap (locs ++ L) e1.symm (by rw [← e2]; exact X'.warmed.alike) hp hb k1 k2 k3 T' rfl X'
    exact ⟨t2, st t2 a1, b1⟩
  · obtain ⟨k1, k2, k3⟩ := vx_keep h0 e1 hS hAX hf hL hF
    obtain ⟨t2, a1, b1⟩ := kx E ce q u t T'.heap (locs ++ L) e1.symm (by rw [← e2]; exact X'.warmed.alike) hp hb k1 k2 k3 (by rw [e1]; exact hce) hcv hcl T' rfl X'
    exact ⟨t2, st.trans a1, b1⟩
theorem vx_callf {S SX : Type} {post : UInt32 → S → Prop} {px : SX → Prop} {B : S → State → Prop} {BX : String → SX → State → Prop} {AX : Nat → Prop} (hr : vx_Run p l e R s m args below meth c H locs cells slots mc ms (F0 m pc ls st0) rest (va_Qf post B A1 a) (vx_X px BX AX) free) (hS : va_S A0 H0 H locs) (hA : ∀ q, q < H.size → A1 q → A0 q) (hf : ∀ q, free q → A0 q) (hAX : ∀ q, q < H.size → AX q → A0 q)
    (kx : ∀ (E : String) (ce : Cell) (q9 : Addr) (u : SX) (t : State) (H1 : Heap) (locs1 : List Loc), t.heap = H1 → s.vm.Alike t.vm → px u → BX E u t → H.size ≤ H1.size → (∀ q : Nat, q < H.size → ¬ AX q → H1[q]? = H[q]?) → va_S A0 H0 H1 locs1 → H1[q9]? = some ce → ce.vm = .none → s.vm.findClass E = some ce.cls → vx_W p l e R s m args below meth c H1 locs1 (cells + mc) (slots + ms) Q (F0 m pc ls rest) q9)
    (kk : ∀ (r : UInt32) (u : S) (t : State) (H1 : Heap) (locs1 : List Loc), t.heap = H1 → s.vm.Alike t.vm → post r u → B u t → H.size ≤ H1.size → (∀ q : Nat, q < H.size → ¬ A1 q → H1[q]? = H[q]?) → va_S A0 H0 H1 locs1 → W p l e R s m args below meth c H1 locs1 (cells + mc) (slots + ms) Q (F0 m (pc + 3) ls (.float r :: rest))) : W p l e R s m args below meth c H locs cells slots Q (F0 m pc ls st0) := by
  intro T hT X
  rcases hr T hT X with ⟨v, st₀, t, T', L, h0, X', hL, e1, e2, ⟨⟨r, u, hv, hp, hb⟩, hF⟩, st⟩ | ⟨q, st₀, t, T', L, E, ce, h0, X', hL, e1, e2, ⟨u, hp, hb, hF⟩, hce, hcv, hcl, st⟩
  · cases hv
    obtain ⟨k1, k2, k3⟩ := vx_keep h0 e1 hS hA hf hL hF
    obtain ⟨t2, a1, b1⟩ := kk r u t T'.heap (locs ++ L) e1.symm (by rw [← e2]; exact X'.warmed.alike) hp hb k1 k2 k3 T' rfl X'
    exact ⟨t2, st t2 a1, b1⟩
  · obtain ⟨k1, k2, k3⟩ := vx_keep h0 e1 hS hAX hf hL hF
    obtain ⟨t2, a1, b1⟩ := kx E ce q u t T'.heap (locs ++ L) e1.symm (by rw [← e2]; exact X'.warmed.alike) hp hb k1 k2 k3 (by rw [e1]; exact hce) hcv hcl T' rfl X'
    exact ⟨t2, st.trans a1, b1⟩
theorem vx_calld {S SX : Type} {post : UInt64 → S → Prop} {px : SX → Prop} {B : S → State → Prop} {BX : String → SX → State → Prop} {AX : Nat → Prop} (hr : vx_Run p l e R s m args below meth c H locs cells slots mc ms (F0 m pc ls st0) rest (va_Qd post B A1 a) (vx_X px BX AX) free) (hS : va_S A0 H0 H locs) (hA : ∀ q, q < H.size → A1 q → A0 q) (hf : ∀ q, free q → A0 q) (hAX : ∀ q, q < H.size → AX q → A0 q)
    (kx : ∀ (E : String) (ce : Cell) (q9 : Addr) (u : SX) (t : State) (H1 : Heap) (locs1 : List Loc), t.heap = H1 → s.vm.Alike t.vm → px u → BX E u t → H.size ≤ H1.size → (∀ q : Nat, q < H.size → ¬ AX q → H1[q]? = H[q]?) → va_S A0 H0 H1 locs1 → H1[q9]? = some ce → ce.vm = .none → s.vm.findClass E = some ce.cls → vx_W p l e R s m args below meth c H1 locs1 (cells + mc) (slots + ms) Q (F0 m pc ls rest) q9)
    (kk : ∀ (r : UInt64) (u : S) (t : State) (H1 : Heap) (locs1 : List Loc), t.heap = H1 → s.vm.Alike t.vm → post r u → B u t → H.size ≤ H1.size → (∀ q : Nat, q < H.size → ¬ A1 q → H1[q]? = H[q]?) → va_S A0 H0 H1 locs1 → W p l e R s m args below meth c H1 locs1 (cells + mc) (slots + ms) Q (F0 m (pc + 3) ls (.double r :: rest))) : W p l e R s m args below meth c H locs cells slots Q (F0 m pc ls st0) := by
  intro T hT X
  rcases hr T hT X with ⟨v, st₀, t, T', L, h0, X', hL, e1, e2, ⟨⟨r, u, hv, hp, hb⟩, hF⟩, st⟩ | ⟨q, st₀, t, T', L, E, ce, h0, X', hL, e1, e2, ⟨u, hp, hb, hF⟩, hce, hcv, hcl, st⟩
  · cases hv
    obtain ⟨k1, k2, k3⟩ := vx_keep h0 e1 hS hA hf hL hF
    obtain ⟨t2, a1, b1⟩ := kk r u t T'.heap (locs ++ L) e1.symm (by rw [← e2]; exact X'.warmed.alike) hp hb k1 k2 k3 T' rfl X'
    exact ⟨t2, st t2 a1, b1⟩
  · obtain ⟨k1, k2, k3⟩ := vx_keep h0 e1 hS hAX hf hL hF
    obtain ⟨t2, a1, b1⟩ := kx E ce q u t T'.heap (locs ++ L) e1.symm (by rw [← e2]; exact X'.warmed.alike) hp hb k1 k2 k3 (by rw [e1]; exact hce) hcv hcl T' rfl X'
    exact ⟨t2, st.trans a1, b1⟩
theorem vx_callv {S SX : Type} {post : S → Prop} {px : SX → Prop} {B : S → State → Prop} {BX : String → SX → State → Prop} {AX : Nat → Prop} (hr : vx_Run p l e R s m args below meth c H locs cells slots mc ms (F0 m pc ls st0) rest (va_Qv post B A1 a) (vx_X px BX AX) free) (hS : va_S A0 H0 H locs) (hA : ∀ q, q < H.size → A1 q → A0 q) (hf : ∀ q, free q → A0 q) (hAX : ∀ q, q < H.size → AX q → A0 q)
    (kx : ∀ (E : String) (ce : Cell) (q9 : Addr) (u : SX) (t : State) (H1 : Heap) (locs1 : List Loc), t.heap = H1 → s.vm.Alike t.vm → px u → BX E u t → H.size ≤ H1.size → (∀ q : Nat, q < H.size → ¬ AX q → H1[q]? = H[q]?) → va_S A0 H0 H1 locs1 → H1[q9]? = some ce → ce.vm = .none → s.vm.findClass E = some ce.cls → vx_W p l e R s m args below meth c H1 locs1 (cells + mc) (slots + ms) Q (F0 m pc ls rest) q9)
    (kk : ∀ (u : S) (t : State) (H1 : Heap) (locs1 : List Loc), t.heap = H1 → s.vm.Alike t.vm → post u → B u t → H.size ≤ H1.size → (∀ q : Nat, q < H.size → ¬ A1 q → H1[q]? = H[q]?) → va_S A0 H0 H1 locs1 → W p l e R s m args below meth c H1 locs1 (cells + mc) (slots + ms) Q (F0 m (pc + 3) ls (rest))) : W p l e R s m args below meth c H locs cells slots Q (F0 m pc ls st0) := by
  intro T hT X
  rcases hr T hT X with ⟨v, st₀, t, T', L, h0, X', hL, e1, e2, ⟨⟨u, hv, hp, hb⟩, hF⟩, st⟩ | ⟨q, st₀, t, T', L, E, ce, h0, X', hL, e1, e2, ⟨u, hp, hb, hF⟩, hce, hcv, hcl, st⟩
  · cases hv
    obtain ⟨k1, k2, k3⟩ := vx_keep h0 e1 hS hA hf hL hF
    obtain ⟨t2, a1, b1⟩ := kk u t T'.heap (locs ++ L) e1.symm (by rw [← e2]; exact X'.warmed.alike) hp hb k1 k2 k3 T' rfl X'
    exact ⟨t2, st t2 a1, b1⟩
  · obtain ⟨k1, k2, k3⟩ := vx_keep h0 e1 hS hAX hf hL hF
    obtain ⟨t2, a1, b1⟩ := kx E ce q u t T'.heap (locs ++ L) e1.symm (by rw [← e2]; exact X'.warmed.alike) hp hb k1 k2 k3 (by rw [e1]; exact hce) hcv hcl T' rfl X'
    exact ⟨t2, st.trans a1, b1⟩
/-- caught by the row x of this method's table; the rows ahead don't take it -/
theorem vx_catch {own name : String} {E : String} {ce : Cell} {q : Addr} (hown : s.vm.findClass own = some m.cls) (pre : List ExceptionTableEntry) (x : ExceptionTableEntry) (suf : List ExceptionTableEntry) (hsplit : c.exceptionTable.toList = pre ++ x :: suf)
    (hpass : ∀ z ∈ pre, covers z pc = false ∨ (z.catchType ≠ 0 ∧ ∃ nm : String, (Cond.classLink own z.catchType nm).before args s = true ∧ va_Nc E nm s)) (hx : covers x pc = true) (h0 : x.catchType ≠ 0)
    (hlink : (Cond.classLink own x.catchType name).before args s = true) (hcast : (Cond.castable E name).before args s = true) (hcell : H[q]? = some ce) (hv : ce.vm = .none) (hcl : s.vm.findClass E = some ce.cls)
    (kk : W p l e R s m args below meth c H locs cells slots Q (F0 m x.handlerPc ls [.ref q])) : vx_W p l e R s m args below meth c H locs cells slots Q (F0 m pc ls rest) q := by
  intro T hT X
  have hpl : e.platform.magicAccessors = ({} : Platform).magicAccessors := by rw [X.admits.platform]
  obtain ⟨c3, c4, hc3, hc4, hasg⟩ := Cond.castable_spec hcast
  cases Option.some.inj (hc3.symm.trans hcl)
  obtain ⟨c5, hc5, hcl5⟩ := Cond.classLink_spec hown hlink e.platform hpl
  cases Option.some.inj (hc4.symm.trans hc5)
  obtain ⟨vm', X', st⟩ := X.thenCaughtThrough q (g := F0 m pc ls rest) rfl (Steps.refl _) (by rw [hT]; exact hcell) (by rw [hv]; rfl) (by obtain ⟨k9, h9, -⟩ := Vm.findClass_spec hcl; exact ⟨k9, h9⟩) pre x suf hsplit
    (fun z hz => by
      rcases hpass z hz with h | ⟨hz0, nm, hl1, hn1⟩
      · exact Or.inl h
      · obtain ⟨c6, hc6, hcl6⟩ := Cond.classLink_spec hown hl1 e.platform hpl
        obtain ⟨a8, b8, h1, h2, h3⟩ := hn1
        cases Option.some.inj (h1.symm.trans hcl)
        cases Option.some.inj (h2.symm.trans hc6)
        exact Or.inr ⟨hz0, _, hcl6, h3⟩) hx (Or.inr ⟨h0, c4, hcl5, hasg⟩)
  obtain ⟨t, a1, b1⟩ := kk (T.setVm vm') hT X'
  exact ⟨t, st.trans a1, b1⟩
end Rows
section Ends
variable {p : Program} {l : Launch} {e : Env} {R : Room} {s : State} {m : MethodId} {args : Array Value} {below : List Frame} {meth : Method} {c : Code} {H : Heap} {locs : List Loc} {cells slots : Nat} {Q : State → Prop}
variable {mc ms : Nat} {free : Addr → Prop} {A0 A1 : Nat → Prop} {H0 : Heap} {a : Array Value} {ls : Array Slot} {st0 rest : List Value}
variable {Qc : Array Value → State → Outcome → State → Prop} {XC : String → State → State → Prop}
/-- what a body that may throw owes at its end -/
def vx_MQ (below : List Frame) (Qc : Array Value → State → Outcome → State → Prop) (XC : String → State → State → Prop) (a : Array Value) (s : State) (mc ms : Nat) (free : Addr → Prop) : State → Prop := fun t =>
  ∃ o, t.status = .running ∧ Ended t below o ∧ vx_Q Qc XC mc ms free a s o t
theorem vx_ret {g : JFrame} {mc ms : Nat} (k : W p l e R s m args below meth c H locs cells slots (MQ below Qc args s mc ms free) g) : W p l e R s m args below meth c H locs cells slots (vx_MQ below Qc XC args s mc ms free) g := by
  intro T hT X
  obtain ⟨t, a1, o, b1, b2, b3, b4⟩ := k T hT X
  exact ⟨t, a1, o, b1, b2, Or.inl ⟨b3, b4⟩⟩
/-- not caught here: it goes on to the caller -/
theorem vx_widen {g : JFrame} {q : Addr} {k n : Nat} (h1 : cells ≤ k) (h2 : slots ≤ n) (kk : vx_W p l e R s m args below meth c H locs k n Q g q) : vx_W p l e R s m args below meth c H locs cells slots Q g q := fun T hT X => kk T hT (stand_widen X h1 h2)
theorem vx_out {pc : Nat} {E : String} {ce : Cell} {q : Addr} {mc ms : Nat} (hout : ∀ x ∈ c.exceptionTable.toList, covers x pc = false) (hlocks : meth.locks = false) (hcell : H[q]? = some ce) (hv : ce.vm = .none) (hcl : s.vm.findClass E = some ce.cls)
    (hx : ∀ t : State, t.heap = H → s.vm.Alike t.vm → XC E s t) (hf : ∀ z ∈ locs, free z.base) (hc : cells ≤ mc) (hs : slots ≤ ms) :
    vx_W p l e R s m args below meth c H locs cells slots (vx_MQ below Qc XC args s mc ms free) (F0 m pc ls rest) q := by
  intro T hT X
  obtain ⟨st1, hrun, hend, hW, hsm⟩ := X.leaveThrown q (g := F0 m pc ls rest) rfl rfl rfl hout hlocks
  have hcell9 : (T.setFrames (.throwing q :: below)).heap[q]? = some ce := by
    show T.heap[q]? = some ce
    rw [hT]; exact hcell
  exact ⟨_, st1, .threw q, hrun, hend, Or.inr ⟨q, rfl, E, ce, locs, hx _ hT hW.alike, hcell9, hv, hcl, hW, hsm.mono hc hs, hf⟩⟩
theorem vx_frame {U : State} {k n : Nat} (h : s.sameButNew ({ U with vm := s.vm } : State) locs k n) : s.heap.size ≤ U.heap.size ∧ ∀ q : Nat, q < s.heap.size → (∀ z ∈ locs, z.base ≠ q) → U.heap[q]? = s.heap[q]? := by
  obtain ⟨-, h2, -, -, -, h6⟩ := h
  refine ⟨h2, fun q hq hz => ?_⟩
  obtain ⟨c9, e1, e2, e3, e4⟩ := h6 q _ (Array.getElem?_eq_getElem hq)
  have hs : c9.slots = (s.heap[q]).slots := Array.ext_getElem? fun i => e4 i fun hm => hz _ hm rfl
  have h9 : c9 = s.heap[q] := by
    rw [hs] at e2
    exact e2
  have e5 : U.heap[q]? = some c9 := e1
  rw [e5, h9, Array.getElem?_eq_getElem hq]
/-- the words of a throw but the four that speak of the heap -/
def vx_no (w : Cond) : Bool := decide (w ≠ .isRef (.static Bundle.tN "UNASSIGNED_STACK" Bundle.steD)) && decide (w ≠ .isRef (.static Bundle.tN "SUPPRESSED_SENTINEL" Bundle.listD)) && decide (w ≠ .laysStatic Bundle.tN "UNASSIGNED_STACK" Bundle.steD) && decide (w ≠ .laysStatic Bundle.tN "SUPPRESSED_SENTINEL" Bundle.listD)
def vx_at0 (own : String) (ic : Nat) (X : String) (names : List String) : List Cond := (Bundle.ownAtoms0 own ic X names).filter vx_no
def vx_atS (own : String) (ic : Nat) (X : String) (names : List String) : List Cond := (Bundle.ownAtoms own ic X names).filter vx_no
/-- a word that the tables alone decide, or a good one -/
def vx_ot (w : Cond) : Bool := w.onTables || goodWord w
theorem vx_ot_at {args a' : Array Value} {s U : State} {w : Cond} (hW : s.WarmedH U.vm) (hvm : s.vm = U.vm) (hg : vx_ot w = true) (h : w.before args s = true) : w.before a' U = true := by
  simp only [vx_ot, Bool.or_eq_true] at hg
  rcases hg with hg | hg
  · exact va_tabs hg hvm h
  · exact word_at hW (good_of_word hg) h
/-- a list's words: the good ones out of the method's own list, the others by premises of their own -/
theorem vx_hat {args : Array Value} {s : State} {L B : List Cond} (h1 : ∀ w ∈ L.filter goodWord, w.before args s = true) (h2 : ∀ w ∈ L.filter (fun w => !goodWord w), w ∈ B) (h3 : ∀ w ∈ B, w.before args s = true) : ∀ w ∈ L, w.before args s = true := by
  intro w hw
  by_cases g : goodWord w = true
  · exact h1 w (List.mem_filter.mpr ⟨hw, g⟩)
  · refine h3 w (h2 w (List.mem_filter.mpr ⟨hw, ?_⟩))
    show (!goodWord w) = true
    cases hgw : goodWord w
    · rfl
    · exact absurd hgw g
theorem vx_c {args : Array Value} {s : State} {w : Cond} {B : List Cond} (h : w.before args s = true) (t : ∀ w ∈ B, w.before args s = true) : ∀ w' ∈ w :: B, w'.before args s = true := fun w' h' => (List.mem_cons.mp h').elim (fun e => by rw [e]; exact h) (t w')
theorem vx_n {args : Array Value} {s : State} : ∀ w ∈ ([] : List Cond), w.before args s = true := fun _ h => nomatch h
theorem vx_own {args : Array Value} {s : State} {L : List Cond} (h1 : ∀ w ∈ L.filter vx_no, w.before args s = true)
    (hU : (Cond.isRef (.static Bundle.tN "UNASSIGNED_STACK" Bundle.steD)).before args s = true) (hN : (Cond.isRef (.static Bundle.tN "SUPPRESSED_SENTINEL" Bundle.listD)).before args s = true)
    (lU : (Cond.laysStatic Bundle.tN "UNASSIGNED_STACK" Bundle.steD).before args s = true) (lN : (Cond.laysStatic Bundle.tN "SUPPRESSED_SENTINEL" Bundle.listD).before args s = true) : ∀ w ∈ L, w.before args s = true := by
  intro w hw
  by_cases e1 : w = .isRef (.static Bundle.tN "UNASSIGNED_STACK" Bundle.steD)
  · rw [e1]; exact hU
  · by_cases e2 : w = .isRef (.static Bundle.tN "SUPPRESSED_SENTINEL" Bundle.listD)
    · rw [e2]; exact hN
    · by_cases e3 : w = .laysStatic Bundle.tN "UNASSIGNED_STACK" Bundle.steD
      · rw [e3]; exact lU
      · by_cases e4 : w = .laysStatic Bundle.tN "SUPPRESSED_SENTINEL" Bundle.listD
        · rw [e4]; exact lN
        · exact h1 w (List.mem_filter.mpr ⟨hw, by unfold vx_no; rw [decide_eq_true e1, decide_eq_true e2, decide_eq_true e3, decide_eq_true e4]; rfl⟩)
/-- where a static field lies, its class's statics cell in H -/
def vx_L (C n d : String) (A : Nat → Prop) (U : State) (H : Heap) : Prop := ∃ (c : ClassId) (k : Class) (i : Nat) (f : Field) (a : Nat) (cell : Cell), U.vm.findClass C = some c ∧ U.fieldFound? C n d = some (c, k, i, f) ∧ f.isStatic = true ∧ k.statics = some a ∧ H[a]? = some cell ∧ cell.vm.isStatics = true ∧ cell.cls = c ∧ f.slot < cell.slots.size ∧ k.staticTypes[f.slot]? = some f.type ∧ ¬ A a
theorem vx_L.moved {C n d : String} {A : Nat → Prop} {u U : State} {H : Heap} (hvm : u.vm.Alike U.vm) (h : vx_L C n d A u H) : vx_L C n d A U H := by
  obtain ⟨c, k, i, f, a, cell, h1, h2, h3, h4, h5, h6, h7, h8, h9, h10⟩ := h
  obtain ⟨k', hi', he⟩ := State.fieldFound?_setVm hvm h2
  exact ⟨c, k', i, f, a, cell, by rw [hvm.findClass]; exact h1, hi', h3, by rw [he]; exact h4, h5, h6, h7, h8, by rw [he]; exact h9, h10⟩
theorem vx_L.kept {C n d : String} {A : Nat → Prop} {U : State} {H H1 : Heap} (h : vx_L C n d A U H) (hq : ∀ a : Nat, a < H.size → ¬ A a → H1[a]? = H[a]?) : vx_L C n d A U H1 := by
  obtain ⟨c, k, i, f, a, cell, h1, h2, h3, h4, h5, h6, h7, h8, h9, h10⟩ := h
  exact ⟨c, k, i, f, a, cell, h1, h2, h3, h4, by rw [hq a (Array.getElem?_eq_some_iff.mp h5).1 h10]; exact h5, h6, h7, h8, h9, h10⟩
theorem vx_L.narrow {C n d : String} {A B : Nat → Prop} {U : State} {H : Heap} (h : vx_L C n d A U H) (hAB : ∀ q, B q → A q) : vx_L C n d B U H := by
  obtain ⟨c, k, i, f, a, cell, h1, h2, h3, h4, h5, h6, h7, h8, h9, h10⟩ := h
  exact ⟨c, k, i, f, a, cell, h1, h2, h3, h4, h5, h6, h7, h8, h9, fun z => h10 (hAB _ z)⟩
theorem vx_L.word {C n d : String} {A : Nat → Prop} {s : State} {args : Array Value} (h : vx_L C n d A s s.heap) : (Cond.laysStatic C n d).before args s = true := by
  obtain ⟨c, k, i, f, a, cell, h1, h2, h3, h4, h5, h6, h7, h8, h9, -⟩ := h
  show (Cond.laysStatic C n d).holds args s none s [] = true
  exact Cond.laysStatic_of h1 h2 h3 h4 h5 h6 h7 h8 h9
/-- .. and what it holds: null or some reference -/
def vx_Zq (C n d : String) (A : Nat → Prop) (U : State) (H : Heap) : Prop := va_Zq C n d A U H ∧ vx_L C n d A U H
theorem vx_Zq.moved {C n d : String} {A : Nat → Prop} {u U : State} {H : Heap} (hvm : u.vm.Alike U.vm) (h : vx_Zq C n d A u H) : vx_Zq C n d A U H := ⟨va_Zq.moved hvm h.1, vx_L.moved hvm h.2⟩
theorem vx_Zq.kept {C n d : String} {A : Nat → Prop} {U : State} {H H1 : Heap} (h : vx_Zq C n d A U H) (hq : ∀ a : Nat, a < H.size → ¬ A a → H1[a]? = H[a]?) : vx_Zq C n d A U H1 := ⟨va_Zq.kept h.1 hq, vx_L.kept h.2 hq⟩
theorem vx_Zq.narrow {C n d : String} {A B : Nat → Prop} {U : State} {H : Heap} (h : vx_Zq C n d A U H) (hAB : ∀ q, B q → A q) : vx_Zq C n d B U H := ⟨va_Zq.narrow h.1 hAB, vx_L.narrow h.2 hAB⟩
theorem vx_Zqof {args : Array Value} {s : State} {C n d : String} {A : Nat → Prop} (hl : (Cond.laysStatic C n d).before args s = true) (hini : (Cond.initialized C).before args s = true) (h : (Cond.isRef (.static C n d)).before args s = true) (hA : ∀ a : Nat, a < s.heap.size → ¬ A a) : vx_Zq C n d A s s.heap := by
  refine ⟨va_Zqof hl hini h hA, ?_⟩
  obtain ⟨c, k, i, f, a, cell, h1, h2, h3, h4, h5, h6, h7, h8, h9⟩ := Cond.laysStatic_spec hl
  exact ⟨c, k, i, f, a, cell, h1, h2, h3, h4, h5, h6, h7, h8, h9, hA a (Array.getElem?_eq_some_iff.mp h5).1⟩
theorem vx_isRef {C n d : String} {v : Value} {A : Nat → Prop} {s : State} {args : Array Value} (h : va_Z C n d v A s s.heap) (hv : v.isRef = true) : (Cond.isRef (.static C n d)).before args s = true := by
  obtain ⟨cf, kf, fi, f, a, cell, h1, h2, h3, h4, h5, h6, h7, -⟩ := h
  have he : (Term.static C n d).eval args s none [] s = some v := by
    simp [Term.eval, State.fieldNamed?, h1, h2, h4, h5, h6, h7]
  simp only [Cond.before, Cond.holds, Cond.value, he]
  cases v <;> simp_all [Value.isRef]
theorem vx_isRefq {C n d : String} {A : Nat → Prop} {s : State} {args : Array Value} (h : va_Zq C n d A s s.heap) : (Cond.isRef (.static C n d)).before args s = true := by
  rcases h with h | ⟨t, h⟩
  · exact vx_isRef h rfl
  · exact vx_isRef h rfl
/-- the same frame, seen from here: as if the method were called anew in this heap -/
theorem vx_rebase {T : State} (X : Stand p l e R s m args below meth c T locs cells slots) {R' : Room} (hf : R'.frames ≤ R.frames) (hl : R'.locals ≤ R.locals) (hc : cells + R'.cells ≤ R.cells) (hs : slots + R'.slots ≤ R.slots) :
    Stand p l e R' ((T.setVm s.vm).setFrames (.invoking m args :: below)) m args below meth c T [] 0 0 := by
  have htop : (T.setVm s.vm).topJava?.isSome := X.here.top
  have hF : ((T.setVm s.vm).setFrames (.invoking m args :: below)).frames = .invoking m args :: below := State.frames_setFrames _ (State.cur_lt_of_top htop)
  obtain ⟨g₀, hg0⟩ := Option.isSome_iff_exists.mp htop
  obtain ⟨r, hr⟩ := State.topJava?_eq_some.mp hg0
  have hl9 : e.platform.stackLimits (T.setVm s.vm).me = e.platform.stackLimits s.me := X.limits
  have hb9 : (T.setVm s.vm).me.stackBytes = s.me.stackBytes := X.bytes
  refine ⟨X.admits, X.cas, X.clock, hF, ?_, X.hears, X.method, X.code, X.here, X.tail, X.warmed, ?_, ?_, ?_⟩
  · have h := X.room
    have hU : ((T.setVm s.vm).setFrames (.invoking m args :: below)).localsInUse = s.localsInUse := by
      rw [State.localsInUse_invoking hF (meth := meth) (c := c) X.method X.code, State.localsInUse_invoking X.frames X.method X.code]
    simp only [State.hasRoom, Bool.and_eq_true, decide_eq_true_eq] at h ⊢
    obtain ⟨⟨⟨⟨h1, h2, h3, h4, h5, h6⟩, h7⟩, h8⟩, h9⟩ := h
    rw [X.frames, List.length_cons] at h2 h3
    have q1 := X.heapSize
    have q2 := X.used
    simp only [hF, hU, List.length_cons, State.stackLimits_setFrames, State.stackBytes_setFrames, hl9, hb9]
    refine ⟨⟨⟨⟨by omega, by omega, by omega, by omega, by omega, h6⟩, ?_⟩, ?_⟩, X.book⟩
    · show T.heap.size + R'.cells ≤ e.platform.maxCells
      omega
    · show T.slotsUsed + R'.slots ≤ e.platform.maxSlots
      omega
  · rw [State.stackLimits_setFrames]; rfl
  · rw [State.stackBytes_setFrames]; rfl
  · refine ⟨?_, Nat.le_refl _, Nat.le_refl _, ?_, ?_, fun a c9 h9 => ⟨c9, h9, rfl, rfl, fun _ _ => rfl⟩⟩
    · obtain ⟨t, ht, -⟩ := State.frames_cons hr
      show T.setVm s.vm = { ((T.setVm s.vm).setFrames (.invoking m args :: below)).setFrames (T.setVm s.vm).frames with heap := T.heap, slotsUsed := T.slotsUsed }
      rw [State.setFrames_setFrames, State.setFrames_self ht]
      rfl
    · show T.slotsUsed = T.slotsUsed + ((T.heap.toList.drop T.heap.size).map (·.slots.size)).sum
      rw [List.drop_eq_nil_of_le (Nat.le_of_eq Array.length_toList)]
      rfl
    · show ((T.heap.toList.drop T.heap.size).map (·.slots.size)).sum ≤ 0
      rw [List.drop_eq_nil_of_le (Nat.le_of_eq Array.length_toList)]
      exact Nat.le_refl _
/-- 'throw new E()': new; dup; invokespecial; athrow -/
theorem vx_throw0 {cc : ByteArray} {pc : Nat} (hexec : p.tables.exec = Jvm.exec) (hb : c.code = cc) (hl : l.stackTraces = false) {own cls : String} {names : List String} {ik ic mc ms : Nat} {A : Nat → Prop}
    (hown : s.vm.findClass own = some m.cls) (hcls : Bundle.fit cls = true) (hnames : ∀ n ∈ names, Bundle.fit n = true)
    (hk : (Cond.classLink own ik cls).before args s = true) (hini : (Cond.initialized cls).before args s = true) (hat : ∀ w ∈ vx_at0 own ic cls names, w.before args s = true)
    (hgood : ∀ w ∈ Cond.classLink own ik cls :: Cond.initialized cls :: vx_at0 own ic cls names, vx_ot w = true)
    (hU : vx_Zq Bundle.tN "UNASSIGNED_STACK" Bundle.steD A s s.heap) (hN : vx_Zq Bundle.tN "SUPPRESSED_SENTINEL" Bundle.listD A s s.heap) (hS : va_S A s.heap H locs) (hsize : ls.size = c.maxLocals)
    (d0 : decode cc pc = .ok (.new ik, 3)) (d3 : decode cc (pc + 3) = .ok (.dup, 1)) (d4 : decode cc (pc + 4) = .ok (.invokespecial ic, 3)) (d7 : decode cc (pc + 7) = .ok (.athrow, 1))
    (hout : ∀ x ∈ c.exceptionTable.toList, covers x (pc + 7) = false)
    (hRframes : names.length + 3 < R.frames) (hRlocals : (rest.map fun v => v.category).sum + (13 * (names.length + 1) + 42) ≤ R.locals) (hRcells : cells + 1 ≤ R.cells) (hRslots : slots + 6 ≤ R.slots) (hlocks : meth.locks = false)
    (hx : ∀ t : State, s.vm.Alike t.vm → H.size ≤ t.heap.size → (∀ q : Nat, q < H.size → t.heap[q]? = H[q]?) → XC cls s t)
    (hf : ∀ z ∈ locs, free z.base) (hc : cells + 1 ≤ mc) (hs : slots + 6 ≤ ms) :
    W p l e R s m args below meth c H locs cells slots (vx_MQ below Qc XC args s mc ms free) (F0 m pc ls rest) := by
  intro T hT X
  have htr : e.platform.stackTraces = false := (show e.platform.stackTraces = l.stackTraces by rw [X.admits.platform]).trans hl
  have Y := vx_rebase X (R' := { frames := R.frames, locals := R.locals, cells := 1, slots := 6 }) (Nat.le_refl _) (Nat.le_refl _) hRcells hRslots
  obtain ⟨s', hA⟩ : ∃ z, z = (T.setVm s.vm).setFrames (.invoking m args :: below) := ⟨_, rfl⟩
  rw [← hA] at Y
  have hvm : s'.vm = s.vm := by rw [hA]; rfl
  have hhp : s'.heap = H := by rw [hA]; exact hT
  have hW0 : s.WarmedH s'.vm := by rw [hvm]; exact State.WarmedH.refl s
  have hat' : ∀ w ∈ vx_at0 own ic cls names, w.before args s' = true := fun w hw => vx_ot_at hW0 hvm.symm (hgood w (List.mem_cons_of_mem _ (List.mem_cons_of_mem _ hw))) (hat w hw)
  have hk' : (Cond.classLink own ik cls).before args s' = true := vx_ot_at hW0 hvm.symm (hgood _ List.mem_cons_self) hk
  have hini' : (Cond.initialized cls).before args s' = true := vx_ot_at hW0 hvm.symm (hgood _ (List.mem_cons_of_mem _ List.mem_cons_self)) hini
  have hU' : vx_Zq Bundle.tN "UNASSIGNED_STACK" Bundle.steD A s' s'.heap := by rw [hhp]; exact vx_Zq.moved hW0.alike (hU.kept hS.2.1)
  have hN' : vx_Zq Bundle.tN "SUPPRESSED_SENTINEL" Bundle.listD A s' s'.heap := by rw [hhp]; exact vx_Zq.moved hW0.alike (hN.kept hS.2.1)
  have h : ∀ w ∈ Bundle.ownAtoms0 own ic cls names, w.before args s' = true := vx_own hat' (vx_isRefq hU'.1) (vx_isRefq hN'.1) hU'.2.word hN'.2.word
  have hown' : s'.vm.findClass own = some m.cls := by rw [hvm]; exact hown
  have hins : (Cond.instantiable cls 6).before args s' = true := h _ (by simp [Bundle.ownAtoms0])
  obtain ⟨vm₁, cX, kX, hfX, hkX, -, -, X₁, st1⟩ := Y.newCold hexec (own := own) (C := cls) (index := ik) (n := 6) hown' hk' hins hini'
    (g := F0 m pc ls rest) rfl (by rw [hb]; exact d0) (Nat.le_refl _) (Nat.le_refl _)
  generalize hT1 : (T.setVm vm₁).pushCell { cls := cX, slots := kX.instanceTypes.map defaultValue, vm := .none } = T1 at X₁ st1
  have hcat : (Value.ref T.heap.size).category = 1 := rfl
  have hcellA : T1.heap[T.heap.size]? = some (freshCell cX kX) := by rw [← hT1]; exact State.heap_pushCell_size _ _
  have d3' : decode c.code (pc + 3) = .ok (.dup, 1) := by rw [hb]; exact d3
  obtain ⟨U, hsteps, hrun, hend, hW, hsame, ce, hce, hO⟩ := X₁.ctorThrow0 hexec htr (own := own) (cls := cls) (names := names) (ic := ic) hown' hcls hnames h (fun x hx => nomatch hx) hfX hkX hcellA (by rw [hhp, hT]; exact Nat.le_refl _)
    (g := { method := m, pc := pc + 4, locals := ls, stack := .ref T.heap.size :: .ref T.heap.size :: rest, locked := none }) rfl hsize rfl rfl (rest := rest) rfl
    (by rw [hb]; exact d4) (by rw [hb]; exact d7) hout hRframes (by simp only [List.map_cons, List.sum_cons, hcat]; omega) hlocks
  obtain ⟨f1, f2⟩ := vx_frame hsame
  rw [hhp] at f1 f2
  have hWs : s.WarmedH U.vm := State.WarmedH.trans hW0 hW
  have hcl : s.vm.findClass cls = some ce.cls := by
    have h9 := hO.cls
    rw [hvm] at h9
    exact h9
  have hall : s.sameButNew ({ U with vm := s.vm } : State) locs mc ms := by
    subst hA
    obtain ⟨e1, e2⟩ := hsame
    rw [State.setFrames_setFrames] at e1
    have h2 : (T.setVm s.vm).sameButNew ({ U with vm := s.vm } : State) [] (0 + 1) (0 + 6) := ⟨e1, e2⟩
    have h3 := X.same.trans h2
    rw [List.append_nil] at h3
    exact h3.mono hc hs
  refine ⟨U, ?_, .threw T.heap.size, hrun, hend, Or.inr ⟨T.heap.size, rfl, cls, ce, locs, hx U hWs.alike f1 (fun q hq => f2 q hq (fun z hz => nomatch hz)), hce, hO.vm, hcl, hWs, hall, hf⟩⟩
  refine st1 _ ?_
  show Steps p.tables e below (T1.setTop { method := m, pc := pc + 3, locals := ls, stack := .ref T.heap.size :: rest, locked := none }) _
  jvm_step X₁.here [X₁.here.top, hexec, d3', Value.category]
  exact hsteps
/-- 'throw new E("text")': new; dup; ldc; invokespecial; athrow -/
theorem vx_throwS {cc : ByteArray} {pc : Nat} (hexec : p.tables.exec = Jvm.exec) (hb : c.code = cc) (hl : l.stackTraces = false) {own cls text : String} {names : List String} {ik is ic mc ms sa : Nat} {A : Nat → Prop}
    (hown : s.vm.findClass own = some m.cls) (hcls : Bundle.fit cls = true) (hnames : ∀ n ∈ names, Bundle.fit n = true)
    (hk : (Cond.classLink own ik cls).before args s = true) (hini : (Cond.initialized cls).before args s = true) (hstr : vk_R own is text sa s) (hat : ∀ w ∈ vx_atS own ic cls names, w.before args s = true)
    (hgood : ∀ w ∈ Cond.classLink own ik cls :: Cond.initialized cls :: vx_atS own ic cls names, vx_ot w = true)
    (hU : vx_Zq Bundle.tN "UNASSIGNED_STACK" Bundle.steD A s s.heap) (hN : vx_Zq Bundle.tN "SUPPRESSED_SENTINEL" Bundle.listD A s s.heap) (hS : va_S A s.heap H locs) (hsize : ls.size = c.maxLocals)
    (d0 : decode cc pc = .ok (.new ik, 3)) (d3 : decode cc (pc + 3) = .ok (.dup, 1)) (d4 : decode cc (pc + 4) = .ok (.ldc is, 2)) (d6 : decode cc (pc + 6) = .ok (.invokespecial ic, 3)) (d9 : decode cc (pc + 9) = .ok (.athrow, 1))
    (hout : ∀ x ∈ c.exceptionTable.toList, covers x (pc + 9) = false)
    (hRframes : names.length + 3 < R.frames) (hRlocals : (rest.map fun v => v.category).sum + (13 * (names.length + 1) + 43) ≤ R.locals) (hRcells : cells + 1 ≤ R.cells) (hRslots : slots + 6 ≤ R.slots) (hlocks : meth.locks = false)
    (hx : ∀ t : State, s.vm.Alike t.vm → H.size ≤ t.heap.size → (∀ q : Nat, q < H.size → t.heap[q]? = H[q]?) → XC cls s t)
    (hf : ∀ z ∈ locs, free z.base) (hc : cells + 1 ≤ mc) (hs : slots + 6 ≤ ms) :
    W p l e R s m args below meth c H locs cells slots (vx_MQ below Qc XC args s mc ms free) (F0 m pc ls rest) := by
  intro T hT X
  have htr : e.platform.stackTraces = false := (show e.platform.stackTraces = l.stackTraces by rw [X.admits.platform]).trans hl
  have Y := vx_rebase X (R' := { frames := R.frames, locals := R.locals, cells := 1, slots := 6 }) (Nat.le_refl _) (Nat.le_refl _) hRcells hRslots
  obtain ⟨s', hA⟩ : ∃ z, z = (T.setVm s.vm).setFrames (.invoking m args :: below) := ⟨_, rfl⟩
  rw [← hA] at Y
  have hvm : s'.vm = s.vm := by rw [hA]; rfl
  have hhp : s'.heap = H := by rw [hA]; exact hT
  have hW0 : s.WarmedH s'.vm := by rw [hvm]; exact State.WarmedH.refl s
  have hat' : ∀ w ∈ vx_atS own ic cls names, w.before args s' = true := fun w hw => vx_ot_at hW0 hvm.symm (hgood w (List.mem_cons_of_mem _ (List.mem_cons_of_mem _ hw))) (hat w hw)
  have hk' : (Cond.classLink own ik cls).before args s' = true := vx_ot_at hW0 hvm.symm (hgood _ List.mem_cons_self) hk
  have hini' : (Cond.initialized cls).before args s' = true := vx_ot_at hW0 hvm.symm (hgood _ (List.mem_cons_of_mem _ List.mem_cons_self)) hini
  have hU' : vx_Zq Bundle.tN "UNASSIGNED_STACK" Bundle.steD A s' s'.heap := by rw [hhp]; exact vx_Zq.moved hW0.alike (hU.kept hS.2.1)
  have hN' : vx_Zq Bundle.tN "SUPPRESSED_SENTINEL" Bundle.listD A s' s'.heap := by rw [hhp]; exact vx_Zq.moved hW0.alike (hN.kept hS.2.1)
  have h : ∀ w ∈ Bundle.ownAtoms own ic cls names, w.before args s' = true := vx_own hat' (vx_isRefq hU'.1) (vx_isRefq hN'.1) hU'.2.word hN'.2.word
  have hown' : s'.vm.findClass own = some m.cls := by rw [hvm]; exact hown
  have hins : (Cond.instantiable cls 6).before args s' = true := h _ (by simp [Bundle.ownAtoms])
  obtain ⟨vm₁, cX, kX, hfX, hkX, -, -, X₁, st1⟩ := Y.newCold hexec (own := own) (C := cls) (index := ik) (n := 6) hown' hk' hins hini'
    (g := F0 m pc ls rest) rfl (by rw [hb]; exact d0) (Nat.le_refl _) (Nat.le_refl _)
  generalize hT1 : (T.setVm vm₁).pushCell { cls := cX, slots := kX.instanceTypes.map defaultValue, vm := .none } = T1 at X₁ st1
  have hcat : (Value.ref T.heap.size).category = 1 := rfl
  have hcellA : T1.heap[T.heap.size]? = some (freshCell cX kX) := by rw [← hT1]; exact State.heap_pushCell_size _ _
  have d3' : decode c.code (pc + 3) = .ok (.dup, 1) := by rw [hb]; exact d3
  have d4' : decode c.code (pc + 4) = .ok (.ldc is, 2) := by rw [hb]; exact d4
  have hstr' : vk_R own is text sa s' := vk_R.warm hW0 hstr
  obtain ⟨U, hsteps, hrun, hend, hW, hsame, ce, hce, hO⟩ := X₁.ctorThrowS hexec htr (own := own) (cls := cls) (names := names) (ic := ic) hown' hcls hnames h (fun x hx => nomatch hx) hfX hkX hcellA (by rw [hhp, hT]; exact Nat.le_refl _) (msg := .ref sa) rfl
    (g := { method := m, pc := pc + 6, locals := ls, stack := .ref sa :: .ref T.heap.size :: .ref T.heap.size :: rest, locked := none }) rfl hsize rfl rfl (rest := rest) rfl
    (by rw [hb]; exact d6) (by rw [hb]; exact d9) hout hRframes (by simp only [List.map_cons, List.sum_cons, hcat]; omega) hlocks
  obtain ⟨f1, f2⟩ := vx_frame hsame
  rw [hhp] at f1 f2
  have hWs : s.WarmedH U.vm := State.WarmedH.trans hW0 hW
  have hcl : s.vm.findClass cls = some ce.cls := by
    have h9 := hO.cls
    rw [hvm] at h9
    exact h9
  have hall : s.sameButNew ({ U with vm := s.vm } : State) locs mc ms := by
    subst hA
    obtain ⟨e1, e2⟩ := hsame
    rw [State.setFrames_setFrames] at e1
    have h2 : (T.setVm s.vm).sameButNew ({ U with vm := s.vm } : State) [] (0 + 1) (0 + 6) := ⟨e1, e2⟩
    have h3 := X.same.trans h2
    rw [List.append_nil] at h3
    exact h3.mono hc hs
  refine ⟨U, ?_, .threw T.heap.size, hrun, hend, Or.inr ⟨T.heap.size, rfl, cls, ce, locs, hx U hWs.alike f1 (fun q hq => f2 q hq (fun z hz => nomatch hz)), hce, hO.vm, hcl, hWs, hall, hf⟩⟩
  refine st1 _ ?_
  show Steps p.tables e below (T1.setTop { method := m, pc := pc + 3, locals := ls, stack := .ref T.heap.size :: rest, locked := none }) _
  jvm_step X₁.here [X₁.here.top, hexec, d3', Value.category]
  exact X₁.ldcString hexec (own := own) (text := text) (index := is) (a := sa) hown' hstr'.1 hstr'.2
    (g := { method := m, pc := pc + 4, locals := ls, stack := .ref T.heap.size :: .ref T.heap.size :: rest, locked := none }) rfl d4' _ hsteps
/-- 'throw new E("text")', the text by a wide index -/
theorem vx_throwSW {cc : ByteArray} {pc : Nat} (hexec : p.tables.exec = Jvm.exec) (hb : c.code = cc) (hl : l.stackTraces = false) {own cls text : String} {names : List String} {ik is ic mc ms sa : Nat} {A : Nat → Prop}
    (hown : s.vm.findClass own = some m.cls) (hcls : Bundle.fit cls = true) (hnames : ∀ n ∈ names, Bundle.fit n = true)
    (hk : (Cond.classLink own ik cls).before args s = true) (hini : (Cond.initialized cls).before args s = true) (hstr : vk_R own is text sa s) (hat : ∀ w ∈ vx_atS own ic cls names, w.before args s = true)
    (hgood : ∀ w ∈ Cond.classLink own ik cls :: Cond.initialized cls :: vx_atS own ic cls names, vx_ot w = true)
    (hU : vx_Zq Bundle.tN "UNASSIGNED_STACK" Bundle.steD A s s.heap) (hN : vx_Zq Bundle.tN "SUPPRESSED_SENTINEL" Bundle.listD A s s.heap) (hS : va_S A s.heap H locs) (hsize : ls.size = c.maxLocals)
    (d0 : decode cc pc = .ok (.new ik, 3)) (d3 : decode cc (pc + 3) = .ok (.dup, 1)) (d4 : decode cc (pc + 4) = .ok (.ldc_w is, 3)) (d7 : decode cc (pc + 7) = .ok (.invokespecial ic, 3)) (d10 : decode cc (pc + 10) = .ok (.athrow, 1))
    (hout : ∀ x ∈ c.exceptionTable.toList, covers x (pc + 10) = false)
    (hRframes : names.length + 3 < R.frames) (hRlocals : (rest.map fun v => v.category).sum + (13 * (names.length + 1) + 43) ≤ R.locals) (hRcells : cells + 1 ≤ R.cells) (hRslots : slots + 6 ≤ R.slots) (hlocks : meth.locks = false)
    (hx : ∀ t : State, s.vm.Alike t.vm → H.size ≤ t.heap.size → (∀ q : Nat, q < H.size → t.heap[q]? = H[q]?) → XC cls s t)
    (hf : ∀ z ∈ locs, free z.base) (hc : cells + 1 ≤ mc) (hs : slots + 6 ≤ ms) :
    W p l e R s m args below meth c H locs cells slots (vx_MQ below Qc XC args s mc ms free) (F0 m pc ls rest) := by
  intro T hT X
  have htr : e.platform.stackTraces = false := (show e.platform.stackTraces = l.stackTraces by rw [X.admits.platform]).trans hl
  have Y := vx_rebase X (R' := { frames := R.frames, locals := R.locals, cells := 1, slots := 6 }) (Nat.le_refl _) (Nat.le_refl _) hRcells hRslots
  obtain ⟨s', hA⟩ : ∃ z, z = (T.setVm s.vm).setFrames (.invoking m args :: below) := ⟨_, rfl⟩
  rw [← hA] at Y
  have hvm : s'.vm = s.vm := by rw [hA]; rfl
  have hhp : s'.heap = H := by rw [hA]; exact hT
  have hW0 : s.WarmedH s'.vm := by rw [hvm]; exact State.WarmedH.refl s
  have hat' : ∀ w ∈ vx_atS own ic cls names, w.before args s' = true := fun w hw => vx_ot_at hW0 hvm.symm (hgood w (List.mem_cons_of_mem _ (List.mem_cons_of_mem _ hw))) (hat w hw)
  have hk' : (Cond.classLink own ik cls).before args s' = true := vx_ot_at hW0 hvm.symm (hgood _ List.mem_cons_self) hk
  have hini' : (Cond.initialized cls).before args s' = true := vx_ot_at hW0 hvm.symm (hgood _ (List.mem_cons_of_mem _ List.mem_cons_self)) hini
  have hU' : vx_Zq Bundle.tN "UNASSIGNED_STACK" Bundle.steD A s' s'.heap := by rw [hhp]; exact vx_Zq.moved hW0.alike (hU.kept hS.2.1)
  have hN' : vx_Zq Bundle.tN "SUPPRESSED_SENTINEL" Bundle.listD A s' s'.heap := by rw [hhp]; exact vx_Zq.moved hW0.alike (hN.kept hS.2.1)
  have h : ∀ w ∈ Bundle.ownAtoms own ic cls names, w.before args s' = true := vx_own hat' (vx_isRefq hU'.1) (vx_isRefq hN'.1) hU'.2.word hN'.2.word
  have hown' : s'.vm.findClass own = some m.cls := by rw [hvm]; exact hown
  have hins : (Cond.instantiable cls 6).before args s' = true := h _ (by simp [Bundle.ownAtoms])
  obtain ⟨vm₁, cX, kX, hfX, hkX, -, -, X₁, st1⟩ := Y.newCold hexec (own := own) (C := cls) (index := ik) (n := 6) hown' hk' hins hini'
    (g := F0 m pc ls rest) rfl (by rw [hb]; exact d0) (Nat.le_refl _) (Nat.le_refl _)
  generalize hT1 : (T.setVm vm₁).pushCell { cls := cX, slots := kX.instanceTypes.map defaultValue, vm := .none } = T1 at X₁ st1
  have hcat : (Value.ref T.heap.size).category = 1 := rfl
  have hcellA : T1.heap[T.heap.size]? = some (freshCell cX kX) := by rw [← hT1]; exact State.heap_pushCell_size _ _
  have d3' : decode c.code (pc + 3) = .ok (.dup, 1) := by rw [hb]; exact d3
  have d4' : decode c.code (pc + 4) = .ok (.ldc_w is, 3) := by rw [hb]; exact d4
  have hstr' : vk_R own is text sa s' := vk_R.warm hW0 hstr
  obtain ⟨U, hsteps, hrun, hend, hW, hsame, ce, hce, hO⟩ := X₁.ctorThrowS hexec htr (own := own) (cls := cls) (names := names) (ic := ic) hown' hcls hnames h (fun x hx => nomatch hx) hfX hkX hcellA (by rw [hhp, hT]; exact Nat.le_refl _) (msg := .ref sa) rfl
    (g := { method := m, pc := pc + 7, locals := ls, stack := .ref sa :: .ref T.heap.size :: .ref T.heap.size :: rest, locked := none }) rfl hsize rfl rfl (rest := rest) rfl
    (by rw [hb]; exact d7) (by rw [hb]; exact d10) hout hRframes (by simp only [List.map_cons, List.sum_cons, hcat]; omega) hlocks
  obtain ⟨f1, f2⟩ := vx_frame hsame
  rw [hhp] at f1 f2
  have hWs : s.WarmedH U.vm := State.WarmedH.trans hW0 hW
  have hcl : s.vm.findClass cls = some ce.cls := by
    have h9 := hO.cls
    rw [hvm] at h9
    exact h9
  have hall : s.sameButNew ({ U with vm := s.vm } : State) locs mc ms := by
    subst hA
    obtain ⟨e1, e2⟩ := hsame
    rw [State.setFrames_setFrames] at e1
    have h2 : (T.setVm s.vm).sameButNew ({ U with vm := s.vm } : State) [] (0 + 1) (0 + 6) := ⟨e1, e2⟩
    have h3 := X.same.trans h2
    rw [List.append_nil] at h3
    exact h3.mono hc hs
  refine ⟨U, ?_, .threw T.heap.size, hrun, hend, Or.inr ⟨T.heap.size, rfl, cls, ce, locs, hx U hWs.alike f1 (fun q hq => f2 q hq (fun z hz => nomatch hz)), hce, hO.vm, hcl, hWs, hall, hf⟩⟩
  refine st1 _ ?_
  show Steps p.tables e below (T1.setTop { method := m, pc := pc + 3, locals := ls, stack := .ref T.heap.size :: rest, locked := none }) _
  jvm_step X₁.here [X₁.here.top, hexec, d3', Value.category]
  exact X₁.ldcStringW hexec (own := own) (text := text) (index := is) (a := sa) hown' hstr'.1 hstr'.2
    (g := { method := m, pc := pc + 4, locals := ls, stack := .ref T.heap.size :: .ref T.heap.size :: rest, locked := none }) rfl d4' _ hsteps
end Ends
section Bodies
variable {l : Launch}
theorem vx_ofW {y : MethodName} {ws ws' : List Cond} {rm : Room} {Pc : Array Value → State → Prop} {Qc : Array Value → State → Outcome → State → Prop} {XC : String → State → State → Prop} {mc ms : Nat} {free : Addr → Prop} {cc : ByteArray} {maxL : Nat} {ret : Option FieldType}
    (hy : plainName y.cls = true) (hw : ws = Cond.code y cc maxL ret :: ws')
    (body : ∀ p e s m args below meth c s₁, BodyLoose p l y (headSpec ws rm) cc maxL ret e s m args below meth c s₁ → c.maxLocals = maxL → (∀ x ∈ c.exceptionTable.toList, False) → Pc args s →
      W p l e (headSpec ws rm).room s m args below meth c s.heap [] 0 0 (vx_MQ below Qc XC args s mc ms free) (entryFrame m args maxL)) : vx_Met l y ws rm Pc Qc XC mc ms free := by
  refine MetFree.of_bodyS (code := cc) (maxLocals := maxL) (ret := ret) hy ?_ ?_
  · intro args s m h hn
    obtain ⟨meth, c, h1, h2, h3, h4, h5, h6, -, -⟩ := Cond.code_spec hn (atoms_spec (ws := ws) h _ (by rw [hw]; exact List.mem_cons_self))
    exact ⟨meth, c, h1, h2, h3, h4, h5, h6⟩
  · intro p e s m args below meth c s₁ B hml hP _
    have hh0 : s₁.heap = s.heap := by rw [B.state]; rfl
    have ht : ∀ x ∈ c.exceptionTable.toList, False := by
      obtain ⟨meth9, c9, h1, h2, -, -, -, -, h7, -⟩ := Cond.code_spec B.named (atoms_spec (ws := ws) B.pre _ (by rw [hw]; exact List.mem_cons_self))
      cases Option.some.inj (h1.symm.trans B.method)
      cases Option.some.inj (h2.symm.trans (Stand.of_body B).code)
      intro x hx
      rw [Array.isEmpty_iff.mp h7] at hx
      cases hx
    obtain ⟨t, a1, o, b1, b2, b3⟩ := body p e s m args below meth c s₁ B hml ht hP s₁ hh0 (Stand.of_body B)
    exact ⟨t, o, a1, b1, b2, b3⟩
/-- the table of a body with handlers -/
theorem vx_table {p : Program} {x y : MethodName} {S : Spec} {cc bytes : ByteArray} {maxL maxL' : Nat} {ret ret' : Option FieldType} {e : Env} {s s₁ : State} {m : MethodId} {args : Array Value} {below : List Frame} {meth : Method} {c : Code} {hh : List (Nat × Nat × Nat × Nat)}
    (B : BodyLoose p l y S cc maxL ret e s m args below meth c s₁) (h : (Cond.codeWith y bytes maxL' ret' hh).before args s = true) : c.exceptionTable.toList = tableOf hh := by
  obtain ⟨m9, meth9, c9, hn9, h1, h2, -, -, h6, -⟩ := Cond.codeWith_spec h
  cases Option.some.inj (hn9.symm.trans B.named)
  cases Option.some.inj (h1.symm.trans B.method)
  cases Option.some.inj (h2.symm.trans (Stand.of_body B).code)
  rw [← h6, table_eq]
end Bodies
end VXA
/-! ===== END ===== -/
/-! ===== BEGIN a static call of a method with an exception table ===== -/
section VXS
variable {p : Program} {l : Launch} {e : Env} {R : Room} {s : State} {m : MethodId} {args : Array Value} {below : List Frame} {meth : Method} {c : Code} {T : State} {H : Heap} {locs : List Loc} {cells slots : Nat}
abbrev vx_CSW (R : Room) (s : State) (args : Array Value) (own : String) (index : Nat) (y : MethodName) (bytes : ByteArray) (maxL : Nat) (ret : Option FieldType) (hh : List (Nat × Nat × Nat × Nat)) (ws : List Cond) (rm : Room) (mc ms n : Nat) : Prop :=
  (rm.cells = mc ∧ rm.slots = ms ∧ rm.frames + 1 ≤ R.frames ∧ 8 + (maxL + 11) + rm.locals ≤ R.locals ∧ (∀ w ∈ ws, ∀ (a' : Array Value) (U : State), s.WarmedH U.vm → w.before a' U = true) ∧ Cond.codeWith y bytes maxL ret hh ∈ ws) ∧
  (Cond.codeWith y bytes maxL ret hh).before args s = true ∧ (Cond.initialized y.cls).before args s = true ∧ (y.cls ≠ "java/lang/invoke/MethodHandle" ∧ y.cls ≠ "java/lang/invoke/VarHandle") ∧
  (∀ sig, parseMethodDescriptor y.desc = some sig → n = sig.parameters.length) ∧ (Cond.methodLink own index y).before args s = true ∧ (Cond.static y).before args s = true
theorem vx_cwSW {own : String} {index maxL mc ms : Nat} {y : MethodName} {bytes : ByteArray} {ret : Option FieldType} {hh : List (Nat × Nat × Nat × Nat)} {Ts ws ws' : List Cond} {rm : Room} (n : Nat) (ht : ∀ w ∈ Ts, w.before args s = true) (hT : GoodIn Ts (va_wsS own index y ws)) (hw : ws = Cond.codeWith y bytes maxL ret hh :: ws') (hrc : rm.cells = mc) (hrs : rm.slots = ms)
    (hd : y.cls ≠ "java/lang/invoke/MethodHandle" ∧ y.cls ≠ "java/lang/invoke/VarHandle" ∧ (parseMethodDescriptor y.desc).map (fun d => d.parameters.length) = some n) (hR : rm.frames + 1 ≤ R.frames ∧ 8 + (maxL + 11) + rm.locals ≤ R.locals) :
    vx_CSW R s args own index y bytes maxL ret hh ws rm mc ms n := by
  have ok : ∀ w ∈ va_wsS own index y ws, w.before args s = true := fun w h => ht w (hT w h).1
  have hG : GoodIn Ts ws := fun w h => hT w (by unfold va_wsS; exact List.mem_append_right _ h)
  have hc : Cond.codeWith y bytes maxL ret hh ∈ ws := by rw [hw]; exact List.mem_cons_self
  refine ⟨⟨hrc, hrs, hR.1, hR.2, pay_in ht hG, hc⟩, ht _ (hG _ hc).1, ok _ (by simp [va_wsS]), ⟨hd.1, hd.2.1⟩, fun sig h => ?_, ok _ (by simp [va_wsS]), ok _ (by simp [va_wsS])⟩
  have h2 := hd.2.2
  rw [h] at h2
  exact (Option.some.inj h2).symm
theorem vx_callSW (X : Stand p l e R s m args below meth c T locs cells slots) (hexec : p.tables.exec = Jvm.exec) {own : String} {index : Nat} {y : MethodName} {bytes : ByteArray} {maxL : Nat} {ret : Option FieldType} {hh : List (Nat × Nat × Nat × Nat)}
    (hown : s.vm.findClass own = some m.cls) (hlink : (Cond.methodLink own index y).before args s = true) (hstat : (Cond.static y).before args s = true) (hinit : (Cond.initialized y.cls).before args s = true)
    (hcode : (Cond.codeWith y bytes maxL ret hh).before args s = true) (hy : y.cls ≠ "java/lang/invoke/MethodHandle" ∧ y.cls ≠ "java/lang/invoke/VarHandle")
    {W9 : Nat} {Pre : Pt → Array Value → Prop} {Post : Pt → Array Value → Option Value → Pt → Prop} (hK : Back l R p e below s args y 3 W9 Pre Post)
    {g : JFrame} (hg : g.method = m) (hsize : g.locals.size = c.maxLocals) {argsL rest : List Value} (hlen : ∀ sig, parseMethodDescriptor y.desc = some sig → argsL.length = sig.parameters.length)
    (hstack : g.stack = argsL.reverse ++ rest) (hW : 2 * g.monitorRoom + (rest.map fun v => v.category).sum ≤ W9) (hdg : decode c.code g.pc = .ok (.invokestatic index, 3))
    (hpre : ∀ vm₁, s.WarmedH vm₁ → Pre ⟨T.setVm vm₁, locs, cells, slots⟩ argsL.toArray) :
    ∃ (v : Option Value) (vm₁ : Vm) (B : Pt), s.WarmedH vm₁ ∧ Stand p l e R s m args below meth c B.U B.locs B.cells B.slots ∧ Post ⟨T.setVm vm₁, locs, cells, slots⟩ argsL.toArray v B ∧
      ∀ target, Steps p.tables e below (B.U.setTop { g with pc := g.pc + 3, stack := v.toList ++ rest }) target → Steps p.tables e below (T.setTop g) target := by
  obtain ⟨mk, methM, cM, hnamed, hmethM, -, -, -, -, -, -, hsigM⟩ := Cond.codeWith_spec hcode
  have hstatic : methM.isStatic = true := Cond.static_spec hnamed hmethM hstat
  obtain ⟨kP, hkP, -⟩ := className_of_methodNamed hnamed
  have hinitP : kP.init = .initialized := Cond.initialized_spec (findClass_of_methodNamed hnamed) hkP hinit
  obtain ⟨vm₁, X₁, hstep₁⟩ := X.invokestatic hexec hown hlink hnamed hmethM hstatic hkP hinitP hy (g := g) hg (argsL := argsL) (rest := rest) (hlen _ hsigM) hstack hdg
  obtain ⟨v, B, X', hpost, hsteps⟩ := hK m meth c ⟨T.setVm vm₁, locs, cells, slots⟩ { g with stack := rest } (.invokestatic index) mk argsL.toArray X₁ hg hsize hdg hW (X₁.named hnamed) (hpre vm₁ X₁.warmed)
  exact ⟨v, vm₁, B, X₁.warmed, X', hpost, fun target h => hstep₁ _ fun acts => by rw [doInvoke_state]; exact hsteps.trans h⟩
theorem vx_runSW {y : MethodName} {bytes cc : ByteArray} {maxL nL mc ms n index : Nat} {ret : Option FieldType} {hh : List (Nat × Nat × Nat × Nat)} {ws : List Cond} {rm : Room} {Pc : Array Value → State → Prop} {Qc : Array Value → State → Outcome → State → Prop} {free : Addr → Prop} {Ts : List Cond} {own : String} {As rest : List Value} {g : JFrame}
    (S : CallFix p m c cc nL s args Ts own) (hM : Met l y ws rm Pc Qc mc ms free) (cw : vx_CSW R s args own index y bytes maxL ret hh ws rm mc ms n) (hp : PreS s H Pc As)
    (hg : g.method = m) (hn : As.length = n) (hsize : g.locals.size = nL) (hstack : g.stack = As.reverse ++ rest) (hW : 2 * g.monitorRoom + (rest.map fun v => v.category).sum ≤ 8) (hdg : decode cc g.pc = .ok (.invokestatic index, 3)) (hf : cells + mc ≤ R.cells ∧ slots + ms ≤ R.slots) :
    va_Run p l e R s m args below meth c H locs cells slots mc ms g rest (Qc As.toArray) (free) := by
  obtain ⟨⟨hrc, hrs, hfr, hlo, hws, hcw⟩, hcode, hini, hy, hlen, hl, hstt⟩ := cw
  have hK : Back l R p e below s args y 3 8 (PreOf R mc ms Pc) (PostOf Qc mc ms free) := va_backW (hh := hh) (bytes := bytes) (maxL := maxL) (ret := ret) hM hp.1 hrc hrs hfr hlo hws hcw (fun a' U hW => word_at hW (Or.inl (by first | rfl | simp [Cond.onTables, Cond.keeps, Cond.steady])) hini)
  obtain ⟨hx, hb, hml, ho, -⟩ := S
  intro T hT X
  obtain ⟨v, vm₁, ⟨U', l2, c2, s2⟩, hW₁, X', ⟨g', mk, t, L, e1, e2, hq, h1, hL, h2, h3⟩, st⟩ := vx_callSW X hx (hh := hh) (bytes := bytes) (maxL := maxL) (ret := ret) ho hl hstt hini hcode hy hK hg (hsize.trans hml.symm) (argsL := As) (rest := rest) (fun sig h => hn.trans (hlen sig h)) hstack hW (by rw [hb]; exact hdg)
    (fun vm₁ hW₁ => ⟨hf.1, hf.2, hp.2 (T.setVm vm₁) hT hW₁⟩)
  dsimp only [Pt.U, Pt.locs, Pt.cells, Pt.slots] at X' e1 e2 h1 h2 h3 st
  subst h1; subst h2; subst h3
  exact ⟨v, (T.setVm vm₁).calling g' mk As.toArray, t, U', L, hT, X', hL, e1, e2, hq, st⟩
/-- not caught here, past rows that name other classes: it goes on to the caller -/
theorem vx_outP {p : Program} {l : Launch} {e : Env} {R : Room} {s : State} {m : MethodId} {args : Array Value} {below : List Frame} {meth : Method} {c : Code} {H : Heap} {locs : List Loc} {cells slots : Nat} {free : Addr → Prop} {ls : Array Slot} {rest : List Value} {Qc : Array Value → State → Outcome → State → Prop} {XC : String → State → State → Prop}
    {pc : Nat} {own E : String} {ce : Cell} {q : Addr} {mc ms : Nat} (hown : s.vm.findClass own = some m.cls) (hlocks : meth.locks = false)
    (hpass : ∀ z ∈ c.exceptionTable.toList, covers z pc = false ∨ (z.catchType ≠ 0 ∧ ∃ nm : String, (Cond.classLink own z.catchType nm).before args s = true ∧ va_Nc E nm s)) (hcell : H[q]? = some ce) (hv : ce.vm = .none) (hcl : s.vm.findClass E = some ce.cls)
    (hx : ∀ t : State, t.heap = H → s.vm.Alike t.vm → XC E s t) (hf : ∀ z ∈ locs, free z.base) (hc : cells ≤ mc) (hs : slots ≤ ms) :
    vx_W p l e R s m args below meth c H locs cells slots (vx_MQ below Qc XC args s mc ms free) (F0 m pc ls rest) q := by
  intro T hT X
  have hpl : e.platform.magicAccessors = ({} : Platform).magicAccessors := by rw [X.admits.platform]
  obtain ⟨vm', hW', X', st⟩ := X.outThrough hlocks q (g := F0 m pc ls rest) rfl rfl rfl (cell := ce) (by rw [hT]; exact hcell) (by rw [hv]; rfl)
    (by obtain ⟨k9, h9, -⟩ := Vm.findClass_spec hcl; exact ⟨k9, h9⟩) (fun z hz => by
      rcases hpass z hz with h | ⟨hz0, nm, hl1, hn1⟩
      · exact Or.inl h
      · obtain ⟨c6, hc6, hcl6⟩ := Cond.classLink_spec hown hl1 e.platform hpl
        obtain ⟨a8, b8, h1, h2, h3⟩ := hn1
        cases Option.some.inj (h1.symm.trans hcl)
        cases Option.some.inj (h2.symm.trans hc6)
        exact Or.inr ⟨hz0, _, hcl6, h3⟩)
  obtain ⟨g₀, hfr⟩ := X'.frames_eq
  have hcell9 : ((T.setVm vm').setFrames (.throwing q :: below)).heap[q]? = some ce := by
    show T.heap[q]? = some ce
    rw [hT]; exact hcell
  have hend : Ended ((T.setVm vm').setFrames (.throwing q :: below)) below (.threw q) := State.frames_setFrames _ (State.cur_lt_of_frames hfr)
  refine ⟨(T.setVm vm').setFrames (.throwing q :: below), ?_, .threw q, X'.here.running, hend, Or.inr ⟨q, rfl, E, ce, locs, hx _ hT (X'.ends _).1.alike, hcell9, hv, hcl, (X'.ends _).1, (X'.ends _).2.mono hc hs, hf⟩⟩
  rw [X.pushThrowing_eq]
  exact st
/-- a thing of a world lies in the heap -/
theorem vx_lt {D : va_G} {cl : List vw_C} {ws : va_W} {H1 : Heap} (h : va_P D cl ws H1) {k : Nat} {q : Nat × va_E} (hk : ws[k]? = some q) : q.1 < H1.size := (h k q hk).lt
end VXS
/-! ===== END ===== -/
/-! ===== BEGIN methods with a table of their own: called by a name, returning or throwing ===== -/
section VXH
/-! vx_backW, vx_callVX, vx_callSX, vx_callVW, vx_runVW, vx_runVX, vx_runSX, vx_ofWH follow the same proofs as their sisters above (Free/Laws.lean, Shelf42/LK1.lean); vx_outP calls Shelf42/NT130.lean (outThrough). -/
section
variable {l : Launch} {R : Room} {p : Program} {e : Env} {below : List Frame} {s : State} {sargs : Array Value} {y : MethodName} {len W9 : Nat}
theorem vx_backW {ws : List Cond} {rm : Room} {Pc : Array Value → State → Prop} {Qc : Array Value → State → Outcome → State → Prop} {XC : String → State → State → Prop} {mc ms : Nat} {free : Addr → Prop} {bytes : ByteArray} {maxL : Nat} {ret : Option FieldType} {hh : List (Nat × Nat × Nat × Nat)}
    (hM : vx_Met l y ws rm Pc Qc XC mc ms free) (hblind : FrameBlind Pc) (hrc : rm.cells = mc) (hrs : rm.slots = ms)
    (hframes : rm.frames + 1 ≤ R.frames) (hlocals : W9 + (maxL + 11) + rm.locals ≤ R.locals)
    (hws : ∀ w ∈ ws, ∀ a' U, s.WarmedH U.vm → w.before a' U = true) (hcode : Cond.codeWith y bytes maxL ret hh ∈ ws) (hinit : ∀ a' U, s.WarmedH U.vm → (Cond.initialized y.cls).before a' U = true) :
    vx_Back l R p e below s sargs y len W9 (PreOf R mc ms Pc) (PostOf Qc mc ms free) (vx_Post XC mc ms free) := by
  intro m meth c A g ig mk a X hg hsize hdg hW hn hp
  have h1 : (headSpec ws rm).pre.before a A.U = true := atoms_intro fun w hw => hws w hw _ _ X.warmed
  have h2 : (Cond.codeWith y bytes maxL ret hh).before a A.U = true := hws _ hcode _ _ X.warmed
  have h3 : (Cond.initialized y.cls).before a A.U = true := hinit _ _ X.warmed
  have h4 : A.cells + (headSpec ws rm).room.cells ≤ R.cells := by rw [show (headSpec ws rm).room.cells = mc from hrc]; exact hp.1
  have h5 : A.slots + (headSpec ws rm).room.slots ≤ R.slots := by rw [show (headSpec ws rm).room.slots = ms from hrs]; exact hp.2.1
  have hPc : Pc a (A.U.calling g mk a) := hblind _ _ _ _ hp.2.2
  obtain ⟨U, Ls, c0, s0⟩ := A
  dsimp only [Pt.U, Pt.locs, Pt.cells, Pt.slots] at h1 h2 h3 h4 h5 X hn hPc ⊢
  obtain ⟨m9, methY, cY, hn9, hmY, hcY, -, hlY, -⟩ := Cond.codeWith_spec h2
  cases Option.some.inj (hn9.symm.trans hn)
  obtain ⟨kY, hkY, -⟩ := className_of_methodNamed hn
  have hinitY : kY.init = .initialized := Cond.initialized_spec (findClass_of_methodNamed hn) hkY h3
  have h : At U g.method c below := by rw [hg]; exact X.here
  have hlocals9 : W9 + (maxL + 11) + (headSpec ws rm).room.locals ≤ R.locals := hlocals
  have happ : (headSpec ws rm).appliesLoose y e.platform (U.calling g mk a) = true :=
    Spec.appliesLoose_calling (g := g) h hdg hn hkY hinitY
      (X.room_calling (g := g) (R' := (headSpec ws rm).room) hsize hmY hcY hframes (by rw [hlY]; omega) h4 h5) h1
  obtain ⟨mid, hmid⟩ := h.above
  have hfr : (U.setTop g).frames = (.java g :: mid) ++ below := by rw [State.frames_setTop' g h.top, hmid]; rfl
  obtain ⟨o, s₂, hsteps, -, hend, hq⟩ := Steps.callFree hM p X.admits X.cas X.clock (acts := []) hfr happ hPc trivial
  have hq' : vx_Q Qc XC mc ms free a (U.calling g mk a) o s₂ := hq
  rw [State.frames_setTop' g h.top] at hend
  obtain ⟨g₀, hg0⟩ := Option.isSome_iff_exists.mp h.top
  obtain ⟨r, hr⟩ := State.topJava?_eq_some.mp hg0
  have hr' : (({ U with heap := s₂.heap, slotsUsed := s₂.slotsUsed } : State).setVm s₂.vm).frames = .java g₀ :: r := hr
  rcases hq' with ⟨hqc, L, hfe, hL⟩ | ⟨q, rfl, E, ce, L, hx, hce, hcv, hcl, hW₂, hsm, hL⟩
  · obtain ⟨⟨v, rfl⟩, hW₂, e2, q2, q3, q4, q5, q6⟩ := id hfe
    have e3 : s₂ = ({ (U.calling g mk a).setFrames s₂.frames with heap := s₂.heap, slotsUsed := s₂.slotsUsed } : State).setVm s₂.vm := by
      have : s₂ = ({ s₂ with vm := (U.calling g mk a).vm } : State).setVm s₂.vm := rfl
      rw [e2] at this
      exact this
    obtain ⟨c₂, i₂, len₂, hc₂, hd₂, hf₂⟩ := hend
    have hW' : U.WarmedH s₂.vm := hW₂
    have hcc : c₂ = c := by
      have h1 : s₂.code? g.method = U.code? g.method := by
        rw [State.code?_eq, State.code?_eq, hW'.alike.method?]
      exact Option.some.inj (hc₂.symm.trans (h1.trans h.code))
    subst hcc
    have hlen : len₂ = len := by rw [hdg] at hd₂; cases hd₂; rfl
    subst hlen
    have hs₂ : s₂ = (({ U with heap := s₂.heap, slotsUsed := s₂.slotsUsed } : State).setVm s₂.vm).setTop { g with pc := g.pc + len₂, stack := v.toList ++ g.stack } := by
      refine e3.trans ?_
      rw [hf₂, State.calling_eq h.top, State.setFrames_setFrames, State.setTop_of_frames _ hr', hr]
      rfl
    have hsame : U.sameButNew ({ U with heap := s₂.heap, slotsUsed := s₂.slotsUsed } : State) L mc ms := by
      refine ⟨?_, q2, q3, q4, q5, q6⟩
      obtain ⟨t, ht, -⟩ := State.frames_cons hr
      show ({ U with heap := s₂.heap, slotsUsed := s₂.slotsUsed } : State) = { U.setFrames U.frames with heap := s₂.heap, slotsUsed := s₂.slotsUsed }
      rw [State.setFrames_self ht]
    subst hg
    refine Or.inl ⟨v, ⟨(({ U with heap := s₂.heap, slotsUsed := s₂.slotsUsed } : State).setVm s₂.vm), Ls ++ L, c0 + mc, s0 + ms⟩,
      ⟨X.admits, X.cas, X.clock, X.frames, X.room, X.hears, X.method, X.code, (X.here.setHeapUsed s₂.heap s₂.slotsUsed).setVm hW'.alike, X.tail, State.WarmedH.trans X.warmed hW', X.limits, X.bytes, X.same.trans (hsame.setVm s.vm)⟩,
      ⟨g, mk, s₂, L, rfl, rfl, hqc, rfl, hL, rfl, rfl⟩, ?_⟩
    show Steps p.tables e below _ ((({ U with heap := s₂.heap, slotsUsed := s₂.slotsUsed } : State).setVm s₂.vm).setTop { g with pc := g.pc + len₂, stack := v.toList ++ g.stack })
    rw [← hs₂]
    exact hsteps
  · obtain ⟨e2, q2, q3, q4, q5, q6⟩ := id hsm
    have e3 : s₂ = ({ (U.calling g mk a).setFrames s₂.frames with heap := s₂.heap, slotsUsed := s₂.slotsUsed } : State).setVm s₂.vm := by
      have : s₂ = ({ s₂ with vm := (U.calling g mk a).vm } : State).setVm s₂.vm := rfl
      rw [e2] at this
      exact this
    have hf₂ : s₂.frames = .throwing q :: .java g :: U.frames.tail := hend
    have hW' : U.WarmedH s₂.vm := hW₂
    have hs₂ : s₂ = ((({ U with heap := s₂.heap, slotsUsed := s₂.slotsUsed } : State).setVm s₂.vm).setTop g).pushFrame (.throwing q) := by
      refine e3.trans ?_
      rw [hf₂, State.calling_eq h.top, State.setFrames_setFrames, State.pushFrame, State.frames_setTop _ hr', State.setTop_of_frames _ hr', State.setFrames_setFrames, hr]
      rfl
    have hsame : U.sameButNew ({ U with heap := s₂.heap, slotsUsed := s₂.slotsUsed } : State) L mc ms := by
      refine ⟨?_, q2, q3, q4, q5, q6⟩
      obtain ⟨t, ht, -⟩ := State.frames_cons hr
      show ({ U with heap := s₂.heap, slotsUsed := s₂.slotsUsed } : State) = { U.setFrames U.frames with heap := s₂.heap, slotsUsed := s₂.slotsUsed }
      rw [State.setFrames_self ht]
    subst hg
    refine Or.inr ⟨q, ⟨(({ U with heap := s₂.heap, slotsUsed := s₂.slotsUsed } : State).setVm s₂.vm), Ls ++ L, c0 + mc, s0 + ms⟩,
      ⟨X.admits, X.cas, X.clock, X.frames, X.room, X.hears, X.method, X.code, (X.here.setHeapUsed s₂.heap s₂.slotsUsed).setVm hW'.alike, X.tail, State.WarmedH.trans X.warmed hW', X.limits, X.bytes, X.same.trans (hsame.setVm s.vm)⟩,
      ⟨g, mk, s₂, L, E, ce, rfl, rfl, hx, hce, hcv, hcl, rfl, hL, rfl, rfl⟩, ?_⟩
    show Steps p.tables e below _ (((({ U with heap := s₂.heap, slotsUsed := s₂.slotsUsed } : State).setVm s₂.vm).setTop g).pushFrame (.throwing q))
    rw [← hs₂]
    exact hsteps
end
variable {p : Program} {l : Launch} {e : Env} {R : Room} {s : State} {m : MethodId} {args : Array Value} {below : List Frame} {meth : Method} {c : Code} {T : State} {H : Heap} {locs : List Loc} {cells slots : Nat}
theorem vx_callVX (X : Stand p l e R s m args below meth c T locs cells slots) (hexec : p.tables.exec = Jvm.exec) {own C : String} {index : Nat} {y : MethodName} {bytes : ByteArray} {maxL : Nat} {ret : Option FieldType} {hh : List (Nat × Nat × Nat × Nat)}
    (hown : s.vm.findClass own = some m.cls) (hlink : (Cond.methodLink own index y).before args s = true) (hinst : (Cond.instanceMethod y).before args s = true) (hsel : (Cond.selects C y y).before args s = true)
    (hcode : (Cond.codeWith y bytes maxL ret hh).before args s = true) (hy : y.cls ≠ "java/lang/invoke/MethodHandle" ∧ y.cls ≠ "java/lang/invoke/VarHandle")
    {W9 : Nat} {Pre : Pt → Array Value → Prop} {Post : Pt → Array Value → Option Value → Pt → Prop} {PostX : Pt → Array Value → Addr → Pt → Prop} (hK : vx_Back l R p e below s args y 3 W9 Pre Post PostX)
    {b : Addr} {cellB : Cell} (hcell : T.heap[b]? = some cellB) (hobj : cellB.vm.isStatics = false) (hcls : s.vm.findClass C = some cellB.cls)
    {g : JFrame} (hg : g.method = m) (hsize : g.locals.size = c.maxLocals) {argsL rest : List Value} (hlen : ∀ sig, parseMethodDescriptor y.desc = some sig → argsL.length = sig.parameters.length)
    (hstack : g.stack = argsL.reverse ++ .ref b :: rest) (hW : 2 * g.monitorRoom + (rest.map fun v => v.category).sum ≤ W9) (hdg : decode c.code g.pc = .ok (.invokevirtual index, 3))
    (hpre : ∀ vm₁, s.WarmedH vm₁ → Pre ⟨T.setVm vm₁, locs, cells, slots⟩ (Value.ref b :: argsL).toArray) :
    (∃ (v : Option Value) (vm₁ : Vm) (B : Pt), s.WarmedH vm₁ ∧ Stand p l e R s m args below meth c B.U B.locs B.cells B.slots ∧ Post ⟨T.setVm vm₁, locs, cells, slots⟩ (Value.ref b :: argsL).toArray v B ∧
      ∀ target, Steps p.tables e below (B.U.setTop { g with pc := g.pc + 3, stack := v.toList ++ rest }) target → Steps p.tables e below (T.setTop g) target) ∨
    (∃ (q : Addr) (vm₁ : Vm) (B : Pt), s.WarmedH vm₁ ∧ Stand p l e R s m args below meth c B.U B.locs B.cells B.slots ∧ PostX ⟨T.setVm vm₁, locs, cells, slots⟩ (Value.ref b :: argsL).toArray q B ∧
      Steps p.tables e below (T.setTop g) ((B.U.setTop { g with stack := rest }).pushFrame (.throwing q))) := by
  obtain ⟨mk, methM, hnamed, hmethM, hstM, habM⟩ := Cond.instanceMethod_spec hinst
  obtain ⟨m8, methM', cM, hn8, hmethM', -, -, -, -, -, -, hsigM⟩ := Cond.codeWith_spec hcode
  cases Option.some.inj (hn8.symm.trans hnamed)
  cases hmethM.symm.trans hmethM'
  obtain ⟨c2, r2, m2, q1, q2, q3, q4, kP, hkP, hkPi⟩ := Cond.selects_spec hsel
  cases hcls.symm.trans q1
  cases (State.methodFound?_of_named hnamed hy).symm.trans q2
  cases hnamed.symm.trans q3
  have hselP : selectMethod e.platform s.vm cellB.cls mk = .method mk := by rw [Launch.admits_selectMethod X.admits]; exact q4
  obtain ⟨vm₁, X₁, hstep₁⟩ := X.invokevirtual hexec hown hlink hnamed hmethM hstM hkP hkPi hy (a := b) (cell := cellB) hcell
    (fun z h => by rw [h] at hobj; cases hobj) hselP hmethM habM hkP hkPi (g := g) hg (argsL := argsL) (rest := rest) (hlen _ hsigM) hstack hdg
  rcases hK m meth c ⟨T.setVm vm₁, locs, cells, slots⟩ { g with stack := rest } (.invokevirtual index) mk (Value.ref b :: argsL).toArray X₁ hg hsize hdg hW (X₁.named hnamed) (hpre vm₁ X₁.warmed) with ⟨v, B, X', hpost, hsteps⟩ | ⟨q, B, X', hpost, hsteps⟩
  · exact Or.inl ⟨v, vm₁, B, X₁.warmed, X', hpost, fun target h => hstep₁ _ fun acts => by rw [doInvoke_state]; exact hsteps.trans h⟩
  · exact Or.inr ⟨q, vm₁, B, X₁.warmed, X', hpost, hstep₁ _ fun acts => by rw [doInvoke_state]; exact hsteps⟩
theorem vx_callSX (X : Stand p l e R s m args below meth c T locs cells slots) (hexec : p.tables.exec = Jvm.exec) {own : String} {index : Nat} {y : MethodName} {bytes : ByteArray} {maxL : Nat} {ret : Option FieldType} {hh : List (Nat × Nat × Nat × Nat)}
    (hown : s.vm.findClass own = some m.cls) (hlink : (Cond.methodLink own index y).before args s = true) (hstat : (Cond.static y).before args s = true) (hinit : (Cond.initialized y.cls).before args s = true)
    (hcode : (Cond.codeWith y bytes maxL ret hh).before args s = true) (hy : y.cls ≠ "java/lang/invoke/MethodHandle" ∧ y.cls ≠ "java/lang/invoke/VarHandle")
    {W9 : Nat} {Pre : Pt → Array Value → Prop} {Post : Pt → Array Value → Option Value → Pt → Prop} {PostX : Pt → Array Value → Addr → Pt → Prop} (hK : vx_Back l R p e below s args y 3 W9 Pre Post PostX)
    {g : JFrame} (hg : g.method = m) (hsize : g.locals.size = c.maxLocals) {argsL rest : List Value} (hlen : ∀ sig, parseMethodDescriptor y.desc = some sig → argsL.length = sig.parameters.length)
    (hstack : g.stack = argsL.reverse ++ rest) (hW : 2 * g.monitorRoom + (rest.map fun v => v.category).sum ≤ W9) (hdg : decode c.code g.pc = .ok (.invokestatic index, 3))
    (hpre : ∀ vm₁, s.WarmedH vm₁ → Pre ⟨T.setVm vm₁, locs, cells, slots⟩ argsL.toArray) :
    (∃ (v : Option Value) (vm₁ : Vm) (B : Pt), s.WarmedH vm₁ ∧ Stand p l e R s m args below meth c B.U B.locs B.cells B.slots ∧ Post ⟨T.setVm vm₁, locs, cells, slots⟩ argsL.toArray v B ∧
      ∀ target, Steps p.tables e below (B.U.setTop { g with pc := g.pc + 3, stack := v.toList ++ rest }) target → Steps p.tables e below (T.setTop g) target) ∨
    (∃ (q : Addr) (vm₁ : Vm) (B : Pt), s.WarmedH vm₁ ∧ Stand p l e R s m args below meth c B.U B.locs B.cells B.slots ∧ PostX ⟨T.setVm vm₁, locs, cells, slots⟩ argsL.toArray q B ∧
      Steps p.tables e below (T.setTop g) ((B.U.setTop { g with stack := rest }).pushFrame (.throwing q))) := by
  obtain ⟨mk, methM, cM, hnamed, hmethM, -, -, -, -, -, -, hsigM⟩ := Cond.codeWith_spec hcode
  have hstatic : methM.isStatic = true := Cond.static_spec hnamed hmethM hstat
  obtain ⟨kP, hkP, -⟩ := className_of_methodNamed hnamed
  have hinitP : kP.init = .initialized := Cond.initialized_spec (findClass_of_methodNamed hnamed) hkP hinit
  obtain ⟨vm₁, X₁, hstep₁⟩ := X.invokestatic hexec hown hlink hnamed hmethM hstatic hkP hinitP hy (g := g) hg (argsL := argsL) (rest := rest) (hlen _ hsigM) hstack hdg
  rcases hK m meth c ⟨T.setVm vm₁, locs, cells, slots⟩ { g with stack := rest } (.invokestatic index) mk argsL.toArray X₁ hg hsize hdg hW (X₁.named hnamed) (hpre vm₁ X₁.warmed) with ⟨v, B, X', hpost, hsteps⟩ | ⟨q, B, X', hpost, hsteps⟩
  · exact Or.inl ⟨v, vm₁, B, X₁.warmed, X', hpost, fun target h => hstep₁ _ fun acts => by rw [doInvoke_state]; exact hsteps.trans h⟩
  · exact Or.inr ⟨q, vm₁, B, X₁.warmed, X', hpost, hstep₁ _ fun acts => by rw [doInvoke_state]; exact hsteps⟩
theorem vx_callVW (X : Stand p l e R s m args below meth c T locs cells slots) (hexec : p.tables.exec = Jvm.exec) {own C : String} {index : Nat} {y : MethodName} {bytes : ByteArray} {maxL : Nat} {ret : Option FieldType} {hh : List (Nat × Nat × Nat × Nat)}
    (hown : s.vm.findClass own = some m.cls) (hlink : (Cond.methodLink own index y).before args s = true) (hinst : (Cond.instanceMethod y).before args s = true) (hsel : (Cond.selects C y y).before args s = true)
    (hcode : (Cond.codeWith y bytes maxL ret hh).before args s = true) (hy : y.cls ≠ "java/lang/invoke/MethodHandle" ∧ y.cls ≠ "java/lang/invoke/VarHandle")
    {W9 : Nat} {Pre : Pt → Array Value → Prop} {Post : Pt → Array Value → Option Value → Pt → Prop} (hK : Back l R p e below s args y 3 W9 Pre Post)
    {b : Addr} {cellB : Cell} (hcell : T.heap[b]? = some cellB) (hobj : cellB.vm.isStatics = false) (hcls : s.vm.findClass C = some cellB.cls)
    {g : JFrame} (hg : g.method = m) (hsize : g.locals.size = c.maxLocals) {argsL rest : List Value} (hlen : ∀ sig, parseMethodDescriptor y.desc = some sig → argsL.length = sig.parameters.length)
    (hstack : g.stack = argsL.reverse ++ .ref b :: rest) (hW : 2 * g.monitorRoom + (rest.map fun v => v.category).sum ≤ W9) (hdg : decode c.code g.pc = .ok (.invokevirtual index, 3))
    (hpre : ∀ vm₁, s.WarmedH vm₁ → Pre ⟨T.setVm vm₁, locs, cells, slots⟩ (Value.ref b :: argsL).toArray) :
    ∃ (v : Option Value) (vm₁ : Vm) (B : Pt), s.WarmedH vm₁ ∧ Stand p l e R s m args below meth c B.U B.locs B.cells B.slots ∧ Post ⟨T.setVm vm₁, locs, cells, slots⟩ (Value.ref b :: argsL).toArray v B ∧
      ∀ target, Steps p.tables e below (B.U.setTop { g with pc := g.pc + 3, stack := v.toList ++ rest }) target → Steps p.tables e below (T.setTop g) target := by
  obtain ⟨mk, methM, hnamed, hmethM, hstM, habM⟩ := Cond.instanceMethod_spec hinst
  obtain ⟨m8, methM', cM, hn8, hmethM', -, -, -, -, -, -, hsigM⟩ := Cond.codeWith_spec hcode
  cases Option.some.inj (hn8.symm.trans hnamed)
  cases hmethM.symm.trans hmethM'
  obtain ⟨c2, r2, m2, q1, q2, q3, q4, kP, hkP, hkPi⟩ := Cond.selects_spec hsel
  cases hcls.symm.trans q1
  cases (State.methodFound?_of_named hnamed hy).symm.trans q2
  cases hnamed.symm.trans q3
  have hselP : selectMethod e.platform s.vm cellB.cls mk = .method mk := by rw [Launch.admits_selectMethod X.admits]; exact q4
  obtain ⟨vm₁, X₁, hstep₁⟩ := X.invokevirtual hexec hown hlink hnamed hmethM hstM hkP hkPi hy (a := b) (cell := cellB) hcell
    (fun z h => by rw [h] at hobj; cases hobj) hselP hmethM habM hkP hkPi (g := g) hg (argsL := argsL) (rest := rest) (hlen _ hsigM) hstack hdg
  obtain ⟨v, B, X', hpost, hsteps⟩ := hK m meth c ⟨T.setVm vm₁, locs, cells, slots⟩ { g with stack := rest } (.invokevirtual index) mk (Value.ref b :: argsL).toArray X₁ hg hsize hdg hW (X₁.named hnamed) (hpre vm₁ X₁.warmed)
  exact ⟨v, vm₁, B, X₁.warmed, X', hpost, fun target h => hstep₁ _ fun acts => by rw [doInvoke_state]; exact hsteps.trans h⟩
abbrev vx_CVW (R : Room) (s : State) (args : Array Value) (own C : String) (index : Nat) (y : MethodName) (bytes : ByteArray) (maxL : Nat) (ret : Option FieldType) (hh : List (Nat × Nat × Nat × Nat)) (ws : List Cond) (rm : Room) (mc ms n : Nat) : Prop :=
  (rm.cells = mc ∧ rm.slots = ms ∧ rm.frames + 1 ≤ R.frames ∧ 8 + (maxL + 11) + rm.locals ≤ R.locals ∧ (∀ w ∈ ws, ∀ (a' : Array Value) (U : State), s.WarmedH U.vm → w.before a' U = true) ∧ Cond.codeWith y bytes maxL ret hh ∈ ws) ∧
  (Cond.codeWith y bytes maxL ret hh).before args s = true ∧ (Cond.initialized y.cls).before args s = true ∧ (y.cls ≠ "java/lang/invoke/MethodHandle" ∧ y.cls ≠ "java/lang/invoke/VarHandle") ∧
  (∀ sig, parseMethodDescriptor y.desc = some sig → n = sig.parameters.length) ∧ (Cond.methodLink own index y).before args s = true ∧ (Cond.instanceMethod y).before args s = true ∧ (Cond.selects C y y).before args s = true
theorem vx_cwVW {own C : String} {index maxL mc ms : Nat} {y : MethodName} {bytes : ByteArray} {ret : Option FieldType} {hh : List (Nat × Nat × Nat × Nat)} {Ts ws ws' : List Cond} {rm : Room} (n : Nat) (ht : ∀ w ∈ Ts, w.before args s = true) (hT : GoodIn Ts (wsV own index C y ws)) (hw : ws = Cond.codeWith y bytes maxL ret hh :: ws') (hrc : rm.cells = mc) (hrs : rm.slots = ms)
    (hd : y.cls = C ∧ y.cls ≠ "java/lang/invoke/MethodHandle" ∧ y.cls ≠ "java/lang/invoke/VarHandle" ∧ (parseMethodDescriptor y.desc).map (fun d => d.parameters.length) = some n) (hR : rm.frames + 1 ≤ R.frames ∧ 8 + (maxL + 11) + rm.locals ≤ R.locals) :
    vx_CVW R s args own C index y bytes maxL ret hh ws rm mc ms n := by
  obtain ⟨hC, hd⟩ := hd
  subst hC
  have ok : ∀ w ∈ wsV own index y.cls y ws, w.before args s = true := fun w h => ht w (hT w h).1
  have hG : GoodIn Ts ws := fun w h => hT w (by unfold wsV; exact List.mem_append_right _ h)
  have hc : Cond.codeWith y bytes maxL ret hh ∈ ws := by rw [hw]; exact List.mem_cons_self
  refine ⟨⟨hrc, hrs, hR.1, hR.2, pay_in ht hG, hc⟩, ht _ (hG _ hc).1, ok _ (by simp [wsV]), ⟨hd.1, hd.2.1⟩, fun sig h => ?_, ok _ (by simp [wsV]), ok _ (by simp [wsV]), ok _ (by simp [wsV])⟩
  have h2 := hd.2.2
  rw [h] at h2
  exact (Option.some.inj h2).symm
theorem vx_runVW {y : MethodName} {bytes cc : ByteArray} {maxL nL mc ms n index : Nat} {ret : Option FieldType} {hh : List (Nat × Nat × Nat × Nat)} {ws : List Cond} {rm : Room} {Pc : Array Value → State → Prop} {Qc : Array Value → State → Outcome → State → Prop} {free : Addr → Prop} {Ts : List Cond} {own C : String} {b : Addr} {As rest : List Value} {g : JFrame}
    (S : CallFix p m c cc nL s args Ts own) (hM : Met l y ws rm Pc Qc mc ms free) (cw : vx_CVW R s args own C index y bytes maxL ret hh ws rm mc ms n) (hp : PreV s H C b Pc As)
    (hg : g.method = m) (hn : As.length = n) (hsize : g.locals.size = nL) (hstack : g.stack = As.reverse ++ .ref b :: rest) (hW : 2 * g.monitorRoom + (rest.map fun v => v.category).sum ≤ 8) (hdg : decode cc g.pc = .ok (.invokevirtual index, 3)) (hf : cells + mc ≤ R.cells ∧ slots + ms ≤ R.slots) :
    va_Run p l e R s m args below meth c H locs cells slots mc ms g rest (Qc (Value.ref b :: As).toArray) free := by
  obtain ⟨⟨hrc, hrs, hfr, hlo, hws, hcw⟩, hcode, hini, hy, hlen, hl, hin, hse⟩ := cw
  have hK : Back l R p e below s args y 3 8 (PreOf R mc ms Pc) (PostOf Qc mc ms free) := va_backW (hh := hh) (bytes := bytes) (maxL := maxL) (ret := ret) hM hp.1 hrc hrs hfr hlo hws hcw (fun a' U hW => word_at hW (Or.inl (by first | rfl | simp [Cond.onTables, Cond.keeps, Cond.steady])) hini)
  obtain ⟨hx, hb, hml, ho, -⟩ := S
  obtain ⟨-, ⟨cellB, hcB, hoB, hclB⟩, hPc⟩ := hp
  intro T hT X
  obtain ⟨v, vm₁, ⟨U', l2, c2, s2⟩, hW₁, X', ⟨g', mk, t, L, e1, e2, hq, h1, hL, h2, h3⟩, st⟩ := vx_callVW X hx (C := C) (hh := hh) (bytes := bytes) (maxL := maxL) (ret := ret) ho hl hin hse hcode hy hK (by rw [hT]; exact hcB) hoB hclB hg (hsize.trans hml.symm) (argsL := As) (rest := rest) (fun sig h => hn.trans (hlen sig h)) hstack hW (by rw [hb]; exact hdg)
    (fun vm₁ hW₁ => ⟨hf.1, hf.2, hPc (T.setVm vm₁) hT hW₁⟩)
  dsimp only [Pt.U, Pt.locs, Pt.cells, Pt.slots] at X' e1 e2 h1 h2 h3 st
  subst h1; subst h2; subst h3
  exact ⟨v, (T.setVm vm₁).calling g' mk (Value.ref b :: As).toArray, t, U', L, hT, X', hL, e1, e2, hq, st⟩
section
variable {y : MethodName} {bytes cc : ByteArray} {maxL nL mc ms n index : Nat} {ret : Option FieldType} {ws : List Cond} {rm : Room} {Pc : Array Value → State → Prop} {Qc : Array Value → State → Outcome → State → Prop} {XC : String → State → State → Prop} {free : Addr → Prop} {Ts : List Cond} {own C : String} {b : Addr} {As rest : List Value} {g : JFrame}
theorem vx_runVX {hh : List (Nat × Nat × Nat × Nat)} (S : CallFix p m c cc nL s args Ts own) (hM : vx_Met l y ws rm Pc Qc XC mc ms free) (cw : vx_CVW R s args own C index y bytes maxL ret hh ws rm mc ms n) (hp : PreV s H C b Pc As)
    (hg : g.method = m) (hn : As.length = n) (hsize : g.locals.size = nL) (hstack : g.stack = As.reverse ++ .ref b :: rest) (hW : 2 * g.monitorRoom + (rest.map fun v => v.category).sum ≤ 8) (hdg : decode cc g.pc = .ok (.invokevirtual index, 3)) (hf : cells + mc ≤ R.cells ∧ slots + ms ≤ R.slots) :
    vx_Run p l e R s m args below meth c H locs cells slots mc ms g rest (Qc (Value.ref b :: As).toArray) XC free := by
  obtain ⟨⟨hrc, hrs, hfr, hlo, hws, hcw⟩, hcode, hini, hy, hlen, hl, hin, hse⟩ := cw
  have hK : vx_Back l R p e below s args y 3 8 (PreOf R mc ms Pc) (PostOf Qc mc ms free) (vx_Post XC mc ms free) := vx_backW (hh := hh) (bytes := bytes) (maxL := maxL) (ret := ret) hM hp.1 hrc hrs hfr hlo hws hcw (fun a' U hW => word_at hW (Or.inl (by first | rfl | simp [Cond.onTables, Cond.keeps, Cond.steady])) hini)
  obtain ⟨hx, hb, hml, ho, -⟩ := S
  obtain ⟨-, ⟨cellB, hcB, hoB, hclB⟩, hPc⟩ := hp
  intro T hT X
  rcases vx_callVX X hx (C := C) (hh := hh) (bytes := bytes) (maxL := maxL) (ret := ret) ho hl hin hse hcode hy hK (by rw [hT]; exact hcB) hoB hclB hg (hsize.trans hml.symm) (argsL := As) (rest := rest) (fun sig h => hn.trans (hlen sig h)) hstack hW (by rw [hb]; exact hdg)
    (fun vm₁ hW₁ => ⟨hf.1, hf.2, hPc (T.setVm vm₁) hT hW₁⟩) with ⟨v, vm₁, ⟨U', l2, c2, s2⟩, hW₁, X', ⟨g', mk, t, L, e1, e2, hq, h1, hL, h2, h3⟩, st⟩ | ⟨q, vm₁, ⟨U', l2, c2, s2⟩, hW₁, X', ⟨g', mk, t, L, E, ce, e1, e2, hq, hce, hcv, hcl, h1, hL, h2, h3⟩, st⟩
  · dsimp only [Pt.U, Pt.locs, Pt.cells, Pt.slots] at X' e1 e2 h1 h2 h3 st
    subst h1; subst h2; subst h3
    exact Or.inl ⟨v, (T.setVm vm₁).calling g' mk (Value.ref b :: As).toArray, t, U', L, hT, X', hL, e1, e2, hq, st⟩
  · dsimp only [Pt.U, Pt.locs, Pt.cells, Pt.slots] at X' e1 e2 h1 h2 h3 st hcl
    subst h1; subst h2; subst h3
    exact Or.inr ⟨q, (T.setVm vm₁).calling g' mk (Value.ref b :: As).toArray, t, U', L, E, ce, hT, X', hL, e1, e2, hq, hce, hcv, vx_cls hW₁ hcl, st⟩
theorem vx_runSX {hh : List (Nat × Nat × Nat × Nat)} (S : CallFix p m c cc nL s args Ts own) (hM : vx_Met l y ws rm Pc Qc XC mc ms free) (cw : vx_CSW R s args own index y bytes maxL ret hh ws rm mc ms n) (hp : PreS s H Pc As)
    (hg : g.method = m) (hn : As.length = n) (hsize : g.locals.size = nL) (hstack : g.stack = As.reverse ++ rest) (hW : 2 * g.monitorRoom + (rest.map fun v => v.category).sum ≤ 8) (hdg : decode cc g.pc = .ok (.invokestatic index, 3)) (hf : cells + mc ≤ R.cells ∧ slots + ms ≤ R.slots) :
    vx_Run p l e R s m args below meth c H locs cells slots mc ms g rest (Qc As.toArray) XC free := by
  obtain ⟨⟨hrc, hrs, hfr, hlo, hws, hcw⟩, hcode, hini, hy, hlen, hl, hstt⟩ := cw
  have hK : vx_Back l R p e below s args y 3 8 (PreOf R mc ms Pc) (PostOf Qc mc ms free) (vx_Post XC mc ms free) := vx_backW (hh := hh) (bytes := bytes) (maxL := maxL) (ret := ret) hM hp.1 hrc hrs hfr hlo hws hcw (fun a' U hW => word_at hW (Or.inl (by first | rfl | simp [Cond.onTables, Cond.keeps, Cond.steady])) hini)
  obtain ⟨hx, hb, hml, ho, -⟩ := S
  intro T hT X
  rcases vx_callSX X hx (hh := hh) (bytes := bytes) (maxL := maxL) (ret := ret) ho hl hstt hini hcode hy hK hg (hsize.trans hml.symm) (argsL := As) (rest := rest) (fun sig h => hn.trans (hlen sig h)) hstack hW (by rw [hb]; exact hdg)
    (fun vm₁ hW₁ => ⟨hf.1, hf.2, hp.2 (T.setVm vm₁) hT hW₁⟩) with ⟨v, vm₁, ⟨U', l2, c2, s2⟩, hW₁, X', ⟨g', mk, t, L, e1, e2, hq, h1, hL, h2, h3⟩, st⟩ | ⟨q, vm₁, ⟨U', l2, c2, s2⟩, hW₁, X', ⟨g', mk, t, L, E, ce, e1, e2, hq, hce, hcv, hcl, h1, hL, h2, h3⟩, st⟩
  · dsimp only [Pt.U, Pt.locs, Pt.cells, Pt.slots] at X' e1 e2 h1 h2 h3 st
    subst h1; subst h2; subst h3
    exact Or.inl ⟨v, (T.setVm vm₁).calling g' mk As.toArray, t, U', L, hT, X', hL, e1, e2, hq, st⟩
  · dsimp only [Pt.U, Pt.locs, Pt.cells, Pt.slots] at X' e1 e2 h1 h2 h3 st hcl
    subst h1; subst h2; subst h3
    exact Or.inr ⟨q, (T.setVm vm₁).calling g' mk As.toArray, t, U', L, E, ce, hT, X', hL, e1, e2, hq, hce, hcv, vx_cls hW₁ hcl, st⟩
end
end VXH
theorem vx_ofWH {l : Launch} {y : MethodName} {ws ws' : List Cond} {rm : Room} {Pc : Array Value → State → Prop} {Qc : Array Value → State → Outcome → State → Prop} {XC : String → State → State → Prop} {mc ms : Nat} {free : Addr → Prop} {cc : ByteArray} {maxL : Nat} {ret : Option FieldType} {hh : List (Nat × Nat × Nat × Nat)}
    (hy : plainName y.cls = true) (hw : ws = Cond.codeWith y cc maxL ret hh :: ws')
    (body : ∀ p e s m args below meth c s₁, BodyLoose p l y (headSpec ws rm) cc maxL ret e s m args below meth c s₁ → c.maxLocals = maxL → Pc args s →
      W p l e (headSpec ws rm).room s m args below meth c s.heap [] 0 0 (vx_MQ below Qc XC args s mc ms free) (entryFrame m args maxL)) : vx_Met l y ws rm Pc Qc XC mc ms free := by
  refine MetFree.of_bodyS (code := cc) (maxLocals := maxL) (ret := ret) hy ?_ ?_
  · intro args s m h hn
    obtain ⟨m9, meth, c, hn9, h1, h2, h3, h4, -, h5, h6, -⟩ := Cond.codeWith_spec (atoms_spec (ws := ws) h _ (by rw [hw]; exact List.mem_cons_self))
    cases hn.symm.trans hn9
    exact ⟨meth, c, h1, h2, h3, h4, h5, h6⟩
  · intro p e s m args below meth c s₁ B hml hP _
    have hh0 : s₁.heap = s.heap := by rw [B.state]; rfl
    obtain ⟨t, a1, o, b1, b2, b3⟩ := body p e s m args below meth c s₁ B hml hP s₁ hh0 (Stand.of_body B)
    exact ⟨t, o, a1, b1, b2, b3⟩
/-! ===== END ===== -/
end
section
def RX0 : String := "Greenwave$Bands"
def TX0 : u_T := fun k => match k with
  | 0 => ("Greenwave$Bands", "corridor", "LGreenwave$Corridor;", true)
  | 1 => ("Greenwave$Bands", "common", "LGreenwave$FreeSeconds;", true)
  | 2 => ("Greenwave$Bands", "single", "LGreenwave$FreeSeconds;", true)
  | 3 => ("Greenwave$Bands", "pair", "LGreenwave$FreeSeconds;", true)
  | _ => ("Greenwave$Bands", "third", "LGreenwave$FreeSeconds;", true)
def tyX0 : Nat → FieldType := fun k => match k with
  | 0 => .object "Greenwave$Corridor"
  | 1 => .object "Greenwave$FreeSeconds"
  | 2 => .object "Greenwave$FreeSeconds"
  | 3 => .object "Greenwave$FreeSeconds"
  | _ => .object "Greenwave$FreeSeconds"
abbrev wsX00 : List Cond := u_ws RX0 TX0 5
theorem nmX0 : ∀ a, a < 5 → ∀ b, b < 5 → a ≠ b → (TX0 a).2.1 ≠ (TX0 b).2.1 := by decide +kernel
theorem tyX0_ok : ∀ k, k < 5 → parseFieldDescriptor (TX0 k).2.2.1 = some (tyX0 k) := by decide +kernel
abbrev cX0_init : ByteArray := prog_2_method_1_code
def yX0_init : MethodName := ⟨RX0, "<init>", "(LGreenwave$Corridor;)V"⟩
abbrev cX0_fillFrom : ByteArray := prog_2_method_2_code
def yX0_fillFrom : MethodName := ⟨RX0, "fillFrom", "(IILGreenwave$FreeSeconds;)V"⟩
abbrev cX0_fillCommon : ByteArray := prog_2_method_3_code
def yX0_fillCommon : MethodName := ⟨RX0, "fillCommon", "(I)V"⟩
abbrev cX0_width : ByteArray := prog_2_method_4_code
def yX0_width : MethodName := ⟨RX0, "width", "(Z)I"⟩
abbrev cX0_improveOffsets : ByteArray := prog_2_method_5_code
def yX0_improveOffsets : MethodName := ⟨RX0, "improveOffsets", "()I"⟩
abbrev cX0_improveOffset : ByteArray := prog_2_method_6_code
def yX0_improveOffset : MethodName := ⟨RX0, "improveOffset", "(I)Z"⟩
abbrev cX0_lowestBestOffset : ByteArray := prog_2_method_7_code
def yX0_lowestBestOffset : MethodName := ⟨RX0, "lowestBestOffset", "()I"⟩
abbrev cX0_greatestOverOffsets : ByteArray := prog_2_method_8_code
def yX0_greatestOverOffsets : MethodName := ⟨RX0, "greatestOverOffsets", "(LGreenwave$FreeSeconds;LGreenwave$FreeSeconds;)I"⟩
abbrev cX0_bestOverAllOffsets : ByteArray := prog_2_method_9_code
def yX0_bestOverAllOffsets : MethodName := ⟨RX0, "bestOverAllOffsets", "()I"⟩
def RX1 : String := "Greenwave$Corridor"
def TX1 : u_T := fun k => match k with
  | 0 => ("Greenwave$Corridor", "all", "[LGreenwave$Junction;", true)
  | 1 => ("Greenwave$Corridor", "size", "I", false)
  | _ => ("Greenwave$Corridor", "cycle", "I", false)
def tyX1 : Nat → FieldType := fun k => match k with
  | 0 => .array (.object "Greenwave$Junction")
  | 1 => .int
  | _ => .int
abbrev wsX10 : List Cond := u_ws RX1 TX1 3
theorem nmX1 : ∀ a, a < 3 → ∀ b, b < 3 → a ≠ b → (TX1 a).2.1 ≠ (TX1 b).2.1 := by decide +kernel
theorem tyX1_ok : ∀ k, k < 3 → parseFieldDescriptor (TX1 k).2.2.1 = some (tyX1 k) := by decide +kernel
abbrev cX1_init : ByteArray := prog_3_method_1_code
def yX1_init : MethodName := ⟨RX1, "<init>", "()V"⟩
abbrev cX1_reset : ByteArray := prog_3_method_2_code
def yX1_reset : MethodName := ⟨RX1, "reset", "(II)V"⟩
abbrev cX1_at : ByteArray := prog_3_method_3_code
def yX1_at : MethodName := ⟨RX1, "at", "(I)LGreenwave$Junction;"⟩
abbrev cX1_isLast : ByteArray := prog_3_method_4_code
def yX1_isLast : MethodName := ⟨RX1, "isLast", "(I)Z"⟩
abbrev cX1_linkFrom : ByteArray := prog_3_method_5_code
def yX1_linkFrom : MethodName := ⟨RX1, "linkFrom", "(I)LGreenwave$Link;"⟩
abbrev cX1_vehiclesOnLinkFrom : ByteArray := prog_3_method_6_code
def yX1_vehiclesOnLinkFrom : MethodName := ⟨RX1, "vehiclesOnLinkFrom", "(I)I"⟩
abbrev cX1_secondsBetween : ByteArray := prog_3_method_7_code
def yX1_secondsBetween : MethodName := ⟨RX1, "secondsBetween", "(II)I"⟩
abbrev cX1_isPlanned : ByteArray := prog_3_method_8_code
def yX1_isPlanned : MethodName := ⟨RX1, "isPlanned", "()Z"⟩
def RX2 : String := "Greenwave$FreeSeconds"
def TX2 : u_T := fun k => match k with
  | 0 => ("Greenwave$FreeSeconds", "forward", "LGreenwave$Seconds;", true)
  | _ => ("Greenwave$FreeSeconds", "backward", "LGreenwave$Seconds;", true)
def tyX2 : Nat → FieldType := fun k => match k with
  | 0 => .object "Greenwave$Seconds"
  | _ => .object "Greenwave$Seconds"
abbrev wsX20 : List Cond := u_ws RX2 TX2 2
theorem nmX2 : ∀ a, a < 2 → ∀ b, b < 2 → a ≠ b → (TX2 a).2.1 ≠ (TX2 b).2.1 := by decide +kernel
theorem tyX2_ok : ∀ k, k < 2 → parseFieldDescriptor (TX2 k).2.2.1 = some (tyX2 k) := by decide +kernel
abbrev cX2_init : ByteArray := prog_4_method_1_code
def yX2_init : MethodName := ⟨RX2, "<init>", "()V"⟩
abbrev cX2_clear : ByteArray := prog_4_method_2_code
def yX2_clear : MethodName := ⟨RX2, "clear", "()V"⟩
abbrev cX2_addAll : ByteArray := prog_4_method_3_code
def yX2_addAll : MethodName := ⟨RX2, "addAll", "(I)V"⟩
abbrev cX2_becomeCommon : ByteArray := prog_4_method_4_code
def yX2_becomeCommon : MethodName := ⟨RX2, "becomeCommon", "(LGreenwave$FreeSeconds;LGreenwave$FreeSeconds;)V"⟩
abbrev cX2_countCommon : ByteArray := prog_4_method_5_code
def yX2_countCommon : MethodName := ⟨RX2, "countCommon", "(LGreenwave$FreeSeconds;)I"⟩
abbrev cX2_turn : ByteArray := prog_4_method_6_code
def yX2_turn : MethodName := ⟨RX2, "turn", "(I)V"⟩
def RX3 : String := "Greenwave$Junction"
def TX3 : u_T := fun k => match k with
  | 0 => ("Greenwave$Junction", "clearances", "[I", true)
  | 1 => ("Greenwave$Junction", "sets", "[I", true)
  | 2 => ("Greenwave$Junction", "flows", "[I", true)
  | 3 => ("Greenwave$Junction", "greens", "[I", true)
  | 4 => ("Greenwave$Junction", "clearings", "[I", true)
  | 5 => ("Greenwave$Junction", "lights", "[I", true)
  | 6 => ("Greenwave$Junction", "link", "LGreenwave$Link;", true)
  | 7 => ("Greenwave$Junction", "phases", "I", false)
  | 8 => ("Greenwave$Junction", "cycle", "I", false)
  | 9 => ("Greenwave$Junction", "start", "I", false)
  | 10 => ("Greenwave$Junction", "isPlanned", "Z", false)
  | 11 => ("Greenwave$Junction", "waiting", "I", false)
  | 12 => ("Greenwave$Junction", "ready", "I", false)
  | 13 => ("Greenwave$Junction", "busCycleEnd", "I", false)
  | 14 => ("Greenwave$Junction", "giver", "I", false)
  | 15 => ("Greenwave$Junction", "taker", "I", false)
  | _ => ("Greenwave$Junction", "given", "I", false)
def tyX3 : Nat → FieldType := fun k => match k with
  | 0 => .array .int
  | 1 => .array .int
  | 2 => .array .int
  | 3 => .array .int
  | 4 => .array .int
  | 5 => .array .int
  | 6 => .object "Greenwave$Link"
  | 7 => .int
  | 8 => .int
  | 9 => .int
  | 10 => .boolean
  | 11 => .int
  | 12 => .int
  | 13 => .int
  | 14 => .int
  | 15 => .int
  | _ => .int
abbrev wsX30 : List Cond := u_ws RX3 TX3 17
theorem nmX3 : ∀ a, a < 17 → ∀ b, b < 17 → a ≠ b → (TX3 a).2.1 ≠ (TX3 b).2.1 := by decide +kernel
theorem tyX3_ok : ∀ k, k < 17 → parseFieldDescriptor (TX3 k).2.2.1 = some (tyX3 k) := by decide +kernel
abbrev cX3_init : ByteArray := prog_5_method_1_code
def yX3_init : MethodName := ⟨RX3, "<init>", "()V"⟩
abbrev cX3_reset : ByteArray := prog_5_method_2_code
def yX3_reset : MethodName := ⟨RX3, "reset", "(I)V"⟩
abbrev cX3_clearanceOf : ByteArray := prog_5_method_3_code
def yX3_clearanceOf : MethodName := ⟨RX3, "clearanceOf", "(II)I"⟩
abbrev cX3_writeClearance : ByteArray := prog_5_method_4_code
def yX3_writeClearance : MethodName := ⟨RX3, "writeClearance", "(III)V"⟩
abbrev cX3_changeClearance : ByteArray := prog_5_method_5_code
def yX3_changeClearance : MethodName := ⟨RX3, "changeClearance", "(III)V"⟩
abbrev cX3_writeSets : ByteArray := prog_5_method_6_code
def yX3_writeSets : MethodName := ⟨RX3, "writeSets", "(IIII)V"⟩
abbrev cX3_changePhases : ByteArray := prog_5_method_7_code
def yX3_changePhases : MethodName := ⟨RX3, "changePhases", "(IIII)V"⟩
abbrev cX3_flowOf : ByteArray := prog_5_method_8_code
def yX3_flowOf : MethodName := ⟨RX3, "flowOf", "(I)I"⟩
abbrev cX3_changeFlow : ByteArray := prog_5_method_9_code
def yX3_changeFlow : MethodName := ⟨RX3, "changeFlow", "(II)V"⟩
abbrev cX3_haveOnePhase : ByteArray := prog_5_method_10_code
def yX3_haveOnePhase : MethodName := ⟨RX3, "haveOnePhase", "(II)Z"⟩
abbrev cX3_hasConflictIn : ByteArray := prog_5_method_11_code
def yX3_hasConflictIn : MethodName := ⟨RX3, "hasConflictIn", "(I)Z"⟩
abbrev cX3_greatestClearance : ByteArray := prog_5_method_12_code
def yX3_greatestClearance : MethodName := ⟨RX3, "greatestClearance", "(II)I"⟩
abbrev cX3_makePlan : ByteArray := prog_5_method_13_code
def yX3_makePlan : MethodName := ⟨RX3, "makePlan", "()V"⟩
abbrev cX3_leastGreen : ByteArray := prog_5_method_14_code
def yX3_leastGreen : MethodName := ⟨RX3, "leastGreen", "(I)I"⟩
abbrev cX3_weightOf : ByteArray := prog_5_method_15_code
def yX3_weightOf : MethodName := ⟨RX3, "weightOf", "(I)I"⟩
abbrev cX3_shareOut : ByteArray := prog_5_method_16_code
def yX3_shareOut : MethodName := ⟨RX3, "shareOut", "(II)V"⟩
abbrev cX3_drawLights : ByteArray := prog_5_method_17_code
def yX3_drawLights : MethodName := ⟨RX3, "drawLights", "()V"⟩
abbrev cX3_isLit : ByteArray := prog_5_method_18_code
def yX3_isLit : MethodName := ⟨RX3, "isLit", "(II)Z"⟩
abbrev cX3_isLitFrom : ByteArray := prog_5_method_19_code
def yX3_isLitFrom : MethodName := ⟨RX3, "isLitFrom", "(III)Z"⟩
abbrev cX3_countBreaches : ByteArray := prog_5_method_20_code
def yX3_countBreaches : MethodName := ⟨RX3, "countBreaches", "()I"⟩
abbrev cX3_isBreached : ByteArray := prog_5_method_21_code
def yX3_isBreached : MethodName := ⟨RX3, "isBreached", "(I)Z"⟩
abbrev cX3_isLitTooSoon : ByteArray := prog_5_method_22_code
def yX3_isLitTooSoon : MethodName := ⟨RX3, "isLitTooSoon", "(III)Z"⟩
abbrev cX3_placeInCycle : ByteArray := prog_5_method_23_code
def yX3_placeInCycle : MethodName := ⟨RX3, "placeInCycle", "(I)I"⟩
abbrev cX3_hasBusIn : ByteArray := prog_5_method_24_code
def yX3_hasBusIn : MethodName := ⟨RX3, "hasBusIn", "(I)Z"⟩
abbrev cX3_changedGreen : ByteArray := prog_5_method_25_code
def yX3_changedGreen : MethodName := ⟨RX3, "changedGreen", "(I)I"⟩
abbrev cX3_phaseIn : ByteArray := prog_5_method_26_code
def yX3_phaseIn : MethodName := ⟨RX3, "phaseIn", "(I)I"⟩
abbrev cX3_lowestPhaseWith : ByteArray := prog_5_method_27_code
def yX3_lowestPhaseWith : MethodName := ⟨RX3, "lowestPhaseWith", "(I)I"⟩
abbrev cX3_takeBus : ByteArray := prog_5_method_28_code
def yX3_takeBus : MethodName := ⟨RX3, "takeBus", "(II)I"⟩
abbrev cX3_spareGreen : ByteArray := prog_5_method_29_code
def yX3_spareGreen : MethodName := ⟨RX3, "spareGreen", "(I)I"⟩
abbrev cX3_secondsOfGreenBehind : ByteArray := prog_5_method_30_code
def yX3_secondsOfGreenBehind : MethodName := ⟨RX3, "secondsOfGreenBehind", "(II)I"⟩
abbrev cX3_growReady : ByteArray := prog_5_method_31_code
def yX3_growReady : MethodName := ⟨RX3, "growReady", "(I)V"⟩
def RX4 : String := "Greenwave$Link"
def TX4 : u_T := fun k => match k with
  | 0 => ("Greenwave$Link", "due", "[I", true)
  | 1 => ("Greenwave$Link", "seconds", "I", false)
  | 2 => ("Greenwave$Link", "room", "I", false)
  | _ => ("Greenwave$Link", "moving", "I", false)
def tyX4 : Nat → FieldType := fun k => match k with
  | 0 => .array .int
  | 1 => .int
  | 2 => .int
  | _ => .int
abbrev wsX40 : List Cond := u_ws RX4 TX4 4
theorem nmX4 : ∀ a, a < 4 → ∀ b, b < 4 → a ≠ b → (TX4 a).2.1 ≠ (TX4 b).2.1 := by decide +kernel
theorem tyX4_ok : ∀ k, k < 4 → parseFieldDescriptor (TX4 k).2.2.1 = some (tyX4 k) := by decide +kernel
abbrev cX4_init : ByteArray := prog_6_method_1_code
def yX4_init : MethodName := ⟨RX4, "<init>", "()V"⟩
abbrev cX4_reset : ByteArray := prog_6_method_2_code
def yX4_reset : MethodName := ⟨RX4, "reset", "()V"⟩
abbrev cX4_send : ByteArray := prog_6_method_3_code
def yX4_send : MethodName := ⟨RX4, "send", "(I)V"⟩
abbrev cX4_land : ByteArray := prog_6_method_4_code
def yX4_land : MethodName := ⟨RX4, "land", "(I)I"⟩
def RX5 : String := "Greenwave$Seconds"
def TX5 : u_T := fun k => match k with
  | 0 => ("Greenwave$Seconds", "low", "J", false)
  | _ => ("Greenwave$Seconds", "high", "J", false)
def tyX5 : Nat → FieldType := fun k => match k with
  | 0 => .long
  | _ => .long
abbrev wsX50 : List Cond := u_ws RX5 TX5 2
theorem nmX5 : ∀ a, a < 2 → ∀ b, b < 2 → a ≠ b → (TX5 a).2.1 ≠ (TX5 b).2.1 := by decide +kernel
theorem tyX5_ok : ∀ k, k < 2 → parseFieldDescriptor (TX5 k).2.2.1 = some (tyX5 k) := by decide +kernel
abbrev cX5_init : ByteArray := prog_7_method_1_code
def yX5_init : MethodName := ⟨RX5, "<init>", "()V"⟩
abbrev cX5_clear : ByteArray := prog_7_method_2_code
def yX5_clear : MethodName := ⟨RX5, "clear", "()V"⟩
abbrev cX5_add : ByteArray := prog_7_method_3_code
def yX5_add : MethodName := ⟨RX5, "add", "(I)V"⟩
abbrev cX5_remove : ByteArray := prog_7_method_4_code
def yX5_remove : MethodName := ⟨RX5, "remove", "(I)V"⟩
abbrev cX5_has : ByteArray := prog_7_method_5_code
def yX5_has : MethodName := ⟨RX5, "has", "(I)Z"⟩
abbrev cX5_becomeCommon : ByteArray := prog_7_method_6_code
def yX5_becomeCommon : MethodName := ⟨RX5, "becomeCommon", "(LGreenwave$Seconds;LGreenwave$Seconds;)V"⟩
abbrev cX5_countCommon : ByteArray := prog_7_method_7_code
def yX5_countCommon : MethodName := ⟨RX5, "countCommon", "(LGreenwave$Seconds;)I"⟩
abbrev cX5_turn : ByteArray := prog_7_method_8_code
def yX5_turn : MethodName := ⟨RX5, "turn", "(I)V"⟩
def RX6 : String := "Greenwave$Traffic"
def TX6 : u_T := fun k => match k with
  | 0 => ("Greenwave$Traffic", "corridor", "LGreenwave$Corridor;", true)
  | 1 => ("Greenwave$Traffic", "second", "I", false)
  | 2 => ("Greenwave$Traffic", "arrivals", "I", false)
  | 3 => ("Greenwave$Traffic", "come", "I", false)
  | 4 => ("Greenwave$Traffic", "through", "I", false)
  | _ => ("Greenwave$Traffic", "hasBegun", "Z", false)
def tyX6 : Nat → FieldType := fun k => match k with
  | 0 => .object "Greenwave$Corridor"
  | 1 => .int
  | 2 => .int
  | 3 => .int
  | 4 => .int
  | _ => .boolean
abbrev wsX60 : List Cond := u_ws RX6 TX6 6
theorem nmX6 : ∀ a, a < 6 → ∀ b, b < 6 → a ≠ b → (TX6 a).2.1 ≠ (TX6 b).2.1 := by decide +kernel
theorem tyX6_ok : ∀ k, k < 6 → parseFieldDescriptor (TX6 k).2.2.1 = some (tyX6 k) := by decide +kernel
abbrev cX6_init : ByteArray := prog_8_method_1_code
def yX6_init : MethodName := ⟨RX6, "<init>", "(LGreenwave$Corridor;)V"⟩
abbrev cX6_reset : ByteArray := prog_8_method_2_code
def yX6_reset : MethodName := ⟨RX6, "reset", "()V"⟩
abbrev cX6_pass : ByteArray := prog_8_method_3_code
def yX6_pass : MethodName := ⟨RX6, "pass", "(I)I"⟩
abbrev cX6_passSecond : ByteArray := prog_8_method_4_code
def yX6_passSecond : MethodName := ⟨RX6, "passSecond", "()V"⟩
abbrev cX6_letCome : ByteArray := prog_8_method_5_code
def yX6_letCome : MethodName := ⟨RX6, "letCome", "(LGreenwave$Junction;)V"⟩
abbrev cX6_hasRoomBehind : ByteArray := prog_8_method_6_code
def yX6_hasRoomBehind : MethodName := ⟨RX6, "hasRoomBehind", "(I)Z"⟩
abbrev cX6_letLeave : ByteArray := prog_8_method_7_code
def yX6_letLeave : MethodName := ⟨RX6, "letLeave", "(I)V"⟩
def RX7 : String := "Greenwave"
def TX7 : u_T := fun k => match k with
  | 0 => ("Greenwave", "corridor", "LGreenwave$Corridor;", true)
  | 1 => ("Greenwave", "bands", "LGreenwave$Bands;", true)
  | _ => ("Greenwave", "traffic", "LGreenwave$Traffic;", true)
def tyX7 : Nat → FieldType := fun k => match k with
  | 0 => .object "Greenwave$Corridor"
  | 1 => .object "Greenwave$Bands"
  | _ => .object "Greenwave$Traffic"
abbrev wsX70 : List Cond := u_ws RX7 TX7 3
theorem nmX7 : ∀ a, a < 3 → ∀ b, b < 3 → a ≠ b → (TX7 a).2.1 ≠ (TX7 b).2.1 := by decide +kernel
theorem tyX7_ok : ∀ k, k < 3 → parseFieldDescriptor (TX7 k).2.2.1 = some (tyX7 k) := by decide +kernel
abbrev cX7_init : ByteArray := prog_1_method_1_code
def yX7_init : MethodName := ⟨RX7, "<init>", "()V"⟩
abbrev cX7_begin : ByteArray := prog_1_method_2_code
def yX7_begin : MethodName := ⟨RX7, "begin", "(II)V"⟩
abbrev cX7_setConflict : ByteArray := prog_1_method_3_code
def yX7_setConflict : MethodName := ⟨RX7, "setConflict", "(IIII)I"⟩
abbrev cX7_setPhases : ByteArray := prog_1_method_4_code
def yX7_setPhases : MethodName := ⟨RX7, "setPhases", "(IIIII)I"⟩
abbrev cX7_setFlow : ByteArray := prog_1_method_5_code
def yX7_setFlow : MethodName := ⟨RX7, "setFlow", "(III)I"⟩
abbrev cX7_setLink : ByteArray := prog_1_method_6_code
def yX7_setLink : MethodName := ⟨RX7, "setLink", "(III)V"⟩
abbrev cX7_setOffset : ByteArray := prog_1_method_7_code
def yX7_setOffset : MethodName := ⟨RX7, "setOffset", "(II)I"⟩
abbrev cX7_improve : ByteArray := prog_1_method_8_code
def yX7_improve : MethodName := ⟨RX7, "improve", "()I"⟩
abbrev cX7_junctions : ByteArray := prog_1_method_9_code
def yX7_junctions : MethodName := ⟨RX7, "junctions", "()I"⟩
abbrev cX7_hasPlan : ByteArray := prog_1_method_10_code
def yX7_hasPlan : MethodName := ⟨RX7, "hasPlan", "(I)Z"⟩
abbrev cX7_green : ByteArray := prog_1_method_11_code
def yX7_green : MethodName := ⟨RX7, "green", "(II)I"⟩
abbrev cX7_clearing : ByteArray := prog_1_method_12_code
def yX7_clearing : MethodName := ⟨RX7, "clearing", "(II)I"⟩
abbrev cX7_offset : ByteArray := prog_1_method_13_code
def yX7_offset : MethodName := ⟨RX7, "offset", "(I)I"⟩
abbrev cX7_isGreen : ByteArray := prog_1_method_14_code
def yX7_isGreen : MethodName := ⟨RX7, "isGreen", "(III)Z"⟩
abbrev cX7_breaches : ByteArray := prog_1_method_15_code
def yX7_breaches : MethodName := ⟨RX7, "breaches", "(I)I"⟩
abbrev cX7_band : ByteArray := prog_1_method_16_code
def yX7_band : MethodName := ⟨RX7, "band", "(Z)I"⟩
abbrev cX7_bestByAll : ByteArray := prog_1_method_17_code
def yX7_bestByAll : MethodName := ⟨RX7, "bestByAll", "()I"⟩
abbrev cX7_run : ByteArray := prog_1_method_18_code
def yX7_run : MethodName := ⟨RX7, "run", "(I)I"⟩
abbrev cX7_callBus : ByteArray := prog_1_method_19_code
def yX7_callBus : MethodName := ⟨RX7, "callBus", "(II)I"⟩
abbrev cX7_clock : ByteArray := prog_1_method_20_code
def yX7_clock : MethodName := ⟨RX7, "clock", "()I"⟩
abbrev cX7_phaseNow : ByteArray := prog_1_method_21_code
def yX7_phaseNow : MethodName := ⟨RX7, "phaseNow", "(I)I"⟩
abbrev cX7_queue : ByteArray := prog_1_method_22_code
def yX7_queue : MethodName := ⟨RX7, "queue", "(I)I"⟩
abbrev cX7_held : ByteArray := prog_1_method_23_code
def yX7_held : MethodName := ⟨RX7, "held", "(I)I"⟩
abbrev cX7_come : ByteArray := prog_1_method_24_code
def yX7_come : MethodName := ⟨RX7, "come", "()I"⟩
abbrev cX7_through : ByteArray := prog_1_method_25_code
def yX7_through : MethodName := ⟨RX7, "through", "()I"⟩
abbrev cX7_checkSettingUp : ByteArray := prog_1_method_26_code
def yX7_checkSettingUp : MethodName := ⟨RX7, "checkSettingUp", "()V"⟩
abbrev cX7_checkPlans : ByteArray := prog_1_method_27_code
def yX7_checkPlans : MethodName := ⟨RX7, "checkPlans", "()V"⟩
abbrev cX7_checkPlan : ByteArray := prog_1_method_28_code
def yX7_checkPlan : MethodName := ⟨RX7, "checkPlan", "(LGreenwave$Junction;)V"⟩
abbrev cX7_checkPhase : ByteArray := prog_1_method_29_code
def yX7_checkPhase : MethodName := ⟨RX7, "checkPhase", "(LGreenwave$Junction;I)V"⟩
abbrev cX7_checkMovement : ByteArray := prog_1_method_30_code
def yX7_checkMovement : MethodName := ⟨RX7, "checkMovement", "(I)V"⟩
abbrev cX7_isOutside : ByteArray := prog_1_method_31_code
def yX7_isOutside : MethodName := ⟨RX7, "isOutside", "(III)Z"⟩
abbrev cX7_read : ByteArray := prog_1_method_32_code
def yX7_read : MethodName := ⟨RX7, "read", "([II)I"⟩
abbrev cX7_write : ByteArray := prog_1_method_33_code
def yX7_write : MethodName := ⟨RX7, "write", "([III)V"⟩
abbrev cX7_modulo : ByteArray := prog_1_method_34_code
def yX7_modulo : MethodName := ⟨RX7, "modulo", "(II)I"⟩
abbrev cX7_share : ByteArray := prog_1_method_35_code
def yX7_share : MethodName := ⟨RX7, "share", "(II)I"⟩
abbrev cX7_hasBit : ByteArray := prog_1_method_36_code
def yX7_hasBit : MethodName := ⟨RX7, "hasBit", "(II)Z"⟩
def RX8 : String := "GreenwaveModel"
def TX8 : u_T := fun k => match k with
  | 0 => ("GreenwaveModel", "thrown", "I", false)
  | 1 => ("GreenwaveModel", "junctions", "I", false)
  | 2 => ("GreenwaveModel", "cycle", "I", false)
  | 3 => ("GreenwaveModel", "isBegun", "Z", false)
  | 4 => ("GreenwaveModel", "conflicts", "[I", true)
  | 5 => ("GreenwaveModel", "phases", "[I", true)
  | 6 => ("GreenwaveModel", "many", "[I", true)
  | 7 => ("GreenwaveModel", "flows", "[I", true)
  | 8 => ("GreenwaveModel", "offsets", "[I", true)
  | 9 => ("GreenwaveModel", "seconds", "[I", true)
  | 10 => ("GreenwaveModel", "rooms", "[I", true)
  | 11 => ("GreenwaveModel", "greens", "[I", true)
  | 12 => ("GreenwaveModel", "clearings", "[I", true)
  | 13 => ("GreenwaveModel", "arePlanned", "[Z", true)
  | 14 => ("GreenwaveModel", "clock", "I", false)
  | 15 => ("GreenwaveModel", "arrivals", "I", false)
  | 16 => ("GreenwaveModel", "come", "I", false)
  | 17 => ("GreenwaveModel", "through", "I", false)
  | 18 => ("GreenwaveModel", "queues", "[I", true)
  | 19 => ("GreenwaveModel", "readies", "[I", true)
  | 20 => ("GreenwaveModel", "onWay", "[I", true)
  | 21 => ("GreenwaveModel", "ends", "[I", true)
  | 22 => ("GreenwaveModel", "wasCalled", "[Z", true)
  | 23 => ("GreenwaveModel", "calledIn", "[I", true)
  | 24 => ("GreenwaveModel", "gainers", "[I", true)
  | 25 => ("GreenwaveModel", "givers", "[I", true)
  | _ => ("GreenwaveModel", "gains", "[I", true)
def tyX8 : Nat → FieldType := fun k => match k with
  | 0 => .int
  | 1 => .int
  | 2 => .int
  | 3 => .boolean
  | 4 => .array .int
  | 5 => .array .int
  | 6 => .array .int
  | 7 => .array .int
  | 8 => .array .int
  | 9 => .array .int
  | 10 => .array .int
  | 11 => .array .int
  | 12 => .array .int
  | 13 => .array .boolean
  | 14 => .int
  | 15 => .int
  | 16 => .int
  | 17 => .int
  | 18 => .array .int
  | 19 => .array .int
  | 20 => .array .int
  | 21 => .array .int
  | 22 => .array .boolean
  | 23 => .array .int
  | 24 => .array .int
  | 25 => .array .int
  | _ => .array .int
abbrev wsX80 : List Cond := u_ws RX8 TX8 27
theorem nmX8 : ∀ a, a < 27 → ∀ b, b < 27 → a ≠ b → (TX8 a).2.1 ≠ (TX8 b).2.1 := by decide +kernel
theorem tyX8_ok : ∀ k, k < 27 → parseFieldDescriptor (TX8 k).2.2.1 = some (tyX8 k) := by decide +kernel
abbrev cX8_init : ByteArray := prog_10_method_1_code
def yX8_init : MethodName := ⟨RX8, "<init>", "()V"⟩
abbrev cX8_thrown : ByteArray := prog_10_method_2_code
def yX8_thrown : MethodName := ⟨RX8, "thrown", "()I"⟩
abbrev cX8_holds : ByteArray := prog_10_method_3_code
def yX8_holds : MethodName := ⟨RX8, "holds", "(I)Z"⟩
abbrev cX8_in : ByteArray := prog_10_method_4_code
def yX8_in : MethodName := ⟨RX8, "in", "(III)Z"⟩
abbrev cX8_has : ByteArray := prog_10_method_5_code
def yX8_has : MethodName := ⟨RX8, "has", "(II)Z"⟩
abbrev cX8_isJunction : ByteArray := prog_10_method_6_code
def yX8_isJunction : MethodName := ⟨RX8, "isJunction", "(I)Z"⟩
abbrev cX8_isMovement : ByteArray := prog_10_method_7_code
def yX8_isMovement : MethodName := ⟨RX8, "isMovement", "(I)Z"⟩
abbrev cX8_isLink : ByteArray := prog_10_method_8_code
def yX8_isLink : MethodName := ⟨RX8, "isLink", "(I)Z"⟩
abbrev cX8_conflict : ByteArray := prog_10_method_9_code
def yX8_conflict : MethodName := ⟨RX8, "conflict", "(III)I"⟩
abbrev cX8_begins : ByteArray := prog_10_method_10_code
def yX8_begins : MethodName := ⟨RX8, "begins", "(II)V"⟩
abbrev cX8_begin : ByteArray := prog_10_method_11_code
def yX8_begin : MethodName := ⟨RX8, "begin", "(II)V"⟩
abbrev cX8_areIn : ByteArray := prog_10_method_12_code
def yX8_areIn : MethodName := ⟨RX8, "areIn", "(IIII)Z"⟩
abbrev cX8_isBad : ByteArray := prog_10_method_13_code
def yX8_isBad : MethodName := ⟨RX8, "isBad", "(II)Z"⟩
abbrev cX8_errorOfConflict : ByteArray := prog_10_method_14_code
def yX8_errorOfConflict : MethodName := ⟨RX8, "errorOfConflict", "(IIII)I"⟩
abbrev cX8_setConflict : ByteArray := prog_10_method_15_code
def yX8_setConflict : MethodName := ⟨RX8, "setConflict", "(IIII)I"⟩
abbrev cX8_setPhases : ByteArray := prog_10_method_16_code
def yX8_setPhases : MethodName := ⟨RX8, "setPhases", "(IIIII)I"⟩
abbrev cX8_setFlow : ByteArray := prog_10_method_17_code
def yX8_setFlow : MethodName := ⟨RX8, "setFlow", "(III)I"⟩
abbrev cX8_setLink : ByteArray := prog_10_method_18_code
def yX8_setLink : MethodName := ⟨RX8, "setLink", "(III)V"⟩
abbrev cX8_setOffset : ByteArray := prog_10_method_19_code
def yX8_setOffset : MethodName := ⟨RX8, "setOffset", "(II)I"⟩
abbrev cX8_clearingOf : ByteArray := prog_10_method_20_code
def yX8_clearingOf : MethodName := ⟨RX8, "clearingOf", "(II)I"⟩
abbrev cX8_leastOf : ByteArray := prog_10_method_21_code
def yX8_leastOf : MethodName := ⟨RX8, "leastOf", "(II)I"⟩
abbrev cX8_weight : ByteArray := prog_10_method_22_code
def yX8_weight : MethodName := ⟨RX8, "weight", "(II)I"⟩
abbrev cX8_plans : ByteArray := prog_10_method_23_code
def yX8_plans : MethodName := ⟨RX8, "plans", "(I)V"⟩
abbrev cX8_plansAll : ByteArray := prog_10_method_24_code
def yX8_plansAll : MethodName := ⟨RX8, "plansAll", "()Z"⟩
abbrev cX8_secondOf : ByteArray := prog_10_method_25_code
def yX8_secondOf : MethodName := ⟨RX8, "secondOf", "(II)I"⟩
abbrev cX8_cycleOf : ByteArray := prog_10_method_26_code
def yX8_cycleOf : MethodName := ⟨RX8, "cycleOf", "(II)I"⟩
abbrev cX8_phaseAt : ByteArray := prog_10_method_27_code
def yX8_phaseAt : MethodName := ⟨RX8, "phaseAt", "(IIZ)I"⟩
abbrev cX8_isGreenAt : ByteArray := prog_10_method_28_code
def yX8_isGreenAt : MethodName := ⟨RX8, "isGreenAt", "(IIIZ)Z"⟩
abbrev cX8_isFree : ByteArray := prog_10_method_29_code
def yX8_isFree : MethodName := ⟨RX8, "isFree", "(IZ)Z"⟩
abbrev cX8_bandOf : ByteArray := prog_10_method_30_code
def yX8_bandOf : MethodName := ⟨RX8, "bandOf", "(Z)I"⟩
abbrev cX8_bands : ByteArray := prog_10_method_31_code
def yX8_bands : MethodName := ⟨RX8, "bands", "()I"⟩
abbrev cX8_betters : ByteArray := prog_10_method_32_code
def yX8_betters : MethodName := ⟨RX8, "betters", "(I)Z"⟩
abbrev cX8_improve : ByteArray := prog_10_method_33_code
def yX8_improve : MethodName := ⟨RX8, "improve", "()I"⟩
abbrev cX8_junctions : ByteArray := prog_10_method_34_code
def yX8_junctions : MethodName := ⟨RX8, "junctions", "()I"⟩
abbrev cX8_isPlanned : ByteArray := prog_10_method_35_code
def yX8_isPlanned : MethodName := ⟨RX8, "isPlanned", "(I)Z"⟩
abbrev cX8_hasPlan : ByteArray := prog_10_method_36_code
def yX8_hasPlan : MethodName := ⟨RX8, "hasPlan", "(I)Z"⟩
abbrev cX8_isPhase : ByteArray := prog_10_method_37_code
def yX8_isPhase : MethodName := ⟨RX8, "isPhase", "(II)Z"⟩
abbrev cX8_green : ByteArray := prog_10_method_38_code
def yX8_green : MethodName := ⟨RX8, "green", "(II)I"⟩
abbrev cX8_clearing : ByteArray := prog_10_method_39_code
def yX8_clearing : MethodName := ⟨RX8, "clearing", "(II)I"⟩
abbrev cX8_offset : ByteArray := prog_10_method_40_code
def yX8_offset : MethodName := ⟨RX8, "offset", "(I)I"⟩
abbrev cX8_isGreen : ByteArray := prog_10_method_41_code
def yX8_isGreen : MethodName := ⟨RX8, "isGreen", "(III)Z"⟩
abbrev cX8_isBreach : ByteArray := prog_10_method_42_code
def yX8_isBreach : MethodName := ⟨RX8, "isBreach", "(II)Z"⟩
abbrev cX8_breaches : ByteArray := prog_10_method_43_code
def yX8_breaches : MethodName := ⟨RX8, "breaches", "(I)I"⟩
abbrev cX8_band : ByteArray := prog_10_method_44_code
def yX8_band : MethodName := ⟨RX8, "band", "(Z)I"⟩
abbrev cX8_bestByAll : ByteArray := prog_10_method_45_code
def yX8_bestByAll : MethodName := ⟨RX8, "bestByAll", "()I"⟩
abbrev cX8_joins : ByteArray := prog_10_method_46_code
def yX8_joins : MethodName := ⟨RX8, "joins", "(I)V"⟩
abbrev cX8_arrives : ByteArray := prog_10_method_47_code
def yX8_arrives : MethodName := ⟨RX8, "arrives", "()V"⟩
abbrev cX8_heldOf : ByteArray := prog_10_method_48_code
def yX8_heldOf : MethodName := ⟨RX8, "heldOf", "(I)I"⟩
abbrev cX8_leaves : ByteArray := prog_10_method_49_code
def yX8_leaves : MethodName := ⟨RX8, "leaves", "(I)V"⟩
abbrev cX8_run : ByteArray := prog_10_method_50_code
def yX8_run : MethodName := ⟨RX8, "run", "(I)I"⟩
abbrev cX8_phaseOf : ByteArray := prog_10_method_51_code
def yX8_phaseOf : MethodName := ⟨RX8, "phaseOf", "(II)I"⟩
abbrev cX8_errorOfCall : ByteArray := prog_10_method_52_code
def yX8_errorOfCall : MethodName := ⟨RX8, "errorOfCall", "(II)I"⟩
abbrev cX8_least : ByteArray := prog_10_method_53_code
def yX8_least : MethodName := ⟨RX8, "least", "(II)I"⟩
abbrev cX8_above : ByteArray := prog_10_method_54_code
def yX8_above : MethodName := ⟨RX8, "above", "(II)I"⟩
abbrev cX8_behind : ByteArray := prog_10_method_55_code
def yX8_behind : MethodName := ⟨RX8, "behind", "(II)I"⟩
abbrev cX8_callBus : ByteArray := prog_10_method_56_code
def yX8_callBus : MethodName := ⟨RX8, "callBus", "(II)I"⟩
abbrev cX8_clock : ByteArray := prog_10_method_57_code
def yX8_clock : MethodName := ⟨RX8, "clock", "()I"⟩
abbrev cX8_phaseNow : ByteArray := prog_10_method_58_code
def yX8_phaseNow : MethodName := ⟨RX8, "phaseNow", "(I)I"⟩
abbrev cX8_queue : ByteArray := prog_10_method_59_code
def yX8_queue : MethodName := ⟨RX8, "queue", "(I)I"⟩
abbrev cX8_held : ByteArray := prog_10_method_60_code
def yX8_held : MethodName := ⟨RX8, "held", "(I)I"⟩
abbrev cX8_come : ByteArray := prog_10_method_61_code
def yX8_come : MethodName := ⟨RX8, "come", "()I"⟩
abbrev cX8_through : ByteArray := prog_10_method_62_code
def yX8_through : MethodName := ⟨RX8, "through", "()I"⟩
def RJx145de : String := "java/io/Serializable"
def TJx145de : u_T := fun k => match k with
  | _ => ("", "", "", false)
def tyJx145de : Nat → FieldType := fun k => match k with
  | _ => .int
abbrev wsJx145de0 : List Cond := u_ws RJx145de TJx145de 0
theorem nmJx145de : ∀ a, a < 0 → ∀ b, b < 0 → a ≠ b → (TJx145de a).2.1 ≠ (TJx145de b).2.1 := by decide +kernel
theorem tyJx145de_ok : ∀ k, k < 0 → parseFieldDescriptor (TJx145de k).2.2.1 = some (tyJx145de k) := by decide +kernel
def RJ13 : String := "java/lang/Long"
def TJ13 : u_T := fun k => match k with
  | _ => ("", "", "", false)
def tyJ13 : Nat → FieldType := fun k => match k with
  | _ => .int
abbrev wsJ130 : List Cond := u_ws RJ13 TJ13 0
theorem nmJ13 : ∀ a, a < 0 → ∀ b, b < 0 → a ≠ b → (TJ13 a).2.1 ≠ (TJ13 b).2.1 := by decide +kernel
theorem tyJ13_ok : ∀ k, k < 0 → parseFieldDescriptor (TJ13 k).2.2.1 = some (tyJ13 k) := by decide +kernel
abbrev cJ13_bitCount_95d88 : ByteArray := prog_15_method_50_code
def yJ13_bitCount_95d88 : MethodName := ⟨RJ13, "bitCount", "(J)I"⟩
def RJ9 : String := "java/lang/Math"
def TJ9 : u_T := fun k => match k with
  | _ => ("", "", "", false)
def tyJ9 : Nat → FieldType := fun k => match k with
  | _ => .int
abbrev wsJ90 : List Cond := u_ws RJ9 TJ9 0
theorem nmJ9 : ∀ a, a < 0 → ∀ b, b < 0 → a ≠ b → (TJ9 a).2.1 ≠ (TJ9 b).2.1 := by decide +kernel
theorem tyJ9_ok : ∀ k, k < 0 → parseFieldDescriptor (TJ9 k).2.2.1 = some (tyJ9 k) := by decide +kernel
abbrev cJ9_max_7cf53 : ByteArray := prog_16_method_65_code
def yJ9_max_7cf53 : MethodName := ⟨RJ9, "max", "(II)I"⟩
abbrev cJ9_min_7cf53 : ByteArray := prog_16_method_69_code
def yJ9_min_7cf53 : MethodName := ⟨RJ9, "min", "(II)I"⟩
def RJ0 : String := "java/lang/String"
def TJ0 : u_T := fun k => match k with
  | _ => ("", "", "", false)
def tyJ0 : Nat → FieldType := fun k => match k with
  | _ => .int
abbrev wsJ00 : List Cond := u_ws RJ0 TJ0 0
theorem nmJ0 : ∀ a, a < 0 → ∀ b, b < 0 → a ≠ b → (TJ0 a).2.1 ≠ (TJ0 b).2.1 := by decide +kernel
theorem tyJ0_ok : ∀ k, k < 0 → parseFieldDescriptor (TJ0 k).2.2.1 = some (tyJ0 k) := by decide +kernel
def RJ7 : String := "java/util/Arrays"
def TJ7 : u_T := fun k => match k with
  | _ => ("", "", "", false)
def tyJ7 : Nat → FieldType := fun k => match k with
  | _ => .int
abbrev wsJ70 : List Cond := u_ws RJ7 TJ7 0
theorem nmJ7 : ∀ a, a < 0 → ∀ b, b < 0 → a ≠ b → (TJ7 a).2.1 ≠ (TJ7 b).2.1 := by decide +kernel
theorem tyJ7_ok : ∀ k, k < 0 → parseFieldDescriptor (TJ7 k).2.2.1 = some (tyJ7 k) := by decide +kernel
abbrev cJ7_fill_53178 : ByteArray := prog_20_method_103_code
def yJ7_fill_53178 : MethodName := ⟨RJ7, "fill", "([II)V"⟩
def RL : String := "GreenwaveLaw"
abbrev cL_begin : ByteArray := method_3_code
def yL_begin : MethodName := ⟨RL, "begin", "(LGreenwave;II)I"⟩
abbrev cL_setConflict : ByteArray := method_4_code
def yL_setConflict : MethodName := ⟨RL, "setConflict", "(LGreenwave;IIII[J)I"⟩
abbrev cL_setPhases : ByteArray := method_5_code
def yL_setPhases : MethodName := ⟨RL, "setPhases", "(LGreenwave;IIIII[J)I"⟩
abbrev cL_setFlow : ByteArray := method_6_code
def yL_setFlow : MethodName := ⟨RL, "setFlow", "(LGreenwave;III[J)I"⟩
abbrev cL_setLink : ByteArray := method_7_code
def yL_setLink : MethodName := ⟨RL, "setLink", "(LGreenwave;III)I"⟩
abbrev cL_setOffset : ByteArray := method_8_code
def yL_setOffset : MethodName := ⟨RL, "setOffset", "(LGreenwave;II[J)I"⟩
abbrev cL_improve : ByteArray := method_9_code
def yL_improve : MethodName := ⟨RL, "improve", "(LGreenwave;[J)I"⟩
abbrev cL_hasPlan : ByteArray := method_10_code
def yL_hasPlan : MethodName := ⟨RL, "hasPlan", "(LGreenwave;I[J)I"⟩
abbrev cL_green : ByteArray := method_11_code
def yL_green : MethodName := ⟨RL, "green", "(LGreenwave;II[J)I"⟩
abbrev cL_clearing : ByteArray := method_12_code
def yL_clearing : MethodName := ⟨RL, "clearing", "(LGreenwave;II[J)I"⟩
abbrev cL_offset : ByteArray := method_13_code
def yL_offset : MethodName := ⟨RL, "offset", "(LGreenwave;I[J)I"⟩
abbrev cL_isGreen : ByteArray := method_14_code
def yL_isGreen : MethodName := ⟨RL, "isGreen", "(LGreenwave;III[J)I"⟩
abbrev cL_breaches : ByteArray := method_15_code
def yL_breaches : MethodName := ⟨RL, "breaches", "(LGreenwave;I[J)I"⟩
abbrev cL_band : ByteArray := method_16_code
def yL_band : MethodName := ⟨RL, "band", "(LGreenwave;Z[J)I"⟩
abbrev cL_bestByAll : ByteArray := method_17_code
def yL_bestByAll : MethodName := ⟨RL, "bestByAll", "(LGreenwave;[J)I"⟩
abbrev cL_run : ByteArray := method_18_code
def yL_run : MethodName := ⟨RL, "run", "(LGreenwave;I[J)I"⟩
abbrev cL_callBus : ByteArray := method_19_code
def yL_callBus : MethodName := ⟨RL, "callBus", "(LGreenwave;II[J)I"⟩
abbrev cL_phaseNow : ByteArray := method_20_code
def yL_phaseNow : MethodName := ⟨RL, "phaseNow", "(LGreenwave;I[J)I"⟩
abbrev cL_queue : ByteArray := method_21_code
def yL_queue : MethodName := ⟨RL, "queue", "(LGreenwave;I[J)I"⟩
abbrev cL_held : ByteArray := method_22_code
def yL_held : MethodName := ⟨RL, "held", "(LGreenwave;I[J)I"⟩
abbrev cL_law : ByteArray := code
def yL_law : MethodName := ⟨RL, "law", "([I)Z"⟩
abbrev vwCl : List vw_C := [(RX0, TX0, 5), (RX1, TX1, 3), (RX2, TX2, 2), (RX3, TX3, 17), (RX4, TX4, 4), (RX5, TX5, 2), (RX6, TX6, 6), (RX7, TX7, 3), (RX8, TX8, 27)]
end
section
theorem dX0_init_0 : decode cX0_init 0 = .ok (.aload_n 0, 1) := by decide +kernel
theorem dX0_init_1 : decode cX0_init 1 = .ok (.invokespecial 3, 3) := by decide +kernel
theorem dX0_init_4 : decode cX0_init 4 = .ok (.aload_n 0, 1) := by decide +kernel
theorem dX0_init_5 : decode cX0_init 5 = .ok (.new 9, 3) := by decide +kernel
theorem dX0_init_8 : decode cX0_init 8 = .ok (.dup, 1) := by decide +kernel
theorem dX0_init_9 : decode cX0_init 9 = .ok (.invokespecial 11, 3) := by decide +kernel
theorem dX0_init_12 : decode cX0_init 12 = .ok (.putfield 12, 3) := by decide +kernel
theorem dX0_init_15 : decode cX0_init 15 = .ok (.aload_n 0, 1) := by decide +kernel
theorem dX0_init_16 : decode cX0_init 16 = .ok (.new 9, 3) := by decide +kernel
theorem dX0_init_19 : decode cX0_init 19 = .ok (.dup, 1) := by decide +kernel
theorem dX0_init_20 : decode cX0_init 20 = .ok (.invokespecial 11, 3) := by decide +kernel
theorem dX0_init_23 : decode cX0_init 23 = .ok (.putfield 18, 3) := by decide +kernel
theorem dX0_init_26 : decode cX0_init 26 = .ok (.aload_n 0, 1) := by decide +kernel
theorem dX0_init_27 : decode cX0_init 27 = .ok (.new 9, 3) := by decide +kernel
theorem dX0_init_30 : decode cX0_init 30 = .ok (.dup, 1) := by decide +kernel
theorem dX0_init_31 : decode cX0_init 31 = .ok (.invokespecial 11, 3) := by decide +kernel
theorem dX0_init_34 : decode cX0_init 34 = .ok (.putfield 21, 3) := by decide +kernel
theorem dX0_init_37 : decode cX0_init 37 = .ok (.aload_n 0, 1) := by decide +kernel
theorem dX0_init_38 : decode cX0_init 38 = .ok (.new 9, 3) := by decide +kernel
theorem dX0_init_41 : decode cX0_init 41 = .ok (.dup, 1) := by decide +kernel
theorem dX0_init_42 : decode cX0_init 42 = .ok (.invokespecial 11, 3) := by decide +kernel
theorem dX0_init_45 : decode cX0_init 45 = .ok (.putfield 24, 3) := by decide +kernel
theorem dX0_init_48 : decode cX0_init 48 = .ok (.aload_n 0, 1) := by decide +kernel
theorem dX0_init_49 : decode cX0_init 49 = .ok (.aload_n 1, 1) := by decide +kernel
theorem dX0_init_50 : decode cX0_init 50 = .ok (.putfield 27, 3) := by decide +kernel
theorem dX0_init_53 : decode cX0_init 53 = .ok (.return_, 1) := by decide +kernel
theorem dX0_fillFrom_0 : decode cX0_fillFrom 0 = .ok (.aload_n 0, 1) := by decide +kernel
theorem dX0_fillFrom_1 : decode cX0_fillFrom 1 = .ok (.getfield 27, 3) := by decide +kernel
theorem dX0_fillFrom_4 : decode cX0_fillFrom 4 = .ok (.iload_n 1, 1) := by decide +kernel
theorem dX0_fillFrom_5 : decode cX0_fillFrom 5 = .ok (.invokevirtual 31, 3) := by decide +kernel
theorem dX0_fillFrom_8 : decode cX0_fillFrom 8 = .ok (.astore 4, 2) := by decide +kernel
theorem dX0_fillFrom_10 : decode cX0_fillFrom 10 = .ok (.aload_n 0, 1) := by decide +kernel
theorem dX0_fillFrom_11 : decode cX0_fillFrom 11 = .ok (.getfield 27, 3) := by decide +kernel
theorem dX0_fillFrom_14 : decode cX0_fillFrom 14 = .ok (.iconst 0, 1) := by decide +kernel
theorem dX0_fillFrom_15 : decode cX0_fillFrom 15 = .ok (.iload_n 1, 1) := by decide +kernel
theorem dX0_fillFrom_16 : decode cX0_fillFrom 16 = .ok (.invokevirtual 37, 3) := by decide +kernel
theorem dX0_fillFrom_19 : decode cX0_fillFrom 19 = .ok (.istore 5, 2) := by decide +kernel
theorem dX0_fillFrom_21 : decode cX0_fillFrom 21 = .ok (.aload_n 0, 1) := by decide +kernel
theorem dX0_fillFrom_22 : decode cX0_fillFrom 22 = .ok (.getfield 27, 3) := by decide +kernel
theorem dX0_fillFrom_25 : decode cX0_fillFrom 25 = .ok (.iload_n 1, 1) := by decide +kernel
theorem dX0_fillFrom_26 : decode cX0_fillFrom 26 = .ok (.aload_n 0, 1) := by decide +kernel
theorem dX0_fillFrom_27 : decode cX0_fillFrom 27 = .ok (.getfield 27, 3) := by decide +kernel
theorem dX0_fillFrom_30 : decode cX0_fillFrom 30 = .ok (.getfield 41, 3) := by decide +kernel
theorem dX0_fillFrom_33 : decode cX0_fillFrom 33 = .ok (.iconst 1, 1) := by decide +kernel
theorem dX0_fillFrom_34 : decode cX0_fillFrom 34 = .ok (.isub, 1) := by decide +kernel
theorem dX0_fillFrom_35 : decode cX0_fillFrom 35 = .ok (.invokevirtual 37, 3) := by decide +kernel
theorem dX0_fillFrom_38 : decode cX0_fillFrom 38 = .ok (.istore 6, 2) := by decide +kernel
theorem dX0_fillFrom_40 : decode cX0_fillFrom 40 = .ok (.aload_n 3, 1) := by decide +kernel
theorem dX0_fillFrom_41 : decode cX0_fillFrom 41 = .ok (.invokevirtual 45, 3) := by decide +kernel
theorem dX0_fillFrom_44 : decode cX0_fillFrom 44 = .ok (.iconst 0, 1) := by decide +kernel
theorem dX0_fillFrom_45 : decode cX0_fillFrom 45 = .ok (.istore 7, 2) := by decide +kernel
theorem dX0_fillFrom_47 : decode cX0_fillFrom 47 = .ok (.iload 7, 2) := by decide +kernel
theorem dX0_fillFrom_49 : decode cX0_fillFrom 49 = .ok (.aload_n 0, 1) := by decide +kernel
theorem dX0_fillFrom_50 : decode cX0_fillFrom 50 = .ok (.getfield 27, 3) := by decide +kernel
theorem dX0_fillFrom_53 : decode cX0_fillFrom 53 = .ok (.getfield 48, 3) := by decide +kernel
theorem dX0_fillFrom_56 : decode cX0_fillFrom 56 = .ok (.if_icmp .ge 57, 3) := by decide +kernel
theorem dX0_fillFrom_59 : decode cX0_fillFrom 59 = .ok (.aload 4, 2) := by decide +kernel
theorem dX0_fillFrom_61 : decode cX0_fillFrom 61 = .ok (.iload_n 2, 1) := by decide +kernel
theorem dX0_fillFrom_62 : decode cX0_fillFrom 62 = .ok (.iconst 0, 1) := by decide +kernel
theorem dX0_fillFrom_63 : decode cX0_fillFrom 63 = .ok (.iload 7, 2) := by decide +kernel
theorem dX0_fillFrom_65 : decode cX0_fillFrom 65 = .ok (.iload 5, 2) := by decide +kernel
theorem dX0_fillFrom_67 : decode cX0_fillFrom 67 = .ok (.iadd, 1) := by decide +kernel
theorem dX0_fillFrom_68 : decode cX0_fillFrom 68 = .ok (.invokevirtual 51, 3) := by decide +kernel
theorem dX0_fillFrom_71 : decode cX0_fillFrom 71 = .ok (.ifCond .eq 12, 3) := by decide +kernel
theorem dX0_fillFrom_74 : decode cX0_fillFrom 74 = .ok (.aload_n 3, 1) := by decide +kernel
theorem dX0_fillFrom_75 : decode cX0_fillFrom 75 = .ok (.getfield 57, 3) := by decide +kernel
theorem dX0_fillFrom_78 : decode cX0_fillFrom 78 = .ok (.iload 7, 2) := by decide +kernel
theorem dX0_fillFrom_80 : decode cX0_fillFrom 80 = .ok (.invokevirtual 61, 3) := by decide +kernel
theorem dX0_fillFrom_83 : decode cX0_fillFrom 83 = .ok (.aload 4, 2) := by decide +kernel
theorem dX0_fillFrom_85 : decode cX0_fillFrom 85 = .ok (.iload_n 2, 1) := by decide +kernel
theorem dX0_fillFrom_86 : decode cX0_fillFrom 86 = .ok (.iconst 1, 1) := by decide +kernel
theorem dX0_fillFrom_87 : decode cX0_fillFrom 87 = .ok (.iload 7, 2) := by decide +kernel
theorem dX0_fillFrom_89 : decode cX0_fillFrom 89 = .ok (.iload 6, 2) := by decide +kernel
theorem dX0_fillFrom_91 : decode cX0_fillFrom 91 = .ok (.iadd, 1) := by decide +kernel
theorem dX0_fillFrom_92 : decode cX0_fillFrom 92 = .ok (.invokevirtual 51, 3) := by decide +kernel
theorem dX0_fillFrom_95 : decode cX0_fillFrom 95 = .ok (.ifCond .eq 12, 3) := by decide +kernel
theorem dX0_fillFrom_98 : decode cX0_fillFrom 98 = .ok (.aload_n 3, 1) := by decide +kernel
theorem dX0_fillFrom_99 : decode cX0_fillFrom 99 = .ok (.getfield 67, 3) := by decide +kernel
theorem dX0_fillFrom_102 : decode cX0_fillFrom 102 = .ok (.iload 7, 2) := by decide +kernel
theorem dX0_fillFrom_104 : decode cX0_fillFrom 104 = .ok (.invokevirtual 61, 3) := by decide +kernel
theorem dX0_fillFrom_107 : decode cX0_fillFrom 107 = .ok (.iinc 7 1, 3) := by decide +kernel
theorem dX0_fillFrom_110 : decode cX0_fillFrom 110 = .ok (.goto (-63), 3) := by decide +kernel
theorem dX0_fillFrom_113 : decode cX0_fillFrom 113 = .ok (.return_, 1) := by decide +kernel
theorem dX0_fillCommon_0 : decode cX0_fillCommon 0 = .ok (.aload_n 0, 1) := by decide +kernel
theorem dX0_fillCommon_1 : decode cX0_fillCommon 1 = .ok (.getfield 12, 3) := by decide +kernel
theorem dX0_fillCommon_4 : decode cX0_fillCommon 4 = .ok (.invokevirtual 45, 3) := by decide +kernel
theorem dX0_fillCommon_7 : decode cX0_fillCommon 7 = .ok (.aload_n 0, 1) := by decide +kernel
theorem dX0_fillCommon_8 : decode cX0_fillCommon 8 = .ok (.getfield 12, 3) := by decide +kernel
theorem dX0_fillCommon_11 : decode cX0_fillCommon 11 = .ok (.aload_n 0, 1) := by decide +kernel
theorem dX0_fillCommon_12 : decode cX0_fillCommon 12 = .ok (.getfield 27, 3) := by decide +kernel
theorem dX0_fillCommon_15 : decode cX0_fillCommon 15 = .ok (.getfield 48, 3) := by decide +kernel
theorem dX0_fillCommon_18 : decode cX0_fillCommon 18 = .ok (.invokevirtual 70, 3) := by decide +kernel
theorem dX0_fillCommon_21 : decode cX0_fillCommon 21 = .ok (.iconst 0, 1) := by decide +kernel
theorem dX0_fillCommon_22 : decode cX0_fillCommon 22 = .ok (.istore_n 2, 1) := by decide +kernel
theorem dX0_fillCommon_23 : decode cX0_fillCommon 23 = .ok (.iload_n 2, 1) := by decide +kernel
theorem dX0_fillCommon_24 : decode cX0_fillCommon 24 = .ok (.aload_n 0, 1) := by decide +kernel
theorem dX0_fillCommon_25 : decode cX0_fillCommon 25 = .ok (.getfield 27, 3) := by decide +kernel
theorem dX0_fillCommon_28 : decode cX0_fillCommon 28 = .ok (.getfield 41, 3) := by decide +kernel
theorem dX0_fillCommon_31 : decode cX0_fillCommon 31 = .ok (.if_icmp .ge 49, 3) := by decide +kernel
theorem dX0_fillCommon_34 : decode cX0_fillCommon 34 = .ok (.iload_n 2, 1) := by decide +kernel
theorem dX0_fillCommon_35 : decode cX0_fillCommon 35 = .ok (.iload_n 1, 1) := by decide +kernel
theorem dX0_fillCommon_36 : decode cX0_fillCommon 36 = .ok (.if_icmp .eq 38, 3) := by decide +kernel
theorem dX0_fillCommon_39 : decode cX0_fillCommon 39 = .ok (.aload_n 0, 1) := by decide +kernel
theorem dX0_fillCommon_40 : decode cX0_fillCommon 40 = .ok (.iload_n 2, 1) := by decide +kernel
theorem dX0_fillCommon_41 : decode cX0_fillCommon 41 = .ok (.aload_n 0, 1) := by decide +kernel
theorem dX0_fillCommon_42 : decode cX0_fillCommon 42 = .ok (.getfield 27, 3) := by decide +kernel
theorem dX0_fillCommon_45 : decode cX0_fillCommon 45 = .ok (.iload_n 2, 1) := by decide +kernel
theorem dX0_fillCommon_46 : decode cX0_fillCommon 46 = .ok (.invokevirtual 31, 3) := by decide +kernel
theorem dX0_fillCommon_49 : decode cX0_fillCommon 49 = .ok (.getfield 73, 3) := by decide +kernel
theorem dX0_fillCommon_52 : decode cX0_fillCommon 52 = .ok (.aload_n 0, 1) := by decide +kernel
theorem dX0_fillCommon_53 : decode cX0_fillCommon 53 = .ok (.getfield 18, 3) := by decide +kernel
theorem dX0_fillCommon_56 : decode cX0_fillCommon 56 = .ok (.invokevirtual 76, 3) := by decide +kernel
theorem dX0_fillCommon_59 : decode cX0_fillCommon 59 = .ok (.aload_n 0, 1) := by decide +kernel
theorem dX0_fillCommon_60 : decode cX0_fillCommon 60 = .ok (.getfield 12, 3) := by decide +kernel
theorem dX0_fillCommon_63 : decode cX0_fillCommon 63 = .ok (.aload_n 0, 1) := by decide +kernel
theorem dX0_fillCommon_64 : decode cX0_fillCommon 64 = .ok (.getfield 12, 3) := by decide +kernel
theorem dX0_fillCommon_67 : decode cX0_fillCommon 67 = .ok (.aload_n 0, 1) := by decide +kernel
theorem dX0_fillCommon_68 : decode cX0_fillCommon 68 = .ok (.getfield 18, 3) := by decide +kernel
theorem dX0_fillCommon_71 : decode cX0_fillCommon 71 = .ok (.invokevirtual 80, 3) := by decide +kernel
theorem dX0_fillCommon_74 : decode cX0_fillCommon 74 = .ok (.iinc 2 1, 3) := by decide +kernel
theorem dX0_fillCommon_77 : decode cX0_fillCommon 77 = .ok (.goto (-54), 3) := by decide +kernel
theorem dX0_fillCommon_80 : decode cX0_fillCommon 80 = .ok (.return_, 1) := by decide +kernel
theorem dX0_width_0 : decode cX0_width 0 = .ok (.aload_n 0, 1) := by decide +kernel
theorem dX0_width_1 : decode cX0_width 1 = .ok (.iconst (-1), 1) := by decide +kernel
theorem dX0_width_2 : decode cX0_width 2 = .ok (.invokevirtual 84, 3) := by decide +kernel
theorem dX0_width_5 : decode cX0_width 5 = .ok (.iload_n 1, 1) := by decide +kernel
theorem dX0_width_6 : decode cX0_width 6 = .ok (.ifCond .eq 13, 3) := by decide +kernel
theorem dX0_width_9 : decode cX0_width 9 = .ok (.aload_n 0, 1) := by decide +kernel
theorem dX0_width_10 : decode cX0_width 10 = .ok (.getfield 12, 3) := by decide +kernel
theorem dX0_width_13 : decode cX0_width 13 = .ok (.getfield 57, 3) := by decide +kernel
theorem dX0_width_16 : decode cX0_width 16 = .ok (.goto 10, 3) := by decide +kernel
theorem dX0_width_19 : decode cX0_width 19 = .ok (.aload_n 0, 1) := by decide +kernel
theorem dX0_width_20 : decode cX0_width 20 = .ok (.getfield 12, 3) := by decide +kernel
theorem dX0_width_23 : decode cX0_width 23 = .ok (.getfield 67, 3) := by decide +kernel
theorem dX0_width_26 : decode cX0_width 26 = .ok (.astore_n 2, 1) := by decide +kernel
theorem dX0_width_27 : decode cX0_width 27 = .ok (.aload_n 2, 1) := by decide +kernel
theorem dX0_width_28 : decode cX0_width 28 = .ok (.aload_n 2, 1) := by decide +kernel
theorem dX0_width_29 : decode cX0_width 29 = .ok (.invokevirtual 87, 3) := by decide +kernel
theorem dX0_width_32 : decode cX0_width 32 = .ok (.ireturn, 1) := by decide +kernel
theorem dX0_improveOffsets_0 : decode cX0_improveOffsets 0 = .ok (.iconst 1, 1) := by decide +kernel
theorem dX0_improveOffsets_1 : decode cX0_improveOffsets 1 = .ok (.istore_n 1, 1) := by decide +kernel
theorem dX0_improveOffsets_2 : decode cX0_improveOffsets 2 = .ok (.iconst 0, 1) := by decide +kernel
theorem dX0_improveOffsets_3 : decode cX0_improveOffsets 3 = .ok (.istore_n 2, 1) := by decide +kernel
theorem dX0_improveOffsets_4 : decode cX0_improveOffsets 4 = .ok (.iload_n 2, 1) := by decide +kernel
theorem dX0_improveOffsets_5 : decode cX0_improveOffsets 5 = .ok (.bipush 10, 2) := by decide +kernel
theorem dX0_improveOffsets_7 : decode cX0_improveOffsets 7 = .ok (.if_icmp .ge 42, 3) := by decide +kernel
theorem dX0_improveOffsets_10 : decode cX0_improveOffsets 10 = .ok (.iload_n 1, 1) := by decide +kernel
theorem dX0_improveOffsets_11 : decode cX0_improveOffsets 11 = .ok (.ifCond .eq 38, 3) := by decide +kernel
theorem dX0_improveOffsets_14 : decode cX0_improveOffsets 14 = .ok (.iconst 0, 1) := by decide +kernel
theorem dX0_improveOffsets_15 : decode cX0_improveOffsets 15 = .ok (.istore_n 1, 1) := by decide +kernel
theorem dX0_improveOffsets_16 : decode cX0_improveOffsets 16 = .ok (.iconst 1, 1) := by decide +kernel
theorem dX0_improveOffsets_17 : decode cX0_improveOffsets 17 = .ok (.istore_n 3, 1) := by decide +kernel
theorem dX0_improveOffsets_18 : decode cX0_improveOffsets 18 = .ok (.iload_n 3, 1) := by decide +kernel
theorem dX0_improveOffsets_19 : decode cX0_improveOffsets 19 = .ok (.aload_n 0, 1) := by decide +kernel
theorem dX0_improveOffsets_20 : decode cX0_improveOffsets 20 = .ok (.getfield 27, 3) := by decide +kernel
theorem dX0_improveOffsets_23 : decode cX0_improveOffsets 23 = .ok (.getfield 41, 3) := by decide +kernel
theorem dX0_improveOffsets_26 : decode cX0_improveOffsets 26 = .ok (.if_icmp .ge 17, 3) := by decide +kernel
theorem dX0_improveOffsets_29 : decode cX0_improveOffsets 29 = .ok (.iload_n 1, 1) := by decide +kernel
theorem dX0_improveOffsets_30 : decode cX0_improveOffsets 30 = .ok (.aload_n 0, 1) := by decide +kernel
theorem dX0_improveOffsets_31 : decode cX0_improveOffsets 31 = .ok (.iload_n 3, 1) := by decide +kernel
theorem dX0_improveOffsets_32 : decode cX0_improveOffsets 32 = .ok (.invokevirtual 91, 3) := by decide +kernel
theorem dX0_improveOffsets_35 : decode cX0_improveOffsets 35 = .ok (.ior, 1) := by decide +kernel
theorem dX0_improveOffsets_36 : decode cX0_improveOffsets 36 = .ok (.istore_n 1, 1) := by decide +kernel
theorem dX0_improveOffsets_37 : decode cX0_improveOffsets 37 = .ok (.iinc 3 1, 3) := by decide +kernel
theorem dX0_improveOffsets_40 : decode cX0_improveOffsets 40 = .ok (.goto (-22), 3) := by decide +kernel
theorem dX0_improveOffsets_43 : decode cX0_improveOffsets 43 = .ok (.iinc 2 1, 3) := by decide +kernel
theorem dX0_improveOffsets_46 : decode cX0_improveOffsets 46 = .ok (.goto (-42), 3) := by decide +kernel
theorem dX0_improveOffsets_49 : decode cX0_improveOffsets 49 = .ok (.aload_n 0, 1) := by decide +kernel
theorem dX0_improveOffsets_50 : decode cX0_improveOffsets 50 = .ok (.iconst (-1), 1) := by decide +kernel
theorem dX0_improveOffsets_51 : decode cX0_improveOffsets 51 = .ok (.invokevirtual 84, 3) := by decide +kernel
theorem dX0_improveOffsets_54 : decode cX0_improveOffsets 54 = .ok (.aload_n 0, 1) := by decide +kernel
theorem dX0_improveOffsets_55 : decode cX0_improveOffsets 55 = .ok (.getfield 12, 3) := by decide +kernel
theorem dX0_improveOffsets_58 : decode cX0_improveOffsets 58 = .ok (.aload_n 0, 1) := by decide +kernel
theorem dX0_improveOffsets_59 : decode cX0_improveOffsets 59 = .ok (.getfield 12, 3) := by decide +kernel
theorem dX0_improveOffsets_62 : decode cX0_improveOffsets 62 = .ok (.invokevirtual 95, 3) := by decide +kernel
theorem dX0_improveOffsets_65 : decode cX0_improveOffsets 65 = .ok (.ireturn, 1) := by decide +kernel
theorem dX0_improveOffset_0 : decode cX0_improveOffset 0 = .ok (.aload_n 0, 1) := by decide +kernel
theorem dX0_improveOffset_1 : decode cX0_improveOffset 1 = .ok (.getfield 27, 3) := by decide +kernel
theorem dX0_improveOffset_4 : decode cX0_improveOffset 4 = .ok (.iload_n 1, 1) := by decide +kernel
theorem dX0_improveOffset_5 : decode cX0_improveOffset 5 = .ok (.invokevirtual 31, 3) := by decide +kernel
theorem dX0_improveOffset_8 : decode cX0_improveOffset 8 = .ok (.astore_n 2, 1) := by decide +kernel
theorem dX0_improveOffset_9 : decode cX0_improveOffset 9 = .ok (.aload_n 2, 1) := by decide +kernel
theorem dX0_improveOffset_10 : decode cX0_improveOffset 10 = .ok (.getfield 73, 3) := by decide +kernel
theorem dX0_improveOffset_13 : decode cX0_improveOffset 13 = .ok (.istore_n 3, 1) := by decide +kernel
theorem dX0_improveOffset_14 : decode cX0_improveOffset 14 = .ok (.aload_n 0, 1) := by decide +kernel
theorem dX0_improveOffset_15 : decode cX0_improveOffset 15 = .ok (.iload_n 1, 1) := by decide +kernel
theorem dX0_improveOffset_16 : decode cX0_improveOffset 16 = .ok (.invokevirtual 84, 3) := by decide +kernel
theorem dX0_improveOffset_19 : decode cX0_improveOffset 19 = .ok (.aload_n 0, 1) := by decide +kernel
theorem dX0_improveOffset_20 : decode cX0_improveOffset 20 = .ok (.iload_n 1, 1) := by decide +kernel
theorem dX0_improveOffset_21 : decode cX0_improveOffset 21 = .ok (.iconst 0, 1) := by decide +kernel
theorem dX0_improveOffset_22 : decode cX0_improveOffset 22 = .ok (.aload_n 0, 1) := by decide +kernel
theorem dX0_improveOffset_23 : decode cX0_improveOffset 23 = .ok (.getfield 18, 3) := by decide +kernel
theorem dX0_improveOffset_26 : decode cX0_improveOffset 26 = .ok (.invokevirtual 76, 3) := by decide +kernel
theorem dX0_improveOffset_29 : decode cX0_improveOffset 29 = .ok (.aload_n 2, 1) := by decide +kernel
theorem dX0_improveOffset_30 : decode cX0_improveOffset 30 = .ok (.aload_n 0, 1) := by decide +kernel
theorem dX0_improveOffset_31 : decode cX0_improveOffset 31 = .ok (.invokevirtual 98, 3) := by decide +kernel
theorem dX0_improveOffset_34 : decode cX0_improveOffset 34 = .ok (.putfield 73, 3) := by decide +kernel
theorem dX0_improveOffset_37 : decode cX0_improveOffset 37 = .ok (.aload_n 2, 1) := by decide +kernel
theorem dX0_improveOffset_38 : decode cX0_improveOffset 38 = .ok (.getfield 73, 3) := by decide +kernel
theorem dX0_improveOffset_41 : decode cX0_improveOffset 41 = .ok (.iload_n 3, 1) := by decide +kernel
theorem dX0_improveOffset_42 : decode cX0_improveOffset 42 = .ok (.if_icmp .eq 7, 3) := by decide +kernel
theorem dX0_improveOffset_45 : decode cX0_improveOffset 45 = .ok (.iconst 1, 1) := by decide +kernel
theorem dX0_improveOffset_46 : decode cX0_improveOffset 46 = .ok (.goto 4, 3) := by decide +kernel
theorem dX0_improveOffset_49 : decode cX0_improveOffset 49 = .ok (.iconst 0, 1) := by decide +kernel
theorem dX0_improveOffset_50 : decode cX0_improveOffset 50 = .ok (.ireturn, 1) := by decide +kernel
theorem dX0_lowestBestOffset_0 : decode cX0_lowestBestOffset 0 = .ok (.iconst 0, 1) := by decide +kernel
theorem dX0_lowestBestOffset_1 : decode cX0_lowestBestOffset 1 = .ok (.istore_n 1, 1) := by decide +kernel
theorem dX0_lowestBestOffset_2 : decode cX0_lowestBestOffset 2 = .ok (.iconst 0, 1) := by decide +kernel
theorem dX0_lowestBestOffset_3 : decode cX0_lowestBestOffset 3 = .ok (.istore_n 2, 1) := by decide +kernel
theorem dX0_lowestBestOffset_4 : decode cX0_lowestBestOffset 4 = .ok (.iconst 0, 1) := by decide +kernel
theorem dX0_lowestBestOffset_5 : decode cX0_lowestBestOffset 5 = .ok (.istore_n 3, 1) := by decide +kernel
theorem dX0_lowestBestOffset_6 : decode cX0_lowestBestOffset 6 = .ok (.iload_n 3, 1) := by decide +kernel
theorem dX0_lowestBestOffset_7 : decode cX0_lowestBestOffset 7 = .ok (.aload_n 0, 1) := by decide +kernel
theorem dX0_lowestBestOffset_8 : decode cX0_lowestBestOffset 8 = .ok (.getfield 27, 3) := by decide +kernel
theorem dX0_lowestBestOffset_11 : decode cX0_lowestBestOffset 11 = .ok (.getfield 48, 3) := by decide +kernel
theorem dX0_lowestBestOffset_14 : decode cX0_lowestBestOffset 14 = .ok (.if_icmp .ge 47, 3) := by decide +kernel
theorem dX0_lowestBestOffset_17 : decode cX0_lowestBestOffset 17 = .ok (.aload_n 0, 1) := by decide +kernel
theorem dX0_lowestBestOffset_18 : decode cX0_lowestBestOffset 18 = .ok (.getfield 12, 3) := by decide +kernel
theorem dX0_lowestBestOffset_21 : decode cX0_lowestBestOffset 21 = .ok (.aload_n 0, 1) := by decide +kernel
theorem dX0_lowestBestOffset_22 : decode cX0_lowestBestOffset 22 = .ok (.getfield 18, 3) := by decide +kernel
theorem dX0_lowestBestOffset_25 : decode cX0_lowestBestOffset 25 = .ok (.invokevirtual 95, 3) := by decide +kernel
theorem dX0_lowestBestOffset_28 : decode cX0_lowestBestOffset 28 = .ok (.istore 4, 2) := by decide +kernel
theorem dX0_lowestBestOffset_30 : decode cX0_lowestBestOffset 30 = .ok (.iload 4, 2) := by decide +kernel
theorem dX0_lowestBestOffset_32 : decode cX0_lowestBestOffset 32 = .ok (.iload_n 2, 1) := by decide +kernel
theorem dX0_lowestBestOffset_33 : decode cX0_lowestBestOffset 33 = .ok (.if_icmp .le 8, 3) := by decide +kernel
theorem dX0_lowestBestOffset_36 : decode cX0_lowestBestOffset 36 = .ok (.iload 4, 2) := by decide +kernel
theorem dX0_lowestBestOffset_38 : decode cX0_lowestBestOffset 38 = .ok (.istore_n 2, 1) := by decide +kernel
theorem dX0_lowestBestOffset_39 : decode cX0_lowestBestOffset 39 = .ok (.iload_n 3, 1) := by decide +kernel
theorem dX0_lowestBestOffset_40 : decode cX0_lowestBestOffset 40 = .ok (.istore_n 1, 1) := by decide +kernel
theorem dX0_lowestBestOffset_41 : decode cX0_lowestBestOffset 41 = .ok (.aload_n 0, 1) := by decide +kernel
theorem dX0_lowestBestOffset_42 : decode cX0_lowestBestOffset 42 = .ok (.getfield 18, 3) := by decide +kernel
theorem dX0_lowestBestOffset_45 : decode cX0_lowestBestOffset 45 = .ok (.aload_n 0, 1) := by decide +kernel
theorem dX0_lowestBestOffset_46 : decode cX0_lowestBestOffset 46 = .ok (.getfield 27, 3) := by decide +kernel
theorem dX0_lowestBestOffset_49 : decode cX0_lowestBestOffset 49 = .ok (.getfield 48, 3) := by decide +kernel
theorem dX0_lowestBestOffset_52 : decode cX0_lowestBestOffset 52 = .ok (.invokevirtual 102, 3) := by decide +kernel
theorem dX0_lowestBestOffset_55 : decode cX0_lowestBestOffset 55 = .ok (.iinc 3 1, 3) := by decide +kernel
theorem dX0_lowestBestOffset_58 : decode cX0_lowestBestOffset 58 = .ok (.goto (-52), 3) := by decide +kernel
theorem dX0_lowestBestOffset_61 : decode cX0_lowestBestOffset 61 = .ok (.iload_n 1, 1) := by decide +kernel
theorem dX0_lowestBestOffset_62 : decode cX0_lowestBestOffset 62 = .ok (.ireturn, 1) := by decide +kernel
theorem dX0_greatestOverOffsets_0 : decode cX0_greatestOverOffsets 0 = .ok (.iconst 0, 1) := by decide +kernel
theorem dX0_greatestOverOffsets_1 : decode cX0_greatestOverOffsets 1 = .ok (.istore_n 3, 1) := by decide +kernel
theorem dX0_greatestOverOffsets_2 : decode cX0_greatestOverOffsets 2 = .ok (.iconst 0, 1) := by decide +kernel
theorem dX0_greatestOverOffsets_3 : decode cX0_greatestOverOffsets 3 = .ok (.istore 4, 2) := by decide +kernel
theorem dX0_greatestOverOffsets_5 : decode cX0_greatestOverOffsets 5 = .ok (.iload 4, 2) := by decide +kernel
theorem dX0_greatestOverOffsets_7 : decode cX0_greatestOverOffsets 7 = .ok (.aload_n 0, 1) := by decide +kernel
theorem dX0_greatestOverOffsets_8 : decode cX0_greatestOverOffsets 8 = .ok (.getfield 27, 3) := by decide +kernel
theorem dX0_greatestOverOffsets_11 : decode cX0_greatestOverOffsets 11 = .ok (.getfield 48, 3) := by decide +kernel
theorem dX0_greatestOverOffsets_14 : decode cX0_greatestOverOffsets 14 = .ok (.if_icmp .ge 30, 3) := by decide +kernel
theorem dX0_greatestOverOffsets_17 : decode cX0_greatestOverOffsets 17 = .ok (.iload_n 3, 1) := by decide +kernel
theorem dX0_greatestOverOffsets_18 : decode cX0_greatestOverOffsets 18 = .ok (.aload_n 1, 1) := by decide +kernel
theorem dX0_greatestOverOffsets_19 : decode cX0_greatestOverOffsets 19 = .ok (.aload_n 2, 1) := by decide +kernel
theorem dX0_greatestOverOffsets_20 : decode cX0_greatestOverOffsets 20 = .ok (.invokevirtual 95, 3) := by decide +kernel
theorem dX0_greatestOverOffsets_23 : decode cX0_greatestOverOffsets 23 = .ok (.invokestatic 105, 3) := by decide +kernel
theorem dX0_greatestOverOffsets_26 : decode cX0_greatestOverOffsets 26 = .ok (.istore_n 3, 1) := by decide +kernel
theorem dX0_greatestOverOffsets_27 : decode cX0_greatestOverOffsets 27 = .ok (.aload_n 2, 1) := by decide +kernel
theorem dX0_greatestOverOffsets_28 : decode cX0_greatestOverOffsets 28 = .ok (.aload_n 0, 1) := by decide +kernel
theorem dX0_greatestOverOffsets_29 : decode cX0_greatestOverOffsets 29 = .ok (.getfield 27, 3) := by decide +kernel
theorem dX0_greatestOverOffsets_32 : decode cX0_greatestOverOffsets 32 = .ok (.getfield 48, 3) := by decide +kernel
theorem dX0_greatestOverOffsets_35 : decode cX0_greatestOverOffsets 35 = .ok (.invokevirtual 102, 3) := by decide +kernel
theorem dX0_greatestOverOffsets_38 : decode cX0_greatestOverOffsets 38 = .ok (.iinc 4 1, 3) := by decide +kernel
theorem dX0_greatestOverOffsets_41 : decode cX0_greatestOverOffsets 41 = .ok (.goto (-36), 3) := by decide +kernel
theorem dX0_greatestOverOffsets_44 : decode cX0_greatestOverOffsets 44 = .ok (.iload_n 3, 1) := by decide +kernel
theorem dX0_greatestOverOffsets_45 : decode cX0_greatestOverOffsets 45 = .ok (.ireturn, 1) := by decide +kernel
theorem dX0_bestOverAllOffsets_0 : decode cX0_bestOverAllOffsets 0 = .ok (.aload_n 0, 1) := by decide +kernel
theorem dX0_bestOverAllOffsets_1 : decode cX0_bestOverAllOffsets 1 = .ok (.iconst 0, 1) := by decide +kernel
theorem dX0_bestOverAllOffsets_2 : decode cX0_bestOverAllOffsets 2 = .ok (.aload_n 0, 1) := by decide +kernel
theorem dX0_bestOverAllOffsets_3 : decode cX0_bestOverAllOffsets 3 = .ok (.getfield 27, 3) := by decide +kernel
theorem dX0_bestOverAllOffsets_6 : decode cX0_bestOverAllOffsets 6 = .ok (.iconst 0, 1) := by decide +kernel
theorem dX0_bestOverAllOffsets_7 : decode cX0_bestOverAllOffsets 7 = .ok (.invokevirtual 31, 3) := by decide +kernel
theorem dX0_bestOverAllOffsets_10 : decode cX0_bestOverAllOffsets 10 = .ok (.getfield 73, 3) := by decide +kernel
theorem dX0_bestOverAllOffsets_13 : decode cX0_bestOverAllOffsets 13 = .ok (.aload_n 0, 1) := by decide +kernel
theorem dX0_bestOverAllOffsets_14 : decode cX0_bestOverAllOffsets 14 = .ok (.getfield 12, 3) := by decide +kernel
theorem dX0_bestOverAllOffsets_17 : decode cX0_bestOverAllOffsets 17 = .ok (.invokevirtual 76, 3) := by decide +kernel
theorem dX0_bestOverAllOffsets_20 : decode cX0_bestOverAllOffsets 20 = .ok (.aload_n 0, 1) := by decide +kernel
theorem dX0_bestOverAllOffsets_21 : decode cX0_bestOverAllOffsets 21 = .ok (.iconst 1, 1) := by decide +kernel
theorem dX0_bestOverAllOffsets_22 : decode cX0_bestOverAllOffsets 22 = .ok (.iconst 0, 1) := by decide +kernel
theorem dX0_bestOverAllOffsets_23 : decode cX0_bestOverAllOffsets 23 = .ok (.aload_n 0, 1) := by decide +kernel
theorem dX0_bestOverAllOffsets_24 : decode cX0_bestOverAllOffsets 24 = .ok (.getfield 18, 3) := by decide +kernel
theorem dX0_bestOverAllOffsets_27 : decode cX0_bestOverAllOffsets 27 = .ok (.invokevirtual 76, 3) := by decide +kernel
theorem dX0_bestOverAllOffsets_30 : decode cX0_bestOverAllOffsets 30 = .ok (.aload_n 0, 1) := by decide +kernel
theorem dX0_bestOverAllOffsets_31 : decode cX0_bestOverAllOffsets 31 = .ok (.getfield 27, 3) := by decide +kernel
theorem dX0_bestOverAllOffsets_34 : decode cX0_bestOverAllOffsets 34 = .ok (.getfield 41, 3) := by decide +kernel
theorem dX0_bestOverAllOffsets_37 : decode cX0_bestOverAllOffsets 37 = .ok (.iconst 2, 1) := by decide +kernel
theorem dX0_bestOverAllOffsets_38 : decode cX0_bestOverAllOffsets 38 = .ok (.if_icmp .ne 16, 3) := by decide +kernel
theorem dX0_bestOverAllOffsets_41 : decode cX0_bestOverAllOffsets 41 = .ok (.aload_n 0, 1) := by decide +kernel
theorem dX0_bestOverAllOffsets_42 : decode cX0_bestOverAllOffsets 42 = .ok (.aload_n 0, 1) := by decide +kernel
theorem dX0_bestOverAllOffsets_43 : decode cX0_bestOverAllOffsets 43 = .ok (.getfield 12, 3) := by decide +kernel
theorem dX0_bestOverAllOffsets_46 : decode cX0_bestOverAllOffsets 46 = .ok (.aload_n 0, 1) := by decide +kernel
theorem dX0_bestOverAllOffsets_47 : decode cX0_bestOverAllOffsets 47 = .ok (.getfield 18, 3) := by decide +kernel
theorem dX0_bestOverAllOffsets_50 : decode cX0_bestOverAllOffsets 50 = .ok (.invokevirtual 110, 3) := by decide +kernel
theorem dX0_bestOverAllOffsets_53 : decode cX0_bestOverAllOffsets 53 = .ok (.ireturn, 1) := by decide +kernel
theorem dX0_bestOverAllOffsets_54 : decode cX0_bestOverAllOffsets 54 = .ok (.aload_n 0, 1) := by decide +kernel
theorem dX0_bestOverAllOffsets_55 : decode cX0_bestOverAllOffsets 55 = .ok (.iconst 2, 1) := by decide +kernel
theorem dX0_bestOverAllOffsets_56 : decode cX0_bestOverAllOffsets 56 = .ok (.iconst 0, 1) := by decide +kernel
theorem dX0_bestOverAllOffsets_57 : decode cX0_bestOverAllOffsets 57 = .ok (.aload_n 0, 1) := by decide +kernel
theorem dX0_bestOverAllOffsets_58 : decode cX0_bestOverAllOffsets 58 = .ok (.getfield 24, 3) := by decide +kernel
theorem dX0_bestOverAllOffsets_61 : decode cX0_bestOverAllOffsets 61 = .ok (.invokevirtual 76, 3) := by decide +kernel
theorem dX0_bestOverAllOffsets_64 : decode cX0_bestOverAllOffsets 64 = .ok (.iconst 0, 1) := by decide +kernel
theorem dX0_bestOverAllOffsets_65 : decode cX0_bestOverAllOffsets 65 = .ok (.istore_n 1, 1) := by decide +kernel
theorem dX0_bestOverAllOffsets_66 : decode cX0_bestOverAllOffsets 66 = .ok (.iconst 0, 1) := by decide +kernel
theorem dX0_bestOverAllOffsets_67 : decode cX0_bestOverAllOffsets 67 = .ok (.istore_n 2, 1) := by decide +kernel
theorem dX0_bestOverAllOffsets_68 : decode cX0_bestOverAllOffsets 68 = .ok (.iload_n 2, 1) := by decide +kernel
theorem dX0_bestOverAllOffsets_69 : decode cX0_bestOverAllOffsets 69 = .ok (.aload_n 0, 1) := by decide +kernel
theorem dX0_bestOverAllOffsets_70 : decode cX0_bestOverAllOffsets 70 = .ok (.getfield 27, 3) := by decide +kernel
theorem dX0_bestOverAllOffsets_73 : decode cX0_bestOverAllOffsets 73 = .ok (.getfield 48, 3) := by decide +kernel
theorem dX0_bestOverAllOffsets_76 : decode cX0_bestOverAllOffsets 76 = .ok (.if_icmp .ge 55, 3) := by decide +kernel
theorem dX0_bestOverAllOffsets_79 : decode cX0_bestOverAllOffsets 79 = .ok (.aload_n 0, 1) := by decide +kernel
theorem dX0_bestOverAllOffsets_80 : decode cX0_bestOverAllOffsets 80 = .ok (.getfield 21, 3) := by decide +kernel
theorem dX0_bestOverAllOffsets_83 : decode cX0_bestOverAllOffsets 83 = .ok (.aload_n 0, 1) := by decide +kernel
theorem dX0_bestOverAllOffsets_84 : decode cX0_bestOverAllOffsets 84 = .ok (.getfield 12, 3) := by decide +kernel
theorem dX0_bestOverAllOffsets_87 : decode cX0_bestOverAllOffsets 87 = .ok (.aload_n 0, 1) := by decide +kernel
theorem dX0_bestOverAllOffsets_88 : decode cX0_bestOverAllOffsets 88 = .ok (.getfield 18, 3) := by decide +kernel
theorem dX0_bestOverAllOffsets_91 : decode cX0_bestOverAllOffsets 91 = .ok (.invokevirtual 80, 3) := by decide +kernel
theorem dX0_bestOverAllOffsets_94 : decode cX0_bestOverAllOffsets 94 = .ok (.iload_n 1, 1) := by decide +kernel
theorem dX0_bestOverAllOffsets_95 : decode cX0_bestOverAllOffsets 95 = .ok (.aload_n 0, 1) := by decide +kernel
theorem dX0_bestOverAllOffsets_96 : decode cX0_bestOverAllOffsets 96 = .ok (.aload_n 0, 1) := by decide +kernel
theorem dX0_bestOverAllOffsets_97 : decode cX0_bestOverAllOffsets 97 = .ok (.getfield 21, 3) := by decide +kernel
theorem dX0_bestOverAllOffsets_100 : decode cX0_bestOverAllOffsets 100 = .ok (.aload_n 0, 1) := by decide +kernel
theorem dX0_bestOverAllOffsets_101 : decode cX0_bestOverAllOffsets 101 = .ok (.getfield 24, 3) := by decide +kernel
theorem dX0_bestOverAllOffsets_104 : decode cX0_bestOverAllOffsets 104 = .ok (.invokevirtual 110, 3) := by decide +kernel
theorem dX0_bestOverAllOffsets_107 : decode cX0_bestOverAllOffsets 107 = .ok (.invokestatic 105, 3) := by decide +kernel
theorem dX0_bestOverAllOffsets_110 : decode cX0_bestOverAllOffsets 110 = .ok (.istore_n 1, 1) := by decide +kernel
theorem dX0_bestOverAllOffsets_111 : decode cX0_bestOverAllOffsets 111 = .ok (.aload_n 0, 1) := by decide +kernel
theorem dX0_bestOverAllOffsets_112 : decode cX0_bestOverAllOffsets 112 = .ok (.getfield 18, 3) := by decide +kernel
theorem dX0_bestOverAllOffsets_115 : decode cX0_bestOverAllOffsets 115 = .ok (.aload_n 0, 1) := by decide +kernel
theorem dX0_bestOverAllOffsets_116 : decode cX0_bestOverAllOffsets 116 = .ok (.getfield 27, 3) := by decide +kernel
theorem dX0_bestOverAllOffsets_119 : decode cX0_bestOverAllOffsets 119 = .ok (.getfield 48, 3) := by decide +kernel
theorem dX0_bestOverAllOffsets_122 : decode cX0_bestOverAllOffsets 122 = .ok (.invokevirtual 102, 3) := by decide +kernel
theorem dX0_bestOverAllOffsets_125 : decode cX0_bestOverAllOffsets 125 = .ok (.iinc 2 1, 3) := by decide +kernel
theorem dX0_bestOverAllOffsets_128 : decode cX0_bestOverAllOffsets 128 = .ok (.goto (-60), 3) := by decide +kernel
theorem dX0_bestOverAllOffsets_131 : decode cX0_bestOverAllOffsets 131 = .ok (.iload_n 1, 1) := by decide +kernel
theorem dX0_bestOverAllOffsets_132 : decode cX0_bestOverAllOffsets 132 = .ok (.ireturn, 1) := by decide +kernel
theorem dX1_init_0 : decode cX1_init 0 = .ok (.aload_n 0, 1) := by decide +kernel
theorem dX1_init_1 : decode cX1_init 1 = .ok (.invokespecial 3, 3) := by decide +kernel
theorem dX1_init_4 : decode cX1_init 4 = .ok (.aload_n 0, 1) := by decide +kernel
theorem dX1_init_5 : decode cX1_init 5 = .ok (.iconst 5, 1) := by decide +kernel
theorem dX1_init_6 : decode cX1_init 6 = .ok (.anewarray 9, 3) := by decide +kernel
theorem dX1_init_9 : decode cX1_init 9 = .ok (.putfield 11, 3) := by decide +kernel
theorem dX1_init_12 : decode cX1_init 12 = .ok (.iconst 0, 1) := by decide +kernel
theorem dX1_init_13 : decode cX1_init 13 = .ok (.istore_n 1, 1) := by decide +kernel
theorem dX1_init_14 : decode cX1_init 14 = .ok (.iload_n 1, 1) := by decide +kernel
theorem dX1_init_15 : decode cX1_init 15 = .ok (.aload_n 0, 1) := by decide +kernel
theorem dX1_init_16 : decode cX1_init 16 = .ok (.getfield 11, 3) := by decide +kernel
theorem dX1_init_19 : decode cX1_init 19 = .ok (.arraylength, 1) := by decide +kernel
theorem dX1_init_20 : decode cX1_init 20 = .ok (.if_icmp .ge 22, 3) := by decide +kernel
theorem dX1_init_23 : decode cX1_init 23 = .ok (.aload_n 0, 1) := by decide +kernel
theorem dX1_init_24 : decode cX1_init 24 = .ok (.getfield 11, 3) := by decide +kernel
theorem dX1_init_27 : decode cX1_init 27 = .ok (.iload_n 1, 1) := by decide +kernel
theorem dX1_init_28 : decode cX1_init 28 = .ok (.new 9, 3) := by decide +kernel
theorem dX1_init_31 : decode cX1_init 31 = .ok (.dup, 1) := by decide +kernel
theorem dX1_init_32 : decode cX1_init 32 = .ok (.invokespecial 17, 3) := by decide +kernel
theorem dX1_init_35 : decode cX1_init 35 = .ok (.aastore, 1) := by decide +kernel
theorem dX1_init_36 : decode cX1_init 36 = .ok (.iinc 1 1, 3) := by decide +kernel
theorem dX1_init_39 : decode cX1_init 39 = .ok (.goto (-25), 3) := by decide +kernel
theorem dX1_init_42 : decode cX1_init 42 = .ok (.return_, 1) := by decide +kernel
theorem dX1_reset_0 : decode cX1_reset 0 = .ok (.aload_n 0, 1) := by decide +kernel
theorem dX1_reset_1 : decode cX1_reset 1 = .ok (.iload_n 1, 1) := by decide +kernel
theorem dX1_reset_2 : decode cX1_reset 2 = .ok (.putfield 18, 3) := by decide +kernel
theorem dX1_reset_5 : decode cX1_reset 5 = .ok (.aload_n 0, 1) := by decide +kernel
theorem dX1_reset_6 : decode cX1_reset 6 = .ok (.iload_n 2, 1) := by decide +kernel
theorem dX1_reset_7 : decode cX1_reset 7 = .ok (.putfield 22, 3) := by decide +kernel
theorem dX1_reset_10 : decode cX1_reset 10 = .ok (.iconst 0, 1) := by decide +kernel
theorem dX1_reset_11 : decode cX1_reset 11 = .ok (.istore_n 3, 1) := by decide +kernel
theorem dX1_reset_12 : decode cX1_reset 12 = .ok (.iload_n 3, 1) := by decide +kernel
theorem dX1_reset_13 : decode cX1_reset 13 = .ok (.aload_n 0, 1) := by decide +kernel
theorem dX1_reset_14 : decode cX1_reset 14 = .ok (.getfield 18, 3) := by decide +kernel
theorem dX1_reset_17 : decode cX1_reset 17 = .ok (.if_icmp .ge 18, 3) := by decide +kernel
theorem dX1_reset_20 : decode cX1_reset 20 = .ok (.aload_n 0, 1) := by decide +kernel
theorem dX1_reset_21 : decode cX1_reset 21 = .ok (.iload_n 3, 1) := by decide +kernel
theorem dX1_reset_22 : decode cX1_reset 22 = .ok (.invokevirtual 25, 3) := by decide +kernel
theorem dX1_reset_25 : decode cX1_reset 25 = .ok (.iload_n 2, 1) := by decide +kernel
theorem dX1_reset_26 : decode cX1_reset 26 = .ok (.invokevirtual 29, 3) := by decide +kernel
theorem dX1_reset_29 : decode cX1_reset 29 = .ok (.iinc 3 1, 3) := by decide +kernel
theorem dX1_reset_32 : decode cX1_reset 32 = .ok (.goto (-20), 3) := by decide +kernel
theorem dX1_reset_35 : decode cX1_reset 35 = .ok (.return_, 1) := by decide +kernel
theorem dX1_at_0 : decode cX1_at 0 = .ok (.iload_n 1, 1) := by decide +kernel
theorem dX1_at_1 : decode cX1_at 1 = .ok (.ifCond .lt 29, 3) := by decide +kernel
theorem dX1_at_4 : decode cX1_at 4 = .ok (.iload_n 1, 1) := by decide +kernel
theorem dX1_at_5 : decode cX1_at 5 = .ok (.aload_n 0, 1) := by decide +kernel
theorem dX1_at_6 : decode cX1_at 6 = .ok (.getfield 18, 3) := by decide +kernel
theorem dX1_at_9 : decode cX1_at 9 = .ok (.if_icmp .ge 21, 3) := by decide +kernel
theorem dX1_at_12 : decode cX1_at 12 = .ok (.iload_n 1, 1) := by decide +kernel
theorem dX1_at_13 : decode cX1_at 13 = .ok (.aload_n 0, 1) := by decide +kernel
theorem dX1_at_14 : decode cX1_at 14 = .ok (.getfield 11, 3) := by decide +kernel
theorem dX1_at_17 : decode cX1_at 17 = .ok (.arraylength, 1) := by decide +kernel
theorem dX1_at_18 : decode cX1_at 18 = .ok (.if_icmp .ge 12, 3) := by decide +kernel
theorem dX1_at_21 : decode cX1_at 21 = .ok (.aload_n 0, 1) := by decide +kernel
theorem dX1_at_22 : decode cX1_at 22 = .ok (.getfield 11, 3) := by decide +kernel
theorem dX1_at_25 : decode cX1_at 25 = .ok (.iload_n 1, 1) := by decide +kernel
theorem dX1_at_26 : decode cX1_at 26 = .ok (.aaload, 1) := by decide +kernel
theorem dX1_at_27 : decode cX1_at 27 = .ok (.ifnonnull 13, 3) := by decide +kernel
theorem dX1_at_30 : decode cX1_at 30 = .ok (.new 33, 3) := by decide +kernel
theorem dX1_at_33 : decode cX1_at 33 = .ok (.dup, 1) := by decide +kernel
theorem dX1_at_34 : decode cX1_at 34 = .ok (.ldc 35, 2) := by decide +kernel
theorem dX1_at_36 : decode cX1_at 36 = .ok (.invokespecial 37, 3) := by decide +kernel
theorem dX1_at_39 : decode cX1_at 39 = .ok (.athrow, 1) := by decide +kernel
theorem dX1_at_40 : decode cX1_at 40 = .ok (.aload_n 0, 1) := by decide +kernel
theorem dX1_at_41 : decode cX1_at 41 = .ok (.getfield 11, 3) := by decide +kernel
theorem dX1_at_44 : decode cX1_at 44 = .ok (.iload_n 1, 1) := by decide +kernel
theorem dX1_at_45 : decode cX1_at 45 = .ok (.aaload, 1) := by decide +kernel
theorem dX1_at_46 : decode cX1_at 46 = .ok (.areturn, 1) := by decide +kernel
theorem dX1_isLast_0 : decode cX1_isLast 0 = .ok (.iload_n 1, 1) := by decide +kernel
theorem dX1_isLast_1 : decode cX1_isLast 1 = .ok (.aload_n 0, 1) := by decide +kernel
theorem dX1_isLast_2 : decode cX1_isLast 2 = .ok (.getfield 18, 3) := by decide +kernel
theorem dX1_isLast_5 : decode cX1_isLast 5 = .ok (.iconst 1, 1) := by decide +kernel
theorem dX1_isLast_6 : decode cX1_isLast 6 = .ok (.isub, 1) := by decide +kernel
theorem dX1_isLast_7 : decode cX1_isLast 7 = .ok (.if_icmp .ne 7, 3) := by decide +kernel
theorem dX1_isLast_10 : decode cX1_isLast 10 = .ok (.iconst 1, 1) := by decide +kernel
theorem dX1_isLast_11 : decode cX1_isLast 11 = .ok (.goto 4, 3) := by decide +kernel
theorem dX1_isLast_14 : decode cX1_isLast 14 = .ok (.iconst 0, 1) := by decide +kernel
theorem dX1_isLast_15 : decode cX1_isLast 15 = .ok (.ireturn, 1) := by decide +kernel
theorem dX1_linkFrom_0 : decode cX1_linkFrom 0 = .ok (.aload_n 0, 1) := by decide +kernel
theorem dX1_linkFrom_1 : decode cX1_linkFrom 1 = .ok (.iload_n 1, 1) := by decide +kernel
theorem dX1_linkFrom_2 : decode cX1_linkFrom 2 = .ok (.invokevirtual 25, 3) := by decide +kernel
theorem dX1_linkFrom_5 : decode cX1_linkFrom 5 = .ok (.astore_n 2, 1) := by decide +kernel
theorem dX1_linkFrom_6 : decode cX1_linkFrom 6 = .ok (.aload_n 0, 1) := by decide +kernel
theorem dX1_linkFrom_7 : decode cX1_linkFrom 7 = .ok (.iload_n 1, 1) := by decide +kernel
theorem dX1_linkFrom_8 : decode cX1_linkFrom 8 = .ok (.invokevirtual 40, 3) := by decide +kernel
theorem dX1_linkFrom_11 : decode cX1_linkFrom 11 = .ok (.ifCond .eq 13, 3) := by decide +kernel
theorem dX1_linkFrom_14 : decode cX1_linkFrom 14 = .ok (.new 33, 3) := by decide +kernel
theorem dX1_linkFrom_17 : decode cX1_linkFrom 17 = .ok (.dup, 1) := by decide +kernel
theorem dX1_linkFrom_18 : decode cX1_linkFrom 18 = .ok (.ldc 44, 2) := by decide +kernel
theorem dX1_linkFrom_20 : decode cX1_linkFrom 20 = .ok (.invokespecial 37, 3) := by decide +kernel
theorem dX1_linkFrom_23 : decode cX1_linkFrom 23 = .ok (.athrow, 1) := by decide +kernel
theorem dX1_linkFrom_24 : decode cX1_linkFrom 24 = .ok (.aload_n 2, 1) := by decide +kernel
theorem dX1_linkFrom_25 : decode cX1_linkFrom 25 = .ok (.getfield 46, 3) := by decide +kernel
theorem dX1_linkFrom_28 : decode cX1_linkFrom 28 = .ok (.areturn, 1) := by decide +kernel
theorem dX1_vehiclesOnLinkFrom_0 : decode cX1_vehiclesOnLinkFrom 0 = .ok (.aload_n 0, 1) := by decide +kernel
theorem dX1_vehiclesOnLinkFrom_1 : decode cX1_vehiclesOnLinkFrom 1 = .ok (.iload_n 1, 1) := by decide +kernel
theorem dX1_vehiclesOnLinkFrom_2 : decode cX1_vehiclesOnLinkFrom 2 = .ok (.invokevirtual 50, 3) := by decide +kernel
theorem dX1_vehiclesOnLinkFrom_5 : decode cX1_vehiclesOnLinkFrom 5 = .ok (.getfield 54, 3) := by decide +kernel
theorem dX1_vehiclesOnLinkFrom_8 : decode cX1_vehiclesOnLinkFrom 8 = .ok (.aload_n 0, 1) := by decide +kernel
theorem dX1_vehiclesOnLinkFrom_9 : decode cX1_vehiclesOnLinkFrom 9 = .ok (.iload_n 1, 1) := by decide +kernel
theorem dX1_vehiclesOnLinkFrom_10 : decode cX1_vehiclesOnLinkFrom 10 = .ok (.iconst 1, 1) := by decide +kernel
theorem dX1_vehiclesOnLinkFrom_11 : decode cX1_vehiclesOnLinkFrom 11 = .ok (.iadd, 1) := by decide +kernel
theorem dX1_vehiclesOnLinkFrom_12 : decode cX1_vehiclesOnLinkFrom 12 = .ok (.invokevirtual 25, 3) := by decide +kernel
theorem dX1_vehiclesOnLinkFrom_15 : decode cX1_vehiclesOnLinkFrom 15 = .ok (.getfield 59, 3) := by decide +kernel
theorem dX1_vehiclesOnLinkFrom_18 : decode cX1_vehiclesOnLinkFrom 18 = .ok (.iadd, 1) := by decide +kernel
theorem dX1_vehiclesOnLinkFrom_19 : decode cX1_vehiclesOnLinkFrom 19 = .ok (.ireturn, 1) := by decide +kernel
theorem dX1_secondsBetween_0 : decode cX1_secondsBetween 0 = .ok (.iconst 0, 1) := by decide +kernel
theorem dX1_secondsBetween_1 : decode cX1_secondsBetween 1 = .ok (.istore_n 3, 1) := by decide +kernel
theorem dX1_secondsBetween_2 : decode cX1_secondsBetween 2 = .ok (.iload_n 1, 1) := by decide +kernel
theorem dX1_secondsBetween_3 : decode cX1_secondsBetween 3 = .ok (.istore 4, 2) := by decide +kernel
theorem dX1_secondsBetween_5 : decode cX1_secondsBetween 5 = .ok (.iload 4, 2) := by decide +kernel
theorem dX1_secondsBetween_7 : decode cX1_secondsBetween 7 = .ok (.iload_n 2, 1) := by decide +kernel
theorem dX1_secondsBetween_8 : decode cX1_secondsBetween 8 = .ok (.if_icmp .ge 24, 3) := by decide +kernel
theorem dX1_secondsBetween_11 : decode cX1_secondsBetween 11 = .ok (.iload_n 3, 1) := by decide +kernel
theorem dX1_secondsBetween_12 : decode cX1_secondsBetween 12 = .ok (.aload_n 0, 1) := by decide +kernel
theorem dX1_secondsBetween_13 : decode cX1_secondsBetween 13 = .ok (.iload 4, 2) := by decide +kernel
theorem dX1_secondsBetween_15 : decode cX1_secondsBetween 15 = .ok (.invokevirtual 25, 3) := by decide +kernel
theorem dX1_secondsBetween_18 : decode cX1_secondsBetween 18 = .ok (.getfield 46, 3) := by decide +kernel
theorem dX1_secondsBetween_21 : decode cX1_secondsBetween 21 = .ok (.getfield 62, 3) := by decide +kernel
theorem dX1_secondsBetween_24 : decode cX1_secondsBetween 24 = .ok (.iadd, 1) := by decide +kernel
theorem dX1_secondsBetween_25 : decode cX1_secondsBetween 25 = .ok (.istore_n 3, 1) := by decide +kernel
theorem dX1_secondsBetween_26 : decode cX1_secondsBetween 26 = .ok (.iinc 4 1, 3) := by decide +kernel
theorem dX1_secondsBetween_29 : decode cX1_secondsBetween 29 = .ok (.goto (-24), 3) := by decide +kernel
theorem dX1_secondsBetween_32 : decode cX1_secondsBetween 32 = .ok (.iload_n 3, 1) := by decide +kernel
theorem dX1_secondsBetween_33 : decode cX1_secondsBetween 33 = .ok (.ireturn, 1) := by decide +kernel
theorem dX1_isPlanned_0 : decode cX1_isPlanned 0 = .ok (.iconst 0, 1) := by decide +kernel
theorem dX1_isPlanned_1 : decode cX1_isPlanned 1 = .ok (.istore_n 1, 1) := by decide +kernel
theorem dX1_isPlanned_2 : decode cX1_isPlanned 2 = .ok (.iload_n 1, 1) := by decide +kernel
theorem dX1_isPlanned_3 : decode cX1_isPlanned 3 = .ok (.aload_n 0, 1) := by decide +kernel
theorem dX1_isPlanned_4 : decode cX1_isPlanned 4 = .ok (.getfield 18, 3) := by decide +kernel
theorem dX1_isPlanned_7 : decode cX1_isPlanned 7 = .ok (.if_icmp .ge 22, 3) := by decide +kernel
theorem dX1_isPlanned_10 : decode cX1_isPlanned 10 = .ok (.aload_n 0, 1) := by decide +kernel
theorem dX1_isPlanned_11 : decode cX1_isPlanned 11 = .ok (.iload_n 1, 1) := by decide +kernel
theorem dX1_isPlanned_12 : decode cX1_isPlanned 12 = .ok (.invokevirtual 25, 3) := by decide +kernel
theorem dX1_isPlanned_15 : decode cX1_isPlanned 15 = .ok (.getfield 65, 3) := by decide +kernel
theorem dX1_isPlanned_18 : decode cX1_isPlanned 18 = .ok (.ifCond .ne 5, 3) := by decide +kernel
theorem dX1_isPlanned_21 : decode cX1_isPlanned 21 = .ok (.iconst 0, 1) := by decide +kernel
theorem dX1_isPlanned_22 : decode cX1_isPlanned 22 = .ok (.ireturn, 1) := by decide +kernel
theorem dX1_isPlanned_23 : decode cX1_isPlanned 23 = .ok (.iinc 1 1, 3) := by decide +kernel
theorem dX1_isPlanned_26 : decode cX1_isPlanned 26 = .ok (.goto (-24), 3) := by decide +kernel
theorem dX1_isPlanned_29 : decode cX1_isPlanned 29 = .ok (.iconst 1, 1) := by decide +kernel
theorem dX1_isPlanned_30 : decode cX1_isPlanned 30 = .ok (.ireturn, 1) := by decide +kernel
theorem dX2_init_0 : decode cX2_init 0 = .ok (.aload_n 0, 1) := by decide +kernel
theorem dX2_init_1 : decode cX2_init 1 = .ok (.invokespecial 1, 3) := by decide +kernel
theorem dX2_init_4 : decode cX2_init 4 = .ok (.aload_n 0, 1) := by decide +kernel
theorem dX2_init_5 : decode cX2_init 5 = .ok (.new 7, 3) := by decide +kernel
theorem dX2_init_8 : decode cX2_init 8 = .ok (.dup, 1) := by decide +kernel
theorem dX2_init_9 : decode cX2_init 9 = .ok (.invokespecial 9, 3) := by decide +kernel
theorem dX2_init_12 : decode cX2_init 12 = .ok (.putfield 10, 3) := by decide +kernel
theorem dX2_init_15 : decode cX2_init 15 = .ok (.aload_n 0, 1) := by decide +kernel
theorem dX2_init_16 : decode cX2_init 16 = .ok (.new 7, 3) := by decide +kernel
theorem dX2_init_19 : decode cX2_init 19 = .ok (.dup, 1) := by decide +kernel
theorem dX2_init_20 : decode cX2_init 20 = .ok (.invokespecial 9, 3) := by decide +kernel
theorem dX2_init_23 : decode cX2_init 23 = .ok (.putfield 16, 3) := by decide +kernel
theorem dX2_init_26 : decode cX2_init 26 = .ok (.return_, 1) := by decide +kernel
theorem dX2_clear_0 : decode cX2_clear 0 = .ok (.aload_n 0, 1) := by decide +kernel
theorem dX2_clear_1 : decode cX2_clear 1 = .ok (.getfield 10, 3) := by decide +kernel
theorem dX2_clear_4 : decode cX2_clear 4 = .ok (.invokevirtual 19, 3) := by decide +kernel
theorem dX2_clear_7 : decode cX2_clear 7 = .ok (.aload_n 0, 1) := by decide +kernel
theorem dX2_clear_8 : decode cX2_clear 8 = .ok (.getfield 16, 3) := by decide +kernel
theorem dX2_clear_11 : decode cX2_clear 11 = .ok (.invokevirtual 19, 3) := by decide +kernel
theorem dX2_clear_14 : decode cX2_clear 14 = .ok (.return_, 1) := by decide +kernel
theorem dX2_addAll_0 : decode cX2_addAll 0 = .ok (.iconst 0, 1) := by decide +kernel
theorem dX2_addAll_1 : decode cX2_addAll 1 = .ok (.istore_n 2, 1) := by decide +kernel
theorem dX2_addAll_2 : decode cX2_addAll 2 = .ok (.iload_n 2, 1) := by decide +kernel
theorem dX2_addAll_3 : decode cX2_addAll 3 = .ok (.iload_n 1, 1) := by decide +kernel
theorem dX2_addAll_4 : decode cX2_addAll 4 = .ok (.if_icmp .ge 25, 3) := by decide +kernel
theorem dX2_addAll_7 : decode cX2_addAll 7 = .ok (.aload_n 0, 1) := by decide +kernel
theorem dX2_addAll_8 : decode cX2_addAll 8 = .ok (.getfield 10, 3) := by decide +kernel
theorem dX2_addAll_11 : decode cX2_addAll 11 = .ok (.iload_n 2, 1) := by decide +kernel
theorem dX2_addAll_12 : decode cX2_addAll 12 = .ok (.invokevirtual 22, 3) := by decide +kernel
theorem dX2_addAll_15 : decode cX2_addAll 15 = .ok (.aload_n 0, 1) := by decide +kernel
theorem dX2_addAll_16 : decode cX2_addAll 16 = .ok (.getfield 16, 3) := by decide +kernel
theorem dX2_addAll_19 : decode cX2_addAll 19 = .ok (.iload_n 2, 1) := by decide +kernel
theorem dX2_addAll_20 : decode cX2_addAll 20 = .ok (.invokevirtual 22, 3) := by decide +kernel
theorem dX2_addAll_23 : decode cX2_addAll 23 = .ok (.iinc 2 1, 3) := by decide +kernel
theorem dX2_addAll_26 : decode cX2_addAll 26 = .ok (.goto (-24), 3) := by decide +kernel
theorem dX2_addAll_29 : decode cX2_addAll 29 = .ok (.return_, 1) := by decide +kernel
theorem dX2_becomeCommon_0 : decode cX2_becomeCommon 0 = .ok (.aload_n 0, 1) := by decide +kernel
theorem dX2_becomeCommon_1 : decode cX2_becomeCommon 1 = .ok (.getfield 10, 3) := by decide +kernel
theorem dX2_becomeCommon_4 : decode cX2_becomeCommon 4 = .ok (.aload_n 1, 1) := by decide +kernel
theorem dX2_becomeCommon_5 : decode cX2_becomeCommon 5 = .ok (.getfield 10, 3) := by decide +kernel
theorem dX2_becomeCommon_8 : decode cX2_becomeCommon 8 = .ok (.aload_n 2, 1) := by decide +kernel
theorem dX2_becomeCommon_9 : decode cX2_becomeCommon 9 = .ok (.getfield 10, 3) := by decide +kernel
theorem dX2_becomeCommon_12 : decode cX2_becomeCommon 12 = .ok (.invokevirtual 26, 3) := by decide +kernel
theorem dX2_becomeCommon_15 : decode cX2_becomeCommon 15 = .ok (.aload_n 0, 1) := by decide +kernel
theorem dX2_becomeCommon_16 : decode cX2_becomeCommon 16 = .ok (.getfield 16, 3) := by decide +kernel
theorem dX2_becomeCommon_19 : decode cX2_becomeCommon 19 = .ok (.aload_n 1, 1) := by decide +kernel
theorem dX2_becomeCommon_20 : decode cX2_becomeCommon 20 = .ok (.getfield 16, 3) := by decide +kernel
theorem dX2_becomeCommon_23 : decode cX2_becomeCommon 23 = .ok (.aload_n 2, 1) := by decide +kernel
theorem dX2_becomeCommon_24 : decode cX2_becomeCommon 24 = .ok (.getfield 16, 3) := by decide +kernel
theorem dX2_becomeCommon_27 : decode cX2_becomeCommon 27 = .ok (.invokevirtual 26, 3) := by decide +kernel
theorem dX2_becomeCommon_30 : decode cX2_becomeCommon 30 = .ok (.return_, 1) := by decide +kernel
theorem dX2_countCommon_0 : decode cX2_countCommon 0 = .ok (.aload_n 0, 1) := by decide +kernel
theorem dX2_countCommon_1 : decode cX2_countCommon 1 = .ok (.getfield 10, 3) := by decide +kernel
theorem dX2_countCommon_4 : decode cX2_countCommon 4 = .ok (.aload_n 1, 1) := by decide +kernel
theorem dX2_countCommon_5 : decode cX2_countCommon 5 = .ok (.getfield 10, 3) := by decide +kernel
theorem dX2_countCommon_8 : decode cX2_countCommon 8 = .ok (.invokevirtual 30, 3) := by decide +kernel
theorem dX2_countCommon_11 : decode cX2_countCommon 11 = .ok (.aload_n 0, 1) := by decide +kernel
theorem dX2_countCommon_12 : decode cX2_countCommon 12 = .ok (.getfield 16, 3) := by decide +kernel
theorem dX2_countCommon_15 : decode cX2_countCommon 15 = .ok (.aload_n 1, 1) := by decide +kernel
theorem dX2_countCommon_16 : decode cX2_countCommon 16 = .ok (.getfield 16, 3) := by decide +kernel
theorem dX2_countCommon_19 : decode cX2_countCommon 19 = .ok (.invokevirtual 30, 3) := by decide +kernel
theorem dX2_countCommon_22 : decode cX2_countCommon 22 = .ok (.iadd, 1) := by decide +kernel
theorem dX2_countCommon_23 : decode cX2_countCommon 23 = .ok (.ireturn, 1) := by decide +kernel
theorem dX2_turn_0 : decode cX2_turn 0 = .ok (.aload_n 0, 1) := by decide +kernel
theorem dX2_turn_1 : decode cX2_turn 1 = .ok (.getfield 10, 3) := by decide +kernel
theorem dX2_turn_4 : decode cX2_turn 4 = .ok (.iload_n 1, 1) := by decide +kernel
theorem dX2_turn_5 : decode cX2_turn 5 = .ok (.invokevirtual 34, 3) := by decide +kernel
theorem dX2_turn_8 : decode cX2_turn 8 = .ok (.aload_n 0, 1) := by decide +kernel
theorem dX2_turn_9 : decode cX2_turn 9 = .ok (.getfield 16, 3) := by decide +kernel
theorem dX2_turn_12 : decode cX2_turn 12 = .ok (.iload_n 1, 1) := by decide +kernel
theorem dX2_turn_13 : decode cX2_turn 13 = .ok (.invokevirtual 34, 3) := by decide +kernel
theorem dX2_turn_16 : decode cX2_turn 16 = .ok (.return_, 1) := by decide +kernel
theorem dX3_init_0 : decode cX3_init 0 = .ok (.aload_n 0, 1) := by decide +kernel
theorem dX3_init_1 : decode cX3_init 1 = .ok (.invokespecial 3, 3) := by decide +kernel
theorem dX3_init_4 : decode cX3_init 4 = .ok (.aload_n 0, 1) := by decide +kernel
theorem dX3_init_5 : decode cX3_init 5 = .ok (.bipush 16, 2) := by decide +kernel
theorem dX3_init_7 : decode cX3_init 7 = .ok (.newarray .int, 2) := by decide +kernel
theorem dX3_init_9 : decode cX3_init 9 = .ok (.putfield 9, 3) := by decide +kernel
theorem dX3_init_12 : decode cX3_init 12 = .ok (.aload_n 0, 1) := by decide +kernel
theorem dX3_init_13 : decode cX3_init 13 = .ok (.iconst 4, 1) := by decide +kernel
theorem dX3_init_14 : decode cX3_init 14 = .ok (.newarray .int, 2) := by decide +kernel
theorem dX3_init_16 : decode cX3_init 16 = .ok (.putfield 15, 3) := by decide +kernel
theorem dX3_init_19 : decode cX3_init 19 = .ok (.aload_n 0, 1) := by decide +kernel
theorem dX3_init_20 : decode cX3_init 20 = .ok (.iconst 4, 1) := by decide +kernel
theorem dX3_init_21 : decode cX3_init 21 = .ok (.newarray .int, 2) := by decide +kernel
theorem dX3_init_23 : decode cX3_init 23 = .ok (.putfield 18, 3) := by decide +kernel
theorem dX3_init_26 : decode cX3_init 26 = .ok (.aload_n 0, 1) := by decide +kernel
theorem dX3_init_27 : decode cX3_init 27 = .ok (.iconst 4, 1) := by decide +kernel
theorem dX3_init_28 : decode cX3_init 28 = .ok (.newarray .int, 2) := by decide +kernel
theorem dX3_init_30 : decode cX3_init 30 = .ok (.putfield 21, 3) := by decide +kernel
theorem dX3_init_33 : decode cX3_init 33 = .ok (.aload_n 0, 1) := by decide +kernel
theorem dX3_init_34 : decode cX3_init 34 = .ok (.iconst 4, 1) := by decide +kernel
theorem dX3_init_35 : decode cX3_init 35 = .ok (.newarray .int, 2) := by decide +kernel
theorem dX3_init_37 : decode cX3_init 37 = .ok (.putfield 24, 3) := by decide +kernel
theorem dX3_init_40 : decode cX3_init 40 = .ok (.aload_n 0, 1) := by decide +kernel
theorem dX3_init_41 : decode cX3_init 41 = .ok (.bipush 90, 2) := by decide +kernel
theorem dX3_init_43 : decode cX3_init 43 = .ok (.newarray .int, 2) := by decide +kernel
theorem dX3_init_45 : decode cX3_init 45 = .ok (.putfield 27, 3) := by decide +kernel
theorem dX3_init_48 : decode cX3_init 48 = .ok (.aload_n 0, 1) := by decide +kernel
theorem dX3_init_49 : decode cX3_init 49 = .ok (.new 30, 3) := by decide +kernel
theorem dX3_init_52 : decode cX3_init 52 = .ok (.dup, 1) := by decide +kernel
theorem dX3_init_53 : decode cX3_init 53 = .ok (.invokespecial 32, 3) := by decide +kernel
theorem dX3_init_56 : decode cX3_init 56 = .ok (.putfield 33, 3) := by decide +kernel
theorem dX3_init_59 : decode cX3_init 59 = .ok (.return_, 1) := by decide +kernel
theorem dX3_reset_0 : decode cX3_reset 0 = .ok (.aload_n 0, 1) := by decide +kernel
theorem dX3_reset_1 : decode cX3_reset 1 = .ok (.iload_n 1, 1) := by decide +kernel
theorem dX3_reset_2 : decode cX3_reset 2 = .ok (.putfield 37, 3) := by decide +kernel
theorem dX3_reset_5 : decode cX3_reset 5 = .ok (.aload_n 0, 1) := by decide +kernel
theorem dX3_reset_6 : decode cX3_reset 6 = .ok (.iconst 0, 1) := by decide +kernel
theorem dX3_reset_7 : decode cX3_reset 7 = .ok (.putfield 41, 3) := by decide +kernel
theorem dX3_reset_10 : decode cX3_reset 10 = .ok (.aload_n 0, 1) := by decide +kernel
theorem dX3_reset_11 : decode cX3_reset 11 = .ok (.iconst 0, 1) := by decide +kernel
theorem dX3_reset_12 : decode cX3_reset 12 = .ok (.putfield 44, 3) := by decide +kernel
theorem dX3_reset_15 : decode cX3_reset 15 = .ok (.aload_n 0, 1) := by decide +kernel
theorem dX3_reset_16 : decode cX3_reset 16 = .ok (.iconst 0, 1) := by decide +kernel
theorem dX3_reset_17 : decode cX3_reset 17 = .ok (.putfield 47, 3) := by decide +kernel
theorem dX3_reset_20 : decode cX3_reset 20 = .ok (.aload_n 0, 1) := by decide +kernel
theorem dX3_reset_21 : decode cX3_reset 21 = .ok (.iconst 0, 1) := by decide +kernel
theorem dX3_reset_22 : decode cX3_reset 22 = .ok (.putfield 50, 3) := by decide +kernel
theorem dX3_reset_25 : decode cX3_reset 25 = .ok (.aload_n 0, 1) := by decide +kernel
theorem dX3_reset_26 : decode cX3_reset 26 = .ok (.iconst (-1), 1) := by decide +kernel
theorem dX3_reset_27 : decode cX3_reset 27 = .ok (.putfield 53, 3) := by decide +kernel
theorem dX3_reset_30 : decode cX3_reset 30 = .ok (.aload_n 0, 1) := by decide +kernel
theorem dX3_reset_31 : decode cX3_reset 31 = .ok (.iconst (-1), 1) := by decide +kernel
theorem dX3_reset_32 : decode cX3_reset 32 = .ok (.putfield 56, 3) := by decide +kernel
theorem dX3_reset_35 : decode cX3_reset 35 = .ok (.aload_n 0, 1) := by decide +kernel
theorem dX3_reset_36 : decode cX3_reset 36 = .ok (.iconst 0, 1) := by decide +kernel
theorem dX3_reset_37 : decode cX3_reset 37 = .ok (.putfield 59, 3) := by decide +kernel
theorem dX3_reset_40 : decode cX3_reset 40 = .ok (.aload_n 0, 1) := by decide +kernel
theorem dX3_reset_41 : decode cX3_reset 41 = .ok (.getfield 33, 3) := by decide +kernel
theorem dX3_reset_44 : decode cX3_reset 44 = .ok (.invokevirtual 62, 3) := by decide +kernel
theorem dX3_reset_47 : decode cX3_reset 47 = .ok (.aload_n 0, 1) := by decide +kernel
theorem dX3_reset_48 : decode cX3_reset 48 = .ok (.getfield 18, 3) := by decide +kernel
theorem dX3_reset_51 : decode cX3_reset 51 = .ok (.iconst 0, 1) := by decide +kernel
theorem dX3_reset_52 : decode cX3_reset 52 = .ok (.invokestatic 65, 3) := by decide +kernel
theorem dX3_reset_55 : decode cX3_reset 55 = .ok (.aload_n 0, 1) := by decide +kernel
theorem dX3_reset_56 : decode cX3_reset 56 = .ok (.getfield 9, 3) := by decide +kernel
theorem dX3_reset_59 : decode cX3_reset 59 = .ok (.iconst (-1), 1) := by decide +kernel
theorem dX3_reset_60 : decode cX3_reset 60 = .ok (.invokestatic 65, 3) := by decide +kernel
theorem dX3_reset_63 : decode cX3_reset 63 = .ok (.aload_n 0, 1) := by decide +kernel
theorem dX3_reset_64 : decode cX3_reset 64 = .ok (.iconst 0, 1) := by decide +kernel
theorem dX3_reset_65 : decode cX3_reset 65 = .ok (.iconst 2, 1) := by decide +kernel
theorem dX3_reset_66 : decode cX3_reset 66 = .ok (.iconst 3, 1) := by decide +kernel
theorem dX3_reset_67 : decode cX3_reset 67 = .ok (.invokevirtual 71, 3) := by decide +kernel
theorem dX3_reset_70 : decode cX3_reset 70 = .ok (.aload_n 0, 1) := by decide +kernel
theorem dX3_reset_71 : decode cX3_reset 71 = .ok (.iconst 0, 1) := by decide +kernel
theorem dX3_reset_72 : decode cX3_reset 72 = .ok (.iconst 3, 1) := by decide +kernel
theorem dX3_reset_73 : decode cX3_reset 73 = .ok (.iconst 3, 1) := by decide +kernel
theorem dX3_reset_74 : decode cX3_reset 74 = .ok (.invokevirtual 71, 3) := by decide +kernel
theorem dX3_reset_77 : decode cX3_reset 77 = .ok (.aload_n 0, 1) := by decide +kernel
theorem dX3_reset_78 : decode cX3_reset 78 = .ok (.iconst 1, 1) := by decide +kernel
theorem dX3_reset_79 : decode cX3_reset 79 = .ok (.iconst 2, 1) := by decide +kernel
theorem dX3_reset_80 : decode cX3_reset 80 = .ok (.iconst 3, 1) := by decide +kernel
theorem dX3_reset_81 : decode cX3_reset 81 = .ok (.invokevirtual 71, 3) := by decide +kernel
theorem dX3_reset_84 : decode cX3_reset 84 = .ok (.aload_n 0, 1) := by decide +kernel
theorem dX3_reset_85 : decode cX3_reset 85 = .ok (.iconst 1, 1) := by decide +kernel
theorem dX3_reset_86 : decode cX3_reset 86 = .ok (.iconst 3, 1) := by decide +kernel
theorem dX3_reset_87 : decode cX3_reset 87 = .ok (.iconst 3, 1) := by decide +kernel
theorem dX3_reset_88 : decode cX3_reset 88 = .ok (.invokevirtual 71, 3) := by decide +kernel
theorem dX3_reset_91 : decode cX3_reset 91 = .ok (.aload_n 0, 1) := by decide +kernel
theorem dX3_reset_92 : decode cX3_reset 92 = .ok (.iconst 3, 1) := by decide +kernel
theorem dX3_reset_93 : decode cX3_reset 93 = .ok (.bipush 12, 2) := by decide +kernel
theorem dX3_reset_95 : decode cX3_reset 95 = .ok (.iconst 0, 1) := by decide +kernel
theorem dX3_reset_96 : decode cX3_reset 96 = .ok (.iconst 0, 1) := by decide +kernel
theorem dX3_reset_97 : decode cX3_reset 97 = .ok (.invokevirtual 75, 3) := by decide +kernel
theorem dX3_reset_100 : decode cX3_reset 100 = .ok (.aload_n 0, 1) := by decide +kernel
theorem dX3_reset_101 : decode cX3_reset 101 = .ok (.invokevirtual 79, 3) := by decide +kernel
theorem dX3_reset_104 : decode cX3_reset 104 = .ok (.return_, 1) := by decide +kernel
theorem dX3_clearanceOf_0 : decode cX3_clearanceOf 0 = .ok (.aload_n 0, 1) := by decide +kernel
theorem dX3_clearanceOf_1 : decode cX3_clearanceOf 1 = .ok (.getfield 9, 3) := by decide +kernel
theorem dX3_clearanceOf_4 : decode cX3_clearanceOf 4 = .ok (.iload_n 1, 1) := by decide +kernel
theorem dX3_clearanceOf_5 : decode cX3_clearanceOf 5 = .ok (.iconst 4, 1) := by decide +kernel
theorem dX3_clearanceOf_6 : decode cX3_clearanceOf 6 = .ok (.imul, 1) := by decide +kernel
theorem dX3_clearanceOf_7 : decode cX3_clearanceOf 7 = .ok (.iload_n 2, 1) := by decide +kernel
theorem dX3_clearanceOf_8 : decode cX3_clearanceOf 8 = .ok (.iadd, 1) := by decide +kernel
theorem dX3_clearanceOf_9 : decode cX3_clearanceOf 9 = .ok (.invokestatic 82, 3) := by decide +kernel
theorem dX3_clearanceOf_12 : decode cX3_clearanceOf 12 = .ok (.ireturn, 1) := by decide +kernel
theorem dX3_writeClearance_0 : decode cX3_writeClearance 0 = .ok (.aload_n 0, 1) := by decide +kernel
theorem dX3_writeClearance_1 : decode cX3_writeClearance 1 = .ok (.getfield 9, 3) := by decide +kernel
theorem dX3_writeClearance_4 : decode cX3_writeClearance 4 = .ok (.iload_n 1, 1) := by decide +kernel
theorem dX3_writeClearance_5 : decode cX3_writeClearance 5 = .ok (.iconst 4, 1) := by decide +kernel
theorem dX3_writeClearance_6 : decode cX3_writeClearance 6 = .ok (.imul, 1) := by decide +kernel
theorem dX3_writeClearance_7 : decode cX3_writeClearance 7 = .ok (.iload_n 2, 1) := by decide +kernel
theorem dX3_writeClearance_8 : decode cX3_writeClearance 8 = .ok (.iadd, 1) := by decide +kernel
theorem dX3_writeClearance_9 : decode cX3_writeClearance 9 = .ok (.iload_n 3, 1) := by decide +kernel
theorem dX3_writeClearance_10 : decode cX3_writeClearance 10 = .ok (.invokestatic 86, 3) := by decide +kernel
theorem dX3_writeClearance_13 : decode cX3_writeClearance 13 = .ok (.aload_n 0, 1) := by decide +kernel
theorem dX3_writeClearance_14 : decode cX3_writeClearance 14 = .ok (.getfield 9, 3) := by decide +kernel
theorem dX3_writeClearance_17 : decode cX3_writeClearance 17 = .ok (.iload_n 2, 1) := by decide +kernel
theorem dX3_writeClearance_18 : decode cX3_writeClearance 18 = .ok (.iconst 4, 1) := by decide +kernel
theorem dX3_writeClearance_19 : decode cX3_writeClearance 19 = .ok (.imul, 1) := by decide +kernel
theorem dX3_writeClearance_20 : decode cX3_writeClearance 20 = .ok (.iload_n 1, 1) := by decide +kernel
theorem dX3_writeClearance_21 : decode cX3_writeClearance 21 = .ok (.iadd, 1) := by decide +kernel
theorem dX3_writeClearance_22 : decode cX3_writeClearance 22 = .ok (.iload_n 3, 1) := by decide +kernel
theorem dX3_writeClearance_23 : decode cX3_writeClearance 23 = .ok (.invokestatic 86, 3) := by decide +kernel
theorem dX3_writeClearance_26 : decode cX3_writeClearance 26 = .ok (.return_, 1) := by decide +kernel
theorem dX3_changeClearance_0 : decode cX3_changeClearance 0 = .ok (.aload_n 0, 1) := by decide +kernel
theorem dX3_changeClearance_1 : decode cX3_changeClearance 1 = .ok (.iload_n 1, 1) := by decide +kernel
theorem dX3_changeClearance_2 : decode cX3_changeClearance 2 = .ok (.iload_n 2, 1) := by decide +kernel
theorem dX3_changeClearance_3 : decode cX3_changeClearance 3 = .ok (.iload_n 3, 1) := by decide +kernel
theorem dX3_changeClearance_4 : decode cX3_changeClearance 4 = .ok (.invokevirtual 71, 3) := by decide +kernel
theorem dX3_changeClearance_7 : decode cX3_changeClearance 7 = .ok (.aload_n 0, 1) := by decide +kernel
theorem dX3_changeClearance_8 : decode cX3_changeClearance 8 = .ok (.invokevirtual 79, 3) := by decide +kernel
theorem dX3_changeClearance_11 : decode cX3_changeClearance 11 = .ok (.return_, 1) := by decide +kernel
theorem dX3_writeSets_0 : decode cX3_writeSets 0 = .ok (.aload_n 0, 1) := by decide +kernel
theorem dX3_writeSets_1 : decode cX3_writeSets 1 = .ok (.getfield 15, 3) := by decide +kernel
theorem dX3_writeSets_4 : decode cX3_writeSets 4 = .ok (.iconst 0, 1) := by decide +kernel
theorem dX3_writeSets_5 : decode cX3_writeSets 5 = .ok (.iload_n 1, 1) := by decide +kernel
theorem dX3_writeSets_6 : decode cX3_writeSets 6 = .ok (.invokestatic 86, 3) := by decide +kernel
theorem dX3_writeSets_9 : decode cX3_writeSets 9 = .ok (.aload_n 0, 1) := by decide +kernel
theorem dX3_writeSets_10 : decode cX3_writeSets 10 = .ok (.getfield 15, 3) := by decide +kernel
theorem dX3_writeSets_13 : decode cX3_writeSets 13 = .ok (.iconst 1, 1) := by decide +kernel
theorem dX3_writeSets_14 : decode cX3_writeSets 14 = .ok (.iload_n 2, 1) := by decide +kernel
theorem dX3_writeSets_15 : decode cX3_writeSets 15 = .ok (.invokestatic 86, 3) := by decide +kernel
theorem dX3_writeSets_18 : decode cX3_writeSets 18 = .ok (.aload_n 0, 1) := by decide +kernel
theorem dX3_writeSets_19 : decode cX3_writeSets 19 = .ok (.getfield 15, 3) := by decide +kernel
theorem dX3_writeSets_22 : decode cX3_writeSets 22 = .ok (.iconst 2, 1) := by decide +kernel
theorem dX3_writeSets_23 : decode cX3_writeSets 23 = .ok (.iload_n 3, 1) := by decide +kernel
theorem dX3_writeSets_24 : decode cX3_writeSets 24 = .ok (.invokestatic 86, 3) := by decide +kernel
theorem dX3_writeSets_27 : decode cX3_writeSets 27 = .ok (.aload_n 0, 1) := by decide +kernel
theorem dX3_writeSets_28 : decode cX3_writeSets 28 = .ok (.getfield 15, 3) := by decide +kernel
theorem dX3_writeSets_31 : decode cX3_writeSets 31 = .ok (.iconst 3, 1) := by decide +kernel
theorem dX3_writeSets_32 : decode cX3_writeSets 32 = .ok (.iload 4, 2) := by decide +kernel
theorem dX3_writeSets_34 : decode cX3_writeSets 34 = .ok (.invokestatic 86, 3) := by decide +kernel
theorem dX3_writeSets_37 : decode cX3_writeSets 37 = .ok (.aload_n 0, 1) := by decide +kernel
theorem dX3_writeSets_38 : decode cX3_writeSets 38 = .ok (.iload_n 2, 1) := by decide +kernel
theorem dX3_writeSets_39 : decode cX3_writeSets 39 = .ok (.ifCond .ne 7, 3) := by decide +kernel
theorem dX3_writeSets_42 : decode cX3_writeSets 42 = .ok (.iconst 1, 1) := by decide +kernel
theorem dX3_writeSets_43 : decode cX3_writeSets 43 = .ok (.goto 21, 3) := by decide +kernel
theorem dX3_writeSets_46 : decode cX3_writeSets 46 = .ok (.iload_n 3, 1) := by decide +kernel
theorem dX3_writeSets_47 : decode cX3_writeSets 47 = .ok (.ifCond .ne 7, 3) := by decide +kernel
theorem dX3_writeSets_50 : decode cX3_writeSets 50 = .ok (.iconst 2, 1) := by decide +kernel
theorem dX3_writeSets_51 : decode cX3_writeSets 51 = .ok (.goto 13, 3) := by decide +kernel
theorem dX3_writeSets_54 : decode cX3_writeSets 54 = .ok (.iload 4, 2) := by decide +kernel
theorem dX3_writeSets_56 : decode cX3_writeSets 56 = .ok (.ifCond .ne 7, 3) := by decide +kernel
theorem dX3_writeSets_59 : decode cX3_writeSets 59 = .ok (.iconst 3, 1) := by decide +kernel
theorem dX3_writeSets_60 : decode cX3_writeSets 60 = .ok (.goto 4, 3) := by decide +kernel
theorem dX3_writeSets_63 : decode cX3_writeSets 63 = .ok (.iconst 4, 1) := by decide +kernel
theorem dX3_writeSets_64 : decode cX3_writeSets 64 = .ok (.putfield 90, 3) := by decide +kernel
theorem dX3_writeSets_67 : decode cX3_writeSets 67 = .ok (.return_, 1) := by decide +kernel
theorem dX3_changePhases_0 : decode cX3_changePhases 0 = .ok (.aload_n 0, 1) := by decide +kernel
theorem dX3_changePhases_1 : decode cX3_changePhases 1 = .ok (.iload_n 1, 1) := by decide +kernel
theorem dX3_changePhases_2 : decode cX3_changePhases 2 = .ok (.iload_n 2, 1) := by decide +kernel
theorem dX3_changePhases_3 : decode cX3_changePhases 3 = .ok (.iload_n 3, 1) := by decide +kernel
theorem dX3_changePhases_4 : decode cX3_changePhases 4 = .ok (.iload 4, 2) := by decide +kernel
theorem dX3_changePhases_6 : decode cX3_changePhases 6 = .ok (.invokevirtual 75, 3) := by decide +kernel
theorem dX3_changePhases_9 : decode cX3_changePhases 9 = .ok (.aload_n 0, 1) := by decide +kernel
theorem dX3_changePhases_10 : decode cX3_changePhases 10 = .ok (.invokevirtual 79, 3) := by decide +kernel
theorem dX3_changePhases_13 : decode cX3_changePhases 13 = .ok (.return_, 1) := by decide +kernel
theorem dX3_flowOf_0 : decode cX3_flowOf 0 = .ok (.aload_n 0, 1) := by decide +kernel
theorem dX3_flowOf_1 : decode cX3_flowOf 1 = .ok (.getfield 18, 3) := by decide +kernel
theorem dX3_flowOf_4 : decode cX3_flowOf 4 = .ok (.iload_n 1, 1) := by decide +kernel
theorem dX3_flowOf_5 : decode cX3_flowOf 5 = .ok (.invokestatic 82, 3) := by decide +kernel
theorem dX3_flowOf_8 : decode cX3_flowOf 8 = .ok (.ireturn, 1) := by decide +kernel
theorem dX3_changeFlow_0 : decode cX3_changeFlow 0 = .ok (.aload_n 0, 1) := by decide +kernel
theorem dX3_changeFlow_1 : decode cX3_changeFlow 1 = .ok (.getfield 18, 3) := by decide +kernel
theorem dX3_changeFlow_4 : decode cX3_changeFlow 4 = .ok (.iload_n 1, 1) := by decide +kernel
theorem dX3_changeFlow_5 : decode cX3_changeFlow 5 = .ok (.iload_n 2, 1) := by decide +kernel
theorem dX3_changeFlow_6 : decode cX3_changeFlow 6 = .ok (.invokestatic 86, 3) := by decide +kernel
theorem dX3_changeFlow_9 : decode cX3_changeFlow 9 = .ok (.aload_n 0, 1) := by decide +kernel
theorem dX3_changeFlow_10 : decode cX3_changeFlow 10 = .ok (.invokevirtual 79, 3) := by decide +kernel
theorem dX3_changeFlow_13 : decode cX3_changeFlow 13 = .ok (.return_, 1) := by decide +kernel
theorem dX3_haveOnePhase_0 : decode cX3_haveOnePhase 0 = .ok (.iconst 0, 1) := by decide +kernel
theorem dX3_haveOnePhase_1 : decode cX3_haveOnePhase 1 = .ok (.istore_n 3, 1) := by decide +kernel
theorem dX3_haveOnePhase_2 : decode cX3_haveOnePhase 2 = .ok (.iload_n 3, 1) := by decide +kernel
theorem dX3_haveOnePhase_3 : decode cX3_haveOnePhase 3 = .ok (.aload_n 0, 1) := by decide +kernel
theorem dX3_haveOnePhase_4 : decode cX3_haveOnePhase 4 = .ok (.getfield 90, 3) := by decide +kernel
theorem dX3_haveOnePhase_7 : decode cX3_haveOnePhase 7 = .ok (.if_icmp .ge 39, 3) := by decide +kernel
theorem dX3_haveOnePhase_10 : decode cX3_haveOnePhase 10 = .ok (.aload_n 0, 1) := by decide +kernel
theorem dX3_haveOnePhase_11 : decode cX3_haveOnePhase 11 = .ok (.getfield 15, 3) := by decide +kernel
theorem dX3_haveOnePhase_14 : decode cX3_haveOnePhase 14 = .ok (.iload_n 3, 1) := by decide +kernel
theorem dX3_haveOnePhase_15 : decode cX3_haveOnePhase 15 = .ok (.invokestatic 82, 3) := by decide +kernel
theorem dX3_haveOnePhase_18 : decode cX3_haveOnePhase 18 = .ok (.istore 4, 2) := by decide +kernel
theorem dX3_haveOnePhase_20 : decode cX3_haveOnePhase 20 = .ok (.iload 4, 2) := by decide +kernel
theorem dX3_haveOnePhase_22 : decode cX3_haveOnePhase 22 = .ok (.iload_n 1, 1) := by decide +kernel
theorem dX3_haveOnePhase_23 : decode cX3_haveOnePhase 23 = .ok (.invokestatic 93, 3) := by decide +kernel
theorem dX3_haveOnePhase_26 : decode cX3_haveOnePhase 26 = .ok (.ifCond .eq 14, 3) := by decide +kernel
theorem dX3_haveOnePhase_29 : decode cX3_haveOnePhase 29 = .ok (.iload 4, 2) := by decide +kernel
theorem dX3_haveOnePhase_31 : decode cX3_haveOnePhase 31 = .ok (.iload_n 2, 1) := by decide +kernel
theorem dX3_haveOnePhase_32 : decode cX3_haveOnePhase 32 = .ok (.invokestatic 93, 3) := by decide +kernel
theorem dX3_haveOnePhase_35 : decode cX3_haveOnePhase 35 = .ok (.ifCond .eq 5, 3) := by decide +kernel
theorem dX3_haveOnePhase_38 : decode cX3_haveOnePhase 38 = .ok (.iconst 1, 1) := by decide +kernel
theorem dX3_haveOnePhase_39 : decode cX3_haveOnePhase 39 = .ok (.ireturn, 1) := by decide +kernel
theorem dX3_haveOnePhase_40 : decode cX3_haveOnePhase 40 = .ok (.iinc 3 1, 3) := by decide +kernel
theorem dX3_haveOnePhase_43 : decode cX3_haveOnePhase 43 = .ok (.goto (-41), 3) := by decide +kernel
theorem dX3_haveOnePhase_46 : decode cX3_haveOnePhase 46 = .ok (.iconst 0, 1) := by decide +kernel
theorem dX3_haveOnePhase_47 : decode cX3_haveOnePhase 47 = .ok (.ireturn, 1) := by decide +kernel
theorem dX3_hasConflictIn_0 : decode cX3_hasConflictIn 0 = .ok (.aload_n 0, 1) := by decide +kernel
theorem dX3_hasConflictIn_1 : decode cX3_hasConflictIn 1 = .ok (.iload_n 1, 1) := by decide +kernel
theorem dX3_hasConflictIn_2 : decode cX3_hasConflictIn 2 = .ok (.iload_n 1, 1) := by decide +kernel
theorem dX3_hasConflictIn_3 : decode cX3_hasConflictIn 3 = .ok (.invokevirtual 97, 3) := by decide +kernel
theorem dX3_hasConflictIn_6 : decode cX3_hasConflictIn 6 = .ok (.iconst (-1), 1) := by decide +kernel
theorem dX3_hasConflictIn_7 : decode cX3_hasConflictIn 7 = .ok (.if_icmp .eq 7, 3) := by decide +kernel
theorem dX3_hasConflictIn_10 : decode cX3_hasConflictIn 10 = .ok (.iconst 1, 1) := by decide +kernel
theorem dX3_hasConflictIn_11 : decode cX3_hasConflictIn 11 = .ok (.goto 4, 3) := by decide +kernel
theorem dX3_hasConflictIn_14 : decode cX3_hasConflictIn 14 = .ok (.iconst 0, 1) := by decide +kernel
theorem dX3_hasConflictIn_15 : decode cX3_hasConflictIn 15 = .ok (.ireturn, 1) := by decide +kernel
theorem dX3_greatestClearance_0 : decode cX3_greatestClearance 0 = .ok (.iconst (-1), 1) := by decide +kernel
theorem dX3_greatestClearance_1 : decode cX3_greatestClearance 1 = .ok (.istore_n 3, 1) := by decide +kernel
theorem dX3_greatestClearance_2 : decode cX3_greatestClearance 2 = .ok (.iconst 0, 1) := by decide +kernel
theorem dX3_greatestClearance_3 : decode cX3_greatestClearance 3 = .ok (.istore 4, 2) := by decide +kernel
theorem dX3_greatestClearance_5 : decode cX3_greatestClearance 5 = .ok (.iload 4, 2) := by decide +kernel
theorem dX3_greatestClearance_7 : decode cX3_greatestClearance 7 = .ok (.iconst 4, 1) := by decide +kernel
theorem dX3_greatestClearance_8 : decode cX3_greatestClearance 8 = .ok (.if_icmp .ge 55, 3) := by decide +kernel
theorem dX3_greatestClearance_11 : decode cX3_greatestClearance 11 = .ok (.iconst 0, 1) := by decide +kernel
theorem dX3_greatestClearance_12 : decode cX3_greatestClearance 12 = .ok (.istore 5, 2) := by decide +kernel
theorem dX3_greatestClearance_14 : decode cX3_greatestClearance 14 = .ok (.iload 5, 2) := by decide +kernel
theorem dX3_greatestClearance_16 : decode cX3_greatestClearance 16 = .ok (.iconst 4, 1) := by decide +kernel
theorem dX3_greatestClearance_17 : decode cX3_greatestClearance 17 = .ok (.if_icmp .ge 40, 3) := by decide +kernel
theorem dX3_greatestClearance_20 : decode cX3_greatestClearance 20 = .ok (.iload_n 1, 1) := by decide +kernel
theorem dX3_greatestClearance_21 : decode cX3_greatestClearance 21 = .ok (.iload 4, 2) := by decide +kernel
theorem dX3_greatestClearance_23 : decode cX3_greatestClearance 23 = .ok (.invokestatic 93, 3) := by decide +kernel
theorem dX3_greatestClearance_26 : decode cX3_greatestClearance 26 = .ok (.ifCond .eq 25, 3) := by decide +kernel
theorem dX3_greatestClearance_29 : decode cX3_greatestClearance 29 = .ok (.iload_n 2, 1) := by decide +kernel
theorem dX3_greatestClearance_30 : decode cX3_greatestClearance 30 = .ok (.iload 5, 2) := by decide +kernel
theorem dX3_greatestClearance_32 : decode cX3_greatestClearance 32 = .ok (.invokestatic 93, 3) := by decide +kernel
theorem dX3_greatestClearance_35 : decode cX3_greatestClearance 35 = .ok (.ifCond .eq 16, 3) := by decide +kernel
theorem dX3_greatestClearance_38 : decode cX3_greatestClearance 38 = .ok (.iload_n 3, 1) := by decide +kernel
theorem dX3_greatestClearance_39 : decode cX3_greatestClearance 39 = .ok (.aload_n 0, 1) := by decide +kernel
theorem dX3_greatestClearance_40 : decode cX3_greatestClearance 40 = .ok (.iload 4, 2) := by decide +kernel
theorem dX3_greatestClearance_42 : decode cX3_greatestClearance 42 = .ok (.iload 5, 2) := by decide +kernel
theorem dX3_greatestClearance_44 : decode cX3_greatestClearance 44 = .ok (.invokevirtual 101, 3) := by decide +kernel
theorem dX3_greatestClearance_47 : decode cX3_greatestClearance 47 = .ok (.invokestatic 104, 3) := by decide +kernel
theorem dX3_greatestClearance_50 : decode cX3_greatestClearance 50 = .ok (.istore_n 3, 1) := by decide +kernel
theorem dX3_greatestClearance_51 : decode cX3_greatestClearance 51 = .ok (.iinc 5 1, 3) := by decide +kernel
theorem dX3_greatestClearance_54 : decode cX3_greatestClearance 54 = .ok (.goto (-40), 3) := by decide +kernel
theorem dX3_greatestClearance_57 : decode cX3_greatestClearance 57 = .ok (.iinc 4 1, 3) := by decide +kernel
theorem dX3_greatestClearance_60 : decode cX3_greatestClearance 60 = .ok (.goto (-55), 3) := by decide +kernel
theorem dX3_greatestClearance_63 : decode cX3_greatestClearance 63 = .ok (.iload_n 3, 1) := by decide +kernel
theorem dX3_greatestClearance_64 : decode cX3_greatestClearance 64 = .ok (.ireturn, 1) := by decide +kernel
theorem dX3_makePlan_0 : decode cX3_makePlan 0 = .ok (.aload_n 0, 1) := by decide +kernel
theorem dX3_makePlan_1 : decode cX3_makePlan 1 = .ok (.getfield 37, 3) := by decide +kernel
theorem dX3_makePlan_4 : decode cX3_makePlan 4 = .ok (.istore_n 1, 1) := by decide +kernel
theorem dX3_makePlan_5 : decode cX3_makePlan 5 = .ok (.iconst 0, 1) := by decide +kernel
theorem dX3_makePlan_6 : decode cX3_makePlan 6 = .ok (.istore_n 2, 1) := by decide +kernel
theorem dX3_makePlan_7 : decode cX3_makePlan 7 = .ok (.iconst 0, 1) := by decide +kernel
theorem dX3_makePlan_8 : decode cX3_makePlan 8 = .ok (.istore_n 3, 1) := by decide +kernel
theorem dX3_makePlan_9 : decode cX3_makePlan 9 = .ok (.iload_n 3, 1) := by decide +kernel
theorem dX3_makePlan_10 : decode cX3_makePlan 10 = .ok (.aload_n 0, 1) := by decide +kernel
theorem dX3_makePlan_11 : decode cX3_makePlan 11 = .ok (.getfield 90, 3) := by decide +kernel
theorem dX3_makePlan_14 : decode cX3_makePlan 14 = .ok (.if_icmp .ge 84, 3) := by decide +kernel
theorem dX3_makePlan_17 : decode cX3_makePlan 17 = .ok (.iload_n 3, 1) := by decide +kernel
theorem dX3_makePlan_18 : decode cX3_makePlan 18 = .ok (.iconst 1, 1) := by decide +kernel
theorem dX3_makePlan_19 : decode cX3_makePlan 19 = .ok (.iadd, 1) := by decide +kernel
theorem dX3_makePlan_20 : decode cX3_makePlan 20 = .ok (.aload_n 0, 1) := by decide +kernel
theorem dX3_makePlan_21 : decode cX3_makePlan 21 = .ok (.getfield 90, 3) := by decide +kernel
theorem dX3_makePlan_24 : decode cX3_makePlan 24 = .ok (.if_icmp .ge 9, 3) := by decide +kernel
theorem dX3_makePlan_27 : decode cX3_makePlan 27 = .ok (.iload_n 3, 1) := by decide +kernel
theorem dX3_makePlan_28 : decode cX3_makePlan 28 = .ok (.iconst 1, 1) := by decide +kernel
theorem dX3_makePlan_29 : decode cX3_makePlan 29 = .ok (.iadd, 1) := by decide +kernel
theorem dX3_makePlan_30 : decode cX3_makePlan 30 = .ok (.goto 4, 3) := by decide +kernel
theorem dX3_makePlan_33 : decode cX3_makePlan 33 = .ok (.iconst 0, 1) := by decide +kernel
theorem dX3_makePlan_34 : decode cX3_makePlan 34 = .ok (.istore 4, 2) := by decide +kernel
theorem dX3_makePlan_36 : decode cX3_makePlan 36 = .ok (.iconst 0, 1) := by decide +kernel
theorem dX3_makePlan_37 : decode cX3_makePlan 37 = .ok (.aload_n 0, 1) := by decide +kernel
theorem dX3_makePlan_38 : decode cX3_makePlan 38 = .ok (.aload_n 0, 1) := by decide +kernel
theorem dX3_makePlan_39 : decode cX3_makePlan 39 = .ok (.getfield 15, 3) := by decide +kernel
theorem dX3_makePlan_42 : decode cX3_makePlan 42 = .ok (.iload_n 3, 1) := by decide +kernel
theorem dX3_makePlan_43 : decode cX3_makePlan 43 = .ok (.invokestatic 82, 3) := by decide +kernel
theorem dX3_makePlan_46 : decode cX3_makePlan 46 = .ok (.aload_n 0, 1) := by decide +kernel
theorem dX3_makePlan_47 : decode cX3_makePlan 47 = .ok (.getfield 15, 3) := by decide +kernel
theorem dX3_makePlan_50 : decode cX3_makePlan 50 = .ok (.iload 4, 2) := by decide +kernel
theorem dX3_makePlan_52 : decode cX3_makePlan 52 = .ok (.invokestatic 82, 3) := by decide +kernel
theorem dX3_makePlan_55 : decode cX3_makePlan 55 = .ok (.invokevirtual 97, 3) := by decide +kernel
theorem dX3_makePlan_58 : decode cX3_makePlan 58 = .ok (.invokestatic 104, 3) := by decide +kernel
theorem dX3_makePlan_61 : decode cX3_makePlan 61 = .ok (.istore 5, 2) := by decide +kernel
theorem dX3_makePlan_63 : decode cX3_makePlan 63 = .ok (.aload_n 0, 1) := by decide +kernel
theorem dX3_makePlan_64 : decode cX3_makePlan 64 = .ok (.getfield 24, 3) := by decide +kernel
theorem dX3_makePlan_67 : decode cX3_makePlan 67 = .ok (.iload_n 3, 1) := by decide +kernel
theorem dX3_makePlan_68 : decode cX3_makePlan 68 = .ok (.iload 5, 2) := by decide +kernel
theorem dX3_makePlan_70 : decode cX3_makePlan 70 = .ok (.invokestatic 86, 3) := by decide +kernel
theorem dX3_makePlan_73 : decode cX3_makePlan 73 = .ok (.iload_n 1, 1) := by decide +kernel
theorem dX3_makePlan_74 : decode cX3_makePlan 74 = .ok (.iload 5, 2) := by decide +kernel
theorem dX3_makePlan_76 : decode cX3_makePlan 76 = .ok (.aload_n 0, 1) := by decide +kernel
theorem dX3_makePlan_77 : decode cX3_makePlan 77 = .ok (.iload_n 3, 1) := by decide +kernel
theorem dX3_makePlan_78 : decode cX3_makePlan 78 = .ok (.invokevirtual 109, 3) := by decide +kernel
theorem dX3_makePlan_81 : decode cX3_makePlan 81 = .ok (.iadd, 1) := by decide +kernel
theorem dX3_makePlan_82 : decode cX3_makePlan 82 = .ok (.isub, 1) := by decide +kernel
theorem dX3_makePlan_83 : decode cX3_makePlan 83 = .ok (.istore_n 1, 1) := by decide +kernel
theorem dX3_makePlan_84 : decode cX3_makePlan 84 = .ok (.iload_n 2, 1) := by decide +kernel
theorem dX3_makePlan_85 : decode cX3_makePlan 85 = .ok (.aload_n 0, 1) := by decide +kernel
theorem dX3_makePlan_86 : decode cX3_makePlan 86 = .ok (.iload_n 3, 1) := by decide +kernel
theorem dX3_makePlan_87 : decode cX3_makePlan 87 = .ok (.invokevirtual 113, 3) := by decide +kernel
theorem dX3_makePlan_90 : decode cX3_makePlan 90 = .ok (.iadd, 1) := by decide +kernel
theorem dX3_makePlan_91 : decode cX3_makePlan 91 = .ok (.istore_n 2, 1) := by decide +kernel
theorem dX3_makePlan_92 : decode cX3_makePlan 92 = .ok (.iinc 3 1, 3) := by decide +kernel
theorem dX3_makePlan_95 : decode cX3_makePlan 95 = .ok (.goto (-86), 3) := by decide +kernel
theorem dX3_makePlan_98 : decode cX3_makePlan 98 = .ok (.aload_n 0, 1) := by decide +kernel
theorem dX3_makePlan_99 : decode cX3_makePlan 99 = .ok (.iload_n 1, 1) := by decide +kernel
theorem dX3_makePlan_100 : decode cX3_makePlan 100 = .ok (.ifCond .lt 7, 3) := by decide +kernel
theorem dX3_makePlan_103 : decode cX3_makePlan 103 = .ok (.iconst 1, 1) := by decide +kernel
theorem dX3_makePlan_104 : decode cX3_makePlan 104 = .ok (.goto 4, 3) := by decide +kernel
theorem dX3_makePlan_107 : decode cX3_makePlan 107 = .ok (.iconst 0, 1) := by decide +kernel
theorem dX3_makePlan_108 : decode cX3_makePlan 108 = .ok (.putfield 116, 3) := by decide +kernel
theorem dX3_makePlan_111 : decode cX3_makePlan 111 = .ok (.aload_n 0, 1) := by decide +kernel
theorem dX3_makePlan_112 : decode cX3_makePlan 112 = .ok (.getfield 116, 3) := by decide +kernel
theorem dX3_makePlan_115 : decode cX3_makePlan 115 = .ok (.ifCond .eq 13, 3) := by decide +kernel
theorem dX3_makePlan_118 : decode cX3_makePlan 118 = .ok (.aload_n 0, 1) := by decide +kernel
theorem dX3_makePlan_119 : decode cX3_makePlan 119 = .ok (.iload_n 1, 1) := by decide +kernel
theorem dX3_makePlan_120 : decode cX3_makePlan 120 = .ok (.iload_n 2, 1) := by decide +kernel
theorem dX3_makePlan_121 : decode cX3_makePlan 121 = .ok (.invokevirtual 120, 3) := by decide +kernel
theorem dX3_makePlan_124 : decode cX3_makePlan 124 = .ok (.aload_n 0, 1) := by decide +kernel
theorem dX3_makePlan_125 : decode cX3_makePlan 125 = .ok (.invokevirtual 124, 3) := by decide +kernel
theorem dX3_makePlan_128 : decode cX3_makePlan 128 = .ok (.return_, 1) := by decide +kernel
theorem dX3_leastGreen_0 : decode cX3_leastGreen 0 = .ok (.aload_n 0, 1) := by decide +kernel
theorem dX3_leastGreen_1 : decode cX3_leastGreen 1 = .ok (.getfield 15, 3) := by decide +kernel
theorem dX3_leastGreen_4 : decode cX3_leastGreen 4 = .ok (.iload_n 1, 1) := by decide +kernel
theorem dX3_leastGreen_5 : decode cX3_leastGreen 5 = .ok (.invokestatic 82, 3) := by decide +kernel
theorem dX3_leastGreen_8 : decode cX3_leastGreen 8 = .ok (.iconst 3, 1) := by decide +kernel
theorem dX3_leastGreen_9 : decode cX3_leastGreen 9 = .ok (.invokestatic 93, 3) := by decide +kernel
theorem dX3_leastGreen_12 : decode cX3_leastGreen 12 = .ok (.ifCond .eq 8, 3) := by decide +kernel
theorem dX3_leastGreen_15 : decode cX3_leastGreen 15 = .ok (.bipush 8, 2) := by decide +kernel
theorem dX3_leastGreen_17 : decode cX3_leastGreen 17 = .ok (.goto 4, 3) := by decide +kernel
theorem dX3_leastGreen_20 : decode cX3_leastGreen 20 = .ok (.iconst 5, 1) := by decide +kernel
theorem dX3_leastGreen_21 : decode cX3_leastGreen 21 = .ok (.ireturn, 1) := by decide +kernel
theorem dX3_weightOf_0 : decode cX3_weightOf 0 = .ok (.iconst 0, 1) := by decide +kernel
theorem dX3_weightOf_1 : decode cX3_weightOf 1 = .ok (.istore_n 2, 1) := by decide +kernel
theorem dX3_weightOf_2 : decode cX3_weightOf 2 = .ok (.iconst 0, 1) := by decide +kernel
theorem dX3_weightOf_3 : decode cX3_weightOf 3 = .ok (.istore_n 3, 1) := by decide +kernel
theorem dX3_weightOf_4 : decode cX3_weightOf 4 = .ok (.iload_n 3, 1) := by decide +kernel
theorem dX3_weightOf_5 : decode cX3_weightOf 5 = .ok (.iconst 4, 1) := by decide +kernel
theorem dX3_weightOf_6 : decode cX3_weightOf 6 = .ok (.if_icmp .ge 37, 3) := by decide +kernel
theorem dX3_weightOf_9 : decode cX3_weightOf 9 = .ok (.aload_n 0, 1) := by decide +kernel
theorem dX3_weightOf_10 : decode cX3_weightOf 10 = .ok (.getfield 15, 3) := by decide +kernel
theorem dX3_weightOf_13 : decode cX3_weightOf 13 = .ok (.iload_n 1, 1) := by decide +kernel
theorem dX3_weightOf_14 : decode cX3_weightOf 14 = .ok (.invokestatic 82, 3) := by decide +kernel
theorem dX3_weightOf_17 : decode cX3_weightOf 17 = .ok (.iload_n 3, 1) := by decide +kernel
theorem dX3_weightOf_18 : decode cX3_weightOf 18 = .ok (.invokestatic 93, 3) := by decide +kernel
theorem dX3_weightOf_21 : decode cX3_weightOf 21 = .ok (.ifCond .eq 16, 3) := by decide +kernel
theorem dX3_weightOf_24 : decode cX3_weightOf 24 = .ok (.iload_n 2, 1) := by decide +kernel
theorem dX3_weightOf_25 : decode cX3_weightOf 25 = .ok (.aload_n 0, 1) := by decide +kernel
theorem dX3_weightOf_26 : decode cX3_weightOf 26 = .ok (.getfield 18, 3) := by decide +kernel
theorem dX3_weightOf_29 : decode cX3_weightOf 29 = .ok (.iload_n 3, 1) := by decide +kernel
theorem dX3_weightOf_30 : decode cX3_weightOf 30 = .ok (.invokestatic 82, 3) := by decide +kernel
theorem dX3_weightOf_33 : decode cX3_weightOf 33 = .ok (.invokestatic 104, 3) := by decide +kernel
theorem dX3_weightOf_36 : decode cX3_weightOf 36 = .ok (.istore_n 2, 1) := by decide +kernel
theorem dX3_weightOf_37 : decode cX3_weightOf 37 = .ok (.iinc 3 1, 3) := by decide +kernel
theorem dX3_weightOf_40 : decode cX3_weightOf 40 = .ok (.goto (-36), 3) := by decide +kernel
theorem dX3_weightOf_43 : decode cX3_weightOf 43 = .ok (.iload_n 2, 1) := by decide +kernel
theorem dX3_weightOf_44 : decode cX3_weightOf 44 = .ok (.ireturn, 1) := by decide +kernel
theorem dX3_shareOut_0 : decode cX3_shareOut 0 = .ok (.iload_n 1, 1) := by decide +kernel
theorem dX3_shareOut_1 : decode cX3_shareOut 1 = .ok (.istore_n 3, 1) := by decide +kernel
theorem dX3_shareOut_2 : decode cX3_shareOut 2 = .ok (.iconst 0, 1) := by decide +kernel
theorem dX3_shareOut_3 : decode cX3_shareOut 3 = .ok (.istore 4, 2) := by decide +kernel
theorem dX3_shareOut_5 : decode cX3_shareOut 5 = .ok (.iload 4, 2) := by decide +kernel
theorem dX3_shareOut_7 : decode cX3_shareOut 7 = .ok (.aload_n 0, 1) := by decide +kernel
theorem dX3_shareOut_8 : decode cX3_shareOut 8 = .ok (.getfield 90, 3) := by decide +kernel
theorem dX3_shareOut_11 : decode cX3_shareOut 11 = .ok (.if_icmp .ge 61, 3) := by decide +kernel
theorem dX3_shareOut_14 : decode cX3_shareOut 14 = .ok (.iload_n 2, 1) := by decide +kernel
theorem dX3_shareOut_15 : decode cX3_shareOut 15 = .ok (.ifCond .ne 14, 3) := by decide +kernel
theorem dX3_shareOut_18 : decode cX3_shareOut 18 = .ok (.iload_n 1, 1) := by decide +kernel
theorem dX3_shareOut_19 : decode cX3_shareOut 19 = .ok (.aload_n 0, 1) := by decide +kernel
theorem dX3_shareOut_20 : decode cX3_shareOut 20 = .ok (.getfield 90, 3) := by decide +kernel
theorem dX3_shareOut_23 : decode cX3_shareOut 23 = .ok (.invokestatic 127, 3) := by decide +kernel
theorem dX3_shareOut_26 : decode cX3_shareOut 26 = .ok (.goto 15, 3) := by decide +kernel
theorem dX3_shareOut_29 : decode cX3_shareOut 29 = .ok (.iload_n 1, 1) := by decide +kernel
theorem dX3_shareOut_30 : decode cX3_shareOut 30 = .ok (.aload_n 0, 1) := by decide +kernel
theorem dX3_shareOut_31 : decode cX3_shareOut 31 = .ok (.iload 4, 2) := by decide +kernel
theorem dX3_shareOut_33 : decode cX3_shareOut 33 = .ok (.invokevirtual 113, 3) := by decide +kernel
theorem dX3_shareOut_36 : decode cX3_shareOut 36 = .ok (.imul, 1) := by decide +kernel
theorem dX3_shareOut_37 : decode cX3_shareOut 37 = .ok (.iload_n 2, 1) := by decide +kernel
theorem dX3_shareOut_38 : decode cX3_shareOut 38 = .ok (.invokestatic 127, 3) := by decide +kernel
theorem dX3_shareOut_41 : decode cX3_shareOut 41 = .ok (.istore 5, 2) := by decide +kernel
theorem dX3_shareOut_43 : decode cX3_shareOut 43 = .ok (.aload_n 0, 1) := by decide +kernel
theorem dX3_shareOut_44 : decode cX3_shareOut 44 = .ok (.getfield 21, 3) := by decide +kernel
theorem dX3_shareOut_47 : decode cX3_shareOut 47 = .ok (.iload 4, 2) := by decide +kernel
theorem dX3_shareOut_49 : decode cX3_shareOut 49 = .ok (.aload_n 0, 1) := by decide +kernel
theorem dX3_shareOut_50 : decode cX3_shareOut 50 = .ok (.iload 4, 2) := by decide +kernel
theorem dX3_shareOut_52 : decode cX3_shareOut 52 = .ok (.invokevirtual 109, 3) := by decide +kernel
theorem dX3_shareOut_55 : decode cX3_shareOut 55 = .ok (.iload 5, 2) := by decide +kernel
theorem dX3_shareOut_57 : decode cX3_shareOut 57 = .ok (.iadd, 1) := by decide +kernel
theorem dX3_shareOut_58 : decode cX3_shareOut 58 = .ok (.invokestatic 86, 3) := by decide +kernel
theorem dX3_shareOut_61 : decode cX3_shareOut 61 = .ok (.iload_n 3, 1) := by decide +kernel
theorem dX3_shareOut_62 : decode cX3_shareOut 62 = .ok (.iload 5, 2) := by decide +kernel
theorem dX3_shareOut_64 : decode cX3_shareOut 64 = .ok (.isub, 1) := by decide +kernel
theorem dX3_shareOut_65 : decode cX3_shareOut 65 = .ok (.istore_n 3, 1) := by decide +kernel
theorem dX3_shareOut_66 : decode cX3_shareOut 66 = .ok (.iinc 4 1, 3) := by decide +kernel
theorem dX3_shareOut_69 : decode cX3_shareOut 69 = .ok (.goto (-64), 3) := by decide +kernel
theorem dX3_shareOut_72 : decode cX3_shareOut 72 = .ok (.iconst 0, 1) := by decide +kernel
theorem dX3_shareOut_73 : decode cX3_shareOut 73 = .ok (.istore 4, 2) := by decide +kernel
theorem dX3_shareOut_75 : decode cX3_shareOut 75 = .ok (.iload 4, 2) := by decide +kernel
theorem dX3_shareOut_77 : decode cX3_shareOut 77 = .ok (.aload_n 0, 1) := by decide +kernel
theorem dX3_shareOut_78 : decode cX3_shareOut 78 = .ok (.getfield 90, 3) := by decide +kernel
theorem dX3_shareOut_81 : decode cX3_shareOut 81 = .ok (.if_icmp .ge 35, 3) := by decide +kernel
theorem dX3_shareOut_84 : decode cX3_shareOut 84 = .ok (.iload 4, 2) := by decide +kernel
theorem dX3_shareOut_86 : decode cX3_shareOut 86 = .ok (.iload_n 3, 1) := by decide +kernel
theorem dX3_shareOut_87 : decode cX3_shareOut 87 = .ok (.if_icmp .ge 29, 3) := by decide +kernel
theorem dX3_shareOut_90 : decode cX3_shareOut 90 = .ok (.aload_n 0, 1) := by decide +kernel
theorem dX3_shareOut_91 : decode cX3_shareOut 91 = .ok (.getfield 21, 3) := by decide +kernel
theorem dX3_shareOut_94 : decode cX3_shareOut 94 = .ok (.iload 4, 2) := by decide +kernel
theorem dX3_shareOut_96 : decode cX3_shareOut 96 = .ok (.aload_n 0, 1) := by decide +kernel
theorem dX3_shareOut_97 : decode cX3_shareOut 97 = .ok (.getfield 21, 3) := by decide +kernel
theorem dX3_shareOut_100 : decode cX3_shareOut 100 = .ok (.iload 4, 2) := by decide +kernel
theorem dX3_shareOut_102 : decode cX3_shareOut 102 = .ok (.invokestatic 82, 3) := by decide +kernel
theorem dX3_shareOut_105 : decode cX3_shareOut 105 = .ok (.iconst 1, 1) := by decide +kernel
theorem dX3_shareOut_106 : decode cX3_shareOut 106 = .ok (.iadd, 1) := by decide +kernel
theorem dX3_shareOut_107 : decode cX3_shareOut 107 = .ok (.invokestatic 86, 3) := by decide +kernel
theorem dX3_shareOut_110 : decode cX3_shareOut 110 = .ok (.iinc 4 1, 3) := by decide +kernel
theorem dX3_shareOut_113 : decode cX3_shareOut 113 = .ok (.goto (-38), 3) := by decide +kernel
theorem dX3_shareOut_116 : decode cX3_shareOut 116 = .ok (.return_, 1) := by decide +kernel
theorem dX3_drawLights_0 : decode cX3_drawLights 0 = .ok (.iconst 0, 1) := by decide +kernel
theorem dX3_drawLights_1 : decode cX3_drawLights 1 = .ok (.istore_n 1, 1) := by decide +kernel
theorem dX3_drawLights_2 : decode cX3_drawLights 2 = .ok (.iconst 0, 1) := by decide +kernel
theorem dX3_drawLights_3 : decode cX3_drawLights 3 = .ok (.istore_n 2, 1) := by decide +kernel
theorem dX3_drawLights_4 : decode cX3_drawLights 4 = .ok (.iload_n 2, 1) := by decide +kernel
theorem dX3_drawLights_5 : decode cX3_drawLights 5 = .ok (.aload_n 0, 1) := by decide +kernel
theorem dX3_drawLights_6 : decode cX3_drawLights 6 = .ok (.getfield 90, 3) := by decide +kernel
theorem dX3_drawLights_9 : decode cX3_drawLights 9 = .ok (.if_icmp .ge 78, 3) := by decide +kernel
theorem dX3_drawLights_12 : decode cX3_drawLights 12 = .ok (.iload_n 1, 1) := by decide +kernel
theorem dX3_drawLights_13 : decode cX3_drawLights 13 = .ok (.aload_n 0, 1) := by decide +kernel
theorem dX3_drawLights_14 : decode cX3_drawLights 14 = .ok (.getfield 21, 3) := by decide +kernel
theorem dX3_drawLights_17 : decode cX3_drawLights 17 = .ok (.iload_n 2, 1) := by decide +kernel
theorem dX3_drawLights_18 : decode cX3_drawLights 18 = .ok (.invokestatic 82, 3) := by decide +kernel
theorem dX3_drawLights_21 : decode cX3_drawLights 21 = .ok (.iadd, 1) := by decide +kernel
theorem dX3_drawLights_22 : decode cX3_drawLights 22 = .ok (.istore_n 3, 1) := by decide +kernel
theorem dX3_drawLights_23 : decode cX3_drawLights 23 = .ok (.iload_n 3, 1) := by decide +kernel
theorem dX3_drawLights_24 : decode cX3_drawLights 24 = .ok (.aload_n 0, 1) := by decide +kernel
theorem dX3_drawLights_25 : decode cX3_drawLights 25 = .ok (.getfield 24, 3) := by decide +kernel
theorem dX3_drawLights_28 : decode cX3_drawLights 28 = .ok (.iload_n 2, 1) := by decide +kernel
theorem dX3_drawLights_29 : decode cX3_drawLights 29 = .ok (.invokestatic 82, 3) := by decide +kernel
theorem dX3_drawLights_32 : decode cX3_drawLights 32 = .ok (.iadd, 1) := by decide +kernel
theorem dX3_drawLights_33 : decode cX3_drawLights 33 = .ok (.istore 4, 2) := by decide +kernel
theorem dX3_drawLights_35 : decode cX3_drawLights 35 = .ok (.iload_n 1, 1) := by decide +kernel
theorem dX3_drawLights_36 : decode cX3_drawLights 36 = .ok (.istore 5, 2) := by decide +kernel
theorem dX3_drawLights_38 : decode cX3_drawLights 38 = .ok (.iload 5, 2) := by decide +kernel
theorem dX3_drawLights_40 : decode cX3_drawLights 40 = .ok (.iload 4, 2) := by decide +kernel
theorem dX3_drawLights_42 : decode cX3_drawLights 42 = .ok (.if_icmp .ge 36, 3) := by decide +kernel
theorem dX3_drawLights_45 : decode cX3_drawLights 45 = .ok (.aload_n 0, 1) := by decide +kernel
theorem dX3_drawLights_46 : decode cX3_drawLights 46 = .ok (.getfield 27, 3) := by decide +kernel
theorem dX3_drawLights_49 : decode cX3_drawLights 49 = .ok (.iload 5, 2) := by decide +kernel
theorem dX3_drawLights_51 : decode cX3_drawLights 51 = .ok (.iload 5, 2) := by decide +kernel
theorem dX3_drawLights_53 : decode cX3_drawLights 53 = .ok (.iload_n 3, 1) := by decide +kernel
theorem dX3_drawLights_54 : decode cX3_drawLights 54 = .ok (.if_icmp .ge 14, 3) := by decide +kernel
theorem dX3_drawLights_57 : decode cX3_drawLights 57 = .ok (.aload_n 0, 1) := by decide +kernel
theorem dX3_drawLights_58 : decode cX3_drawLights 58 = .ok (.getfield 15, 3) := by decide +kernel
theorem dX3_drawLights_61 : decode cX3_drawLights 61 = .ok (.iload_n 2, 1) := by decide +kernel
theorem dX3_drawLights_62 : decode cX3_drawLights 62 = .ok (.invokestatic 82, 3) := by decide +kernel
theorem dX3_drawLights_65 : decode cX3_drawLights 65 = .ok (.goto 4, 3) := by decide +kernel
theorem dX3_drawLights_68 : decode cX3_drawLights 68 = .ok (.iconst 0, 1) := by decide +kernel
theorem dX3_drawLights_69 : decode cX3_drawLights 69 = .ok (.invokestatic 86, 3) := by decide +kernel
theorem dX3_drawLights_72 : decode cX3_drawLights 72 = .ok (.iinc 5 1, 3) := by decide +kernel
theorem dX3_drawLights_75 : decode cX3_drawLights 75 = .ok (.goto (-37), 3) := by decide +kernel
theorem dX3_drawLights_78 : decode cX3_drawLights 78 = .ok (.iload 4, 2) := by decide +kernel
theorem dX3_drawLights_80 : decode cX3_drawLights 80 = .ok (.istore_n 1, 1) := by decide +kernel
theorem dX3_drawLights_81 : decode cX3_drawLights 81 = .ok (.iinc 2 1, 3) := by decide +kernel
theorem dX3_drawLights_84 : decode cX3_drawLights 84 = .ok (.goto (-80), 3) := by decide +kernel
theorem dX3_drawLights_87 : decode cX3_drawLights 87 = .ok (.return_, 1) := by decide +kernel
theorem dX3_isLit_0 : decode cX3_isLit 0 = .ok (.aload_n 0, 1) := by decide +kernel
theorem dX3_isLit_1 : decode cX3_isLit 1 = .ok (.aload_n 0, 1) := by decide +kernel
theorem dX3_isLit_2 : decode cX3_isLit 2 = .ok (.getfield 41, 3) := by decide +kernel
theorem dX3_isLit_5 : decode cX3_isLit 5 = .ok (.iload_n 1, 1) := by decide +kernel
theorem dX3_isLit_6 : decode cX3_isLit 6 = .ok (.iload_n 2, 1) := by decide +kernel
theorem dX3_isLit_7 : decode cX3_isLit 7 = .ok (.invokevirtual 130, 3) := by decide +kernel
theorem dX3_isLit_10 : decode cX3_isLit 10 = .ok (.ireturn, 1) := by decide +kernel
theorem dX3_isLitFrom_0 : decode cX3_isLitFrom 0 = .ok (.aload_n 0, 1) := by decide +kernel
theorem dX3_isLitFrom_1 : decode cX3_isLitFrom 1 = .ok (.getfield 27, 3) := by decide +kernel
theorem dX3_isLitFrom_4 : decode cX3_isLitFrom 4 = .ok (.iload_n 3, 1) := by decide +kernel
theorem dX3_isLitFrom_5 : decode cX3_isLitFrom 5 = .ok (.iload_n 1, 1) := by decide +kernel
theorem dX3_isLitFrom_6 : decode cX3_isLitFrom 6 = .ok (.isub, 1) := by decide +kernel
theorem dX3_isLitFrom_7 : decode cX3_isLitFrom 7 = .ok (.aload_n 0, 1) := by decide +kernel
theorem dX3_isLitFrom_8 : decode cX3_isLitFrom 8 = .ok (.getfield 37, 3) := by decide +kernel
theorem dX3_isLitFrom_11 : decode cX3_isLitFrom 11 = .ok (.invokestatic 134, 3) := by decide +kernel
theorem dX3_isLitFrom_14 : decode cX3_isLitFrom 14 = .ok (.invokestatic 82, 3) := by decide +kernel
theorem dX3_isLitFrom_17 : decode cX3_isLitFrom 17 = .ok (.iload_n 2, 1) := by decide +kernel
theorem dX3_isLitFrom_18 : decode cX3_isLitFrom 18 = .ok (.invokestatic 93, 3) := by decide +kernel
theorem dX3_isLitFrom_21 : decode cX3_isLitFrom 21 = .ok (.ireturn, 1) := by decide +kernel
theorem dX3_countBreaches_0 : decode cX3_countBreaches 0 = .ok (.iconst 0, 1) := by decide +kernel
theorem dX3_countBreaches_1 : decode cX3_countBreaches 1 = .ok (.istore_n 1, 1) := by decide +kernel
theorem dX3_countBreaches_2 : decode cX3_countBreaches 2 = .ok (.iconst 0, 1) := by decide +kernel
theorem dX3_countBreaches_3 : decode cX3_countBreaches 3 = .ok (.istore_n 2, 1) := by decide +kernel
theorem dX3_countBreaches_4 : decode cX3_countBreaches 4 = .ok (.iload_n 2, 1) := by decide +kernel
theorem dX3_countBreaches_5 : decode cX3_countBreaches 5 = .ok (.aload_n 0, 1) := by decide +kernel
theorem dX3_countBreaches_6 : decode cX3_countBreaches 6 = .ok (.getfield 37, 3) := by decide +kernel
theorem dX3_countBreaches_9 : decode cX3_countBreaches 9 = .ok (.if_icmp .ge 20, 3) := by decide +kernel
theorem dX3_countBreaches_12 : decode cX3_countBreaches 12 = .ok (.aload_n 0, 1) := by decide +kernel
theorem dX3_countBreaches_13 : decode cX3_countBreaches 13 = .ok (.iload_n 2, 1) := by decide +kernel
theorem dX3_countBreaches_14 : decode cX3_countBreaches 14 = .ok (.invokevirtual 137, 3) := by decide +kernel
theorem dX3_countBreaches_17 : decode cX3_countBreaches 17 = .ok (.ifCond .eq 6, 3) := by decide +kernel
theorem dX3_countBreaches_20 : decode cX3_countBreaches 20 = .ok (.iinc 1 1, 3) := by decide +kernel
theorem dX3_countBreaches_23 : decode cX3_countBreaches 23 = .ok (.iinc 2 1, 3) := by decide +kernel
theorem dX3_countBreaches_26 : decode cX3_countBreaches 26 = .ok (.goto (-22), 3) := by decide +kernel
theorem dX3_countBreaches_29 : decode cX3_countBreaches 29 = .ok (.iload_n 1, 1) := by decide +kernel
theorem dX3_countBreaches_30 : decode cX3_countBreaches 30 = .ok (.ireturn, 1) := by decide +kernel
theorem dX3_isBreached_0 : decode cX3_isBreached 0 = .ok (.iconst 0, 1) := by decide +kernel
theorem dX3_isBreached_1 : decode cX3_isBreached 1 = .ok (.istore_n 2, 1) := by decide +kernel
theorem dX3_isBreached_2 : decode cX3_isBreached 2 = .ok (.iload_n 2, 1) := by decide +kernel
theorem dX3_isBreached_3 : decode cX3_isBreached 3 = .ok (.iconst 4, 1) := by decide +kernel
theorem dX3_isBreached_4 : decode cX3_isBreached 4 = .ok (.if_icmp .ge 48, 3) := by decide +kernel
theorem dX3_isBreached_7 : decode cX3_isBreached 7 = .ok (.iconst 0, 1) := by decide +kernel
theorem dX3_isBreached_8 : decode cX3_isBreached 8 = .ok (.istore_n 3, 1) := by decide +kernel
theorem dX3_isBreached_9 : decode cX3_isBreached 9 = .ok (.iload_n 3, 1) := by decide +kernel
theorem dX3_isBreached_10 : decode cX3_isBreached 10 = .ok (.iconst 4, 1) := by decide +kernel
theorem dX3_isBreached_11 : decode cX3_isBreached 11 = .ok (.if_icmp .ge 35, 3) := by decide +kernel
theorem dX3_isBreached_14 : decode cX3_isBreached 14 = .ok (.aload_n 0, 1) := by decide +kernel
theorem dX3_isBreached_15 : decode cX3_isBreached 15 = .ok (.iload_n 2, 1) := by decide +kernel
theorem dX3_isBreached_16 : decode cX3_isBreached 16 = .ok (.iload_n 1, 1) := by decide +kernel
theorem dX3_isBreached_17 : decode cX3_isBreached 17 = .ok (.invokevirtual 141, 3) := by decide +kernel
theorem dX3_isBreached_20 : decode cX3_isBreached 20 = .ok (.ifCond .eq 20, 3) := by decide +kernel
theorem dX3_isBreached_23 : decode cX3_isBreached 23 = .ok (.aload_n 0, 1) := by decide +kernel
theorem dX3_isBreached_24 : decode cX3_isBreached 24 = .ok (.iload_n 3, 1) := by decide +kernel
theorem dX3_isBreached_25 : decode cX3_isBreached 25 = .ok (.iload_n 1, 1) := by decide +kernel
theorem dX3_isBreached_26 : decode cX3_isBreached 26 = .ok (.aload_n 0, 1) := by decide +kernel
theorem dX3_isBreached_27 : decode cX3_isBreached 27 = .ok (.iload_n 2, 1) := by decide +kernel
theorem dX3_isBreached_28 : decode cX3_isBreached 28 = .ok (.iload_n 3, 1) := by decide +kernel
theorem dX3_isBreached_29 : decode cX3_isBreached 29 = .ok (.invokevirtual 101, 3) := by decide +kernel
theorem dX3_isBreached_32 : decode cX3_isBreached 32 = .ok (.invokevirtual 144, 3) := by decide +kernel
theorem dX3_isBreached_35 : decode cX3_isBreached 35 = .ok (.ifCond .eq 5, 3) := by decide +kernel
theorem dX3_isBreached_38 : decode cX3_isBreached 38 = .ok (.iconst 1, 1) := by decide +kernel
theorem dX3_isBreached_39 : decode cX3_isBreached 39 = .ok (.ireturn, 1) := by decide +kernel
theorem dX3_isBreached_40 : decode cX3_isBreached 40 = .ok (.iinc 3 1, 3) := by decide +kernel
theorem dX3_isBreached_43 : decode cX3_isBreached 43 = .ok (.goto (-34), 3) := by decide +kernel
theorem dX3_isBreached_46 : decode cX3_isBreached 46 = .ok (.iinc 2 1, 3) := by decide +kernel
theorem dX3_isBreached_49 : decode cX3_isBreached 49 = .ok (.goto (-47), 3) := by decide +kernel
theorem dX3_isBreached_52 : decode cX3_isBreached 52 = .ok (.iconst 0, 1) := by decide +kernel
theorem dX3_isBreached_53 : decode cX3_isBreached 53 = .ok (.ireturn, 1) := by decide +kernel
theorem dX3_isLitTooSoon_0 : decode cX3_isLitTooSoon 0 = .ok (.iconst 0, 1) := by decide +kernel
theorem dX3_isLitTooSoon_1 : decode cX3_isLitTooSoon 1 = .ok (.istore 4, 2) := by decide +kernel
theorem dX3_isLitTooSoon_3 : decode cX3_isLitTooSoon 3 = .ok (.iload 4, 2) := by decide +kernel
theorem dX3_isLitTooSoon_5 : decode cX3_isLitTooSoon 5 = .ok (.iload_n 3, 1) := by decide +kernel
theorem dX3_isLitTooSoon_6 : decode cX3_isLitTooSoon 6 = .ok (.if_icmp .gt 23, 3) := by decide +kernel
theorem dX3_isLitTooSoon_9 : decode cX3_isLitTooSoon 9 = .ok (.aload_n 0, 1) := by decide +kernel
theorem dX3_isLitTooSoon_10 : decode cX3_isLitTooSoon 10 = .ok (.iload_n 1, 1) := by decide +kernel
theorem dX3_isLitTooSoon_11 : decode cX3_isLitTooSoon 11 = .ok (.iload_n 2, 1) := by decide +kernel
theorem dX3_isLitTooSoon_12 : decode cX3_isLitTooSoon 12 = .ok (.iload 4, 2) := by decide +kernel
theorem dX3_isLitTooSoon_14 : decode cX3_isLitTooSoon 14 = .ok (.iadd, 1) := by decide +kernel
theorem dX3_isLitTooSoon_15 : decode cX3_isLitTooSoon 15 = .ok (.invokevirtual 141, 3) := by decide +kernel
theorem dX3_isLitTooSoon_18 : decode cX3_isLitTooSoon 18 = .ok (.ifCond .eq 5, 3) := by decide +kernel
theorem dX3_isLitTooSoon_21 : decode cX3_isLitTooSoon 21 = .ok (.iconst 1, 1) := by decide +kernel
theorem dX3_isLitTooSoon_22 : decode cX3_isLitTooSoon 22 = .ok (.ireturn, 1) := by decide +kernel
theorem dX3_isLitTooSoon_23 : decode cX3_isLitTooSoon 23 = .ok (.iinc 4 1, 3) := by decide +kernel
theorem dX3_isLitTooSoon_26 : decode cX3_isLitTooSoon 26 = .ok (.goto (-23), 3) := by decide +kernel
theorem dX3_isLitTooSoon_29 : decode cX3_isLitTooSoon 29 = .ok (.iconst 0, 1) := by decide +kernel
theorem dX3_isLitTooSoon_30 : decode cX3_isLitTooSoon 30 = .ok (.ireturn, 1) := by decide +kernel
theorem dX3_placeInCycle_0 : decode cX3_placeInCycle 0 = .ok (.iload_n 1, 1) := by decide +kernel
theorem dX3_placeInCycle_1 : decode cX3_placeInCycle 1 = .ok (.aload_n 0, 1) := by decide +kernel
theorem dX3_placeInCycle_2 : decode cX3_placeInCycle 2 = .ok (.getfield 41, 3) := by decide +kernel
theorem dX3_placeInCycle_5 : decode cX3_placeInCycle 5 = .ok (.isub, 1) := by decide +kernel
theorem dX3_placeInCycle_6 : decode cX3_placeInCycle 6 = .ok (.aload_n 0, 1) := by decide +kernel
theorem dX3_placeInCycle_7 : decode cX3_placeInCycle 7 = .ok (.getfield 37, 3) := by decide +kernel
theorem dX3_placeInCycle_10 : decode cX3_placeInCycle 10 = .ok (.invokestatic 134, 3) := by decide +kernel
theorem dX3_placeInCycle_13 : decode cX3_placeInCycle 13 = .ok (.ireturn, 1) := by decide +kernel
theorem dX3_hasBusIn_0 : decode cX3_hasBusIn 0 = .ok (.iload_n 1, 1) := by decide +kernel
theorem dX3_hasBusIn_1 : decode cX3_hasBusIn 1 = .ok (.aload_n 0, 1) := by decide +kernel
theorem dX3_hasBusIn_2 : decode cX3_hasBusIn 2 = .ok (.getfield 50, 3) := by decide +kernel
theorem dX3_hasBusIn_5 : decode cX3_hasBusIn 5 = .ok (.if_icmp .ge 7, 3) := by decide +kernel
theorem dX3_hasBusIn_8 : decode cX3_hasBusIn 8 = .ok (.iconst 1, 1) := by decide +kernel
theorem dX3_hasBusIn_9 : decode cX3_hasBusIn 9 = .ok (.goto 4, 3) := by decide +kernel
theorem dX3_hasBusIn_12 : decode cX3_hasBusIn 12 = .ok (.iconst 0, 1) := by decide +kernel
theorem dX3_hasBusIn_13 : decode cX3_hasBusIn 13 = .ok (.ireturn, 1) := by decide +kernel
theorem dX3_changedGreen_0 : decode cX3_changedGreen 0 = .ok (.iload_n 1, 1) := by decide +kernel
theorem dX3_changedGreen_1 : decode cX3_changedGreen 1 = .ok (.aload_n 0, 1) := by decide +kernel
theorem dX3_changedGreen_2 : decode cX3_changedGreen 2 = .ok (.getfield 56, 3) := by decide +kernel
theorem dX3_changedGreen_5 : decode cX3_changedGreen 5 = .ok (.if_icmp .ne 10, 3) := by decide +kernel
theorem dX3_changedGreen_8 : decode cX3_changedGreen 8 = .ok (.aload_n 0, 1) := by decide +kernel
theorem dX3_changedGreen_9 : decode cX3_changedGreen 9 = .ok (.getfield 59, 3) := by decide +kernel
theorem dX3_changedGreen_12 : decode cX3_changedGreen 12 = .ok (.goto 20, 3) := by decide +kernel
theorem dX3_changedGreen_15 : decode cX3_changedGreen 15 = .ok (.iload_n 1, 1) := by decide +kernel
theorem dX3_changedGreen_16 : decode cX3_changedGreen 16 = .ok (.aload_n 0, 1) := by decide +kernel
theorem dX3_changedGreen_17 : decode cX3_changedGreen 17 = .ok (.getfield 53, 3) := by decide +kernel
theorem dX3_changedGreen_20 : decode cX3_changedGreen 20 = .ok (.if_icmp .ne 11, 3) := by decide +kernel
theorem dX3_changedGreen_23 : decode cX3_changedGreen 23 = .ok (.aload_n 0, 1) := by decide +kernel
theorem dX3_changedGreen_24 : decode cX3_changedGreen 24 = .ok (.getfield 59, 3) := by decide +kernel
theorem dX3_changedGreen_27 : decode cX3_changedGreen 27 = .ok (.ineg, 1) := by decide +kernel
theorem dX3_changedGreen_28 : decode cX3_changedGreen 28 = .ok (.goto 4, 3) := by decide +kernel
theorem dX3_changedGreen_31 : decode cX3_changedGreen 31 = .ok (.iconst 0, 1) := by decide +kernel
theorem dX3_changedGreen_32 : decode cX3_changedGreen 32 = .ok (.istore_n 2, 1) := by decide +kernel
theorem dX3_changedGreen_33 : decode cX3_changedGreen 33 = .ok (.aload_n 0, 1) := by decide +kernel
theorem dX3_changedGreen_34 : decode cX3_changedGreen 34 = .ok (.getfield 21, 3) := by decide +kernel
theorem dX3_changedGreen_37 : decode cX3_changedGreen 37 = .ok (.iload_n 1, 1) := by decide +kernel
theorem dX3_changedGreen_38 : decode cX3_changedGreen 38 = .ok (.invokestatic 82, 3) := by decide +kernel
theorem dX3_changedGreen_41 : decode cX3_changedGreen 41 = .ok (.iload_n 2, 1) := by decide +kernel
theorem dX3_changedGreen_42 : decode cX3_changedGreen 42 = .ok (.iadd, 1) := by decide +kernel
theorem dX3_changedGreen_43 : decode cX3_changedGreen 43 = .ok (.ireturn, 1) := by decide +kernel
theorem dX3_phaseIn_0 : decode cX3_phaseIn 0 = .ok (.aload_n 0, 1) := by decide +kernel
theorem dX3_phaseIn_1 : decode cX3_phaseIn 1 = .ok (.iload_n 1, 1) := by decide +kernel
theorem dX3_phaseIn_2 : decode cX3_phaseIn 2 = .ok (.invokevirtual 147, 3) := by decide +kernel
theorem dX3_phaseIn_5 : decode cX3_phaseIn 5 = .ok (.istore_n 2, 1) := by decide +kernel
theorem dX3_phaseIn_6 : decode cX3_phaseIn 6 = .ok (.aload_n 0, 1) := by decide +kernel
theorem dX3_phaseIn_7 : decode cX3_phaseIn 7 = .ok (.iload_n 1, 1) := by decide +kernel
theorem dX3_phaseIn_8 : decode cX3_phaseIn 8 = .ok (.invokevirtual 150, 3) := by decide +kernel
theorem dX3_phaseIn_11 : decode cX3_phaseIn 11 = .ok (.istore_n 3, 1) := by decide +kernel
theorem dX3_phaseIn_12 : decode cX3_phaseIn 12 = .ok (.iconst 0, 1) := by decide +kernel
theorem dX3_phaseIn_13 : decode cX3_phaseIn 13 = .ok (.istore 4, 2) := by decide +kernel
theorem dX3_phaseIn_15 : decode cX3_phaseIn 15 = .ok (.iload 4, 2) := by decide +kernel
theorem dX3_phaseIn_17 : decode cX3_phaseIn 17 = .ok (.aload_n 0, 1) := by decide +kernel
theorem dX3_phaseIn_18 : decode cX3_phaseIn 18 = .ok (.getfield 90, 3) := by decide +kernel
theorem dX3_phaseIn_21 : decode cX3_phaseIn 21 = .ok (.if_icmp .ge 74, 3) := by decide +kernel
theorem dX3_phaseIn_24 : decode cX3_phaseIn 24 = .ok (.iload_n 2, 1) := by decide +kernel
theorem dX3_phaseIn_25 : decode cX3_phaseIn 25 = .ok (.ifCond .eq 12, 3) := by decide +kernel
theorem dX3_phaseIn_28 : decode cX3_phaseIn 28 = .ok (.aload_n 0, 1) := by decide +kernel
theorem dX3_phaseIn_29 : decode cX3_phaseIn 29 = .ok (.iload 4, 2) := by decide +kernel
theorem dX3_phaseIn_31 : decode cX3_phaseIn 31 = .ok (.invokevirtual 153, 3) := by decide +kernel
theorem dX3_phaseIn_34 : decode cX3_phaseIn 34 = .ok (.goto 12, 3) := by decide +kernel
theorem dX3_phaseIn_37 : decode cX3_phaseIn 37 = .ok (.aload_n 0, 1) := by decide +kernel
theorem dX3_phaseIn_38 : decode cX3_phaseIn 38 = .ok (.getfield 21, 3) := by decide +kernel
theorem dX3_phaseIn_41 : decode cX3_phaseIn 41 = .ok (.iload 4, 2) := by decide +kernel
theorem dX3_phaseIn_43 : decode cX3_phaseIn 43 = .ok (.invokestatic 82, 3) := by decide +kernel
theorem dX3_phaseIn_46 : decode cX3_phaseIn 46 = .ok (.istore 5, 2) := by decide +kernel
theorem dX3_phaseIn_48 : decode cX3_phaseIn 48 = .ok (.iload_n 3, 1) := by decide +kernel
theorem dX3_phaseIn_49 : decode cX3_phaseIn 49 = .ok (.iload 5, 2) := by decide +kernel
theorem dX3_phaseIn_51 : decode cX3_phaseIn 51 = .ok (.if_icmp .ge 6, 3) := by decide +kernel
theorem dX3_phaseIn_54 : decode cX3_phaseIn 54 = .ok (.iload 4, 2) := by decide +kernel
theorem dX3_phaseIn_56 : decode cX3_phaseIn 56 = .ok (.ireturn, 1) := by decide +kernel
theorem dX3_phaseIn_57 : decode cX3_phaseIn 57 = .ok (.iload_n 3, 1) := by decide +kernel
theorem dX3_phaseIn_58 : decode cX3_phaseIn 58 = .ok (.iload 5, 2) := by decide +kernel
theorem dX3_phaseIn_60 : decode cX3_phaseIn 60 = .ok (.isub, 1) := by decide +kernel
theorem dX3_phaseIn_61 : decode cX3_phaseIn 61 = .ok (.istore_n 3, 1) := by decide +kernel
theorem dX3_phaseIn_62 : decode cX3_phaseIn 62 = .ok (.iload_n 3, 1) := by decide +kernel
theorem dX3_phaseIn_63 : decode cX3_phaseIn 63 = .ok (.aload_n 0, 1) := by decide +kernel
theorem dX3_phaseIn_64 : decode cX3_phaseIn 64 = .ok (.getfield 24, 3) := by decide +kernel
theorem dX3_phaseIn_67 : decode cX3_phaseIn 67 = .ok (.iload 4, 2) := by decide +kernel
theorem dX3_phaseIn_69 : decode cX3_phaseIn 69 = .ok (.invokestatic 82, 3) := by decide +kernel
theorem dX3_phaseIn_72 : decode cX3_phaseIn 72 = .ok (.if_icmp .ge 5, 3) := by decide +kernel
theorem dX3_phaseIn_75 : decode cX3_phaseIn 75 = .ok (.iconst (-1), 1) := by decide +kernel
theorem dX3_phaseIn_76 : decode cX3_phaseIn 76 = .ok (.ireturn, 1) := by decide +kernel
theorem dX3_phaseIn_77 : decode cX3_phaseIn 77 = .ok (.iload_n 3, 1) := by decide +kernel
theorem dX3_phaseIn_78 : decode cX3_phaseIn 78 = .ok (.aload_n 0, 1) := by decide +kernel
theorem dX3_phaseIn_79 : decode cX3_phaseIn 79 = .ok (.getfield 24, 3) := by decide +kernel
theorem dX3_phaseIn_82 : decode cX3_phaseIn 82 = .ok (.iload 4, 2) := by decide +kernel
theorem dX3_phaseIn_84 : decode cX3_phaseIn 84 = .ok (.invokestatic 82, 3) := by decide +kernel
theorem dX3_phaseIn_87 : decode cX3_phaseIn 87 = .ok (.isub, 1) := by decide +kernel
theorem dX3_phaseIn_88 : decode cX3_phaseIn 88 = .ok (.istore_n 3, 1) := by decide +kernel
theorem dX3_phaseIn_89 : decode cX3_phaseIn 89 = .ok (.iinc 4 1, 3) := by decide +kernel
theorem dX3_phaseIn_92 : decode cX3_phaseIn 92 = .ok (.goto (-77), 3) := by decide +kernel
theorem dX3_phaseIn_95 : decode cX3_phaseIn 95 = .ok (.iconst (-1), 1) := by decide +kernel
theorem dX3_phaseIn_96 : decode cX3_phaseIn 96 = .ok (.ireturn, 1) := by decide +kernel
theorem dX3_lowestPhaseWith_0 : decode cX3_lowestPhaseWith 0 = .ok (.iconst 0, 1) := by decide +kernel
theorem dX3_lowestPhaseWith_1 : decode cX3_lowestPhaseWith 1 = .ok (.istore_n 2, 1) := by decide +kernel
theorem dX3_lowestPhaseWith_2 : decode cX3_lowestPhaseWith 2 = .ok (.iload_n 2, 1) := by decide +kernel
theorem dX3_lowestPhaseWith_3 : decode cX3_lowestPhaseWith 3 = .ok (.aload_n 0, 1) := by decide +kernel
theorem dX3_lowestPhaseWith_4 : decode cX3_lowestPhaseWith 4 = .ok (.getfield 90, 3) := by decide +kernel
theorem dX3_lowestPhaseWith_7 : decode cX3_lowestPhaseWith 7 = .ok (.if_icmp .ge 26, 3) := by decide +kernel
theorem dX3_lowestPhaseWith_10 : decode cX3_lowestPhaseWith 10 = .ok (.aload_n 0, 1) := by decide +kernel
theorem dX3_lowestPhaseWith_11 : decode cX3_lowestPhaseWith 11 = .ok (.getfield 15, 3) := by decide +kernel
theorem dX3_lowestPhaseWith_14 : decode cX3_lowestPhaseWith 14 = .ok (.iload_n 2, 1) := by decide +kernel
theorem dX3_lowestPhaseWith_15 : decode cX3_lowestPhaseWith 15 = .ok (.invokestatic 82, 3) := by decide +kernel
theorem dX3_lowestPhaseWith_18 : decode cX3_lowestPhaseWith 18 = .ok (.iload_n 1, 1) := by decide +kernel
theorem dX3_lowestPhaseWith_19 : decode cX3_lowestPhaseWith 19 = .ok (.invokestatic 93, 3) := by decide +kernel
theorem dX3_lowestPhaseWith_22 : decode cX3_lowestPhaseWith 22 = .ok (.ifCond .eq 5, 3) := by decide +kernel
theorem dX3_lowestPhaseWith_25 : decode cX3_lowestPhaseWith 25 = .ok (.iload_n 2, 1) := by decide +kernel
theorem dX3_lowestPhaseWith_26 : decode cX3_lowestPhaseWith 26 = .ok (.ireturn, 1) := by decide +kernel
theorem dX3_lowestPhaseWith_27 : decode cX3_lowestPhaseWith 27 = .ok (.iinc 2 1, 3) := by decide +kernel
theorem dX3_lowestPhaseWith_30 : decode cX3_lowestPhaseWith 30 = .ok (.goto (-28), 3) := by decide +kernel
theorem dX3_lowestPhaseWith_33 : decode cX3_lowestPhaseWith 33 = .ok (.iconst (-1), 1) := by decide +kernel
theorem dX3_lowestPhaseWith_34 : decode cX3_lowestPhaseWith 34 = .ok (.ireturn, 1) := by decide +kernel
theorem dX3_takeBus_0 : decode cX3_takeBus 0 = .ok (.aload_n 0, 1) := by decide +kernel
theorem dX3_takeBus_1 : decode cX3_takeBus 1 = .ok (.iload_n 2, 1) := by decide +kernel
theorem dX3_takeBus_2 : decode cX3_takeBus 2 = .ok (.invokevirtual 156, 3) := by decide +kernel
theorem dX3_takeBus_5 : decode cX3_takeBus 5 = .ok (.istore_n 3, 1) := by decide +kernel
theorem dX3_takeBus_6 : decode cX3_takeBus 6 = .ok (.aload_n 0, 1) := by decide +kernel
theorem dX3_takeBus_7 : decode cX3_takeBus 7 = .ok (.iload_n 1, 1) := by decide +kernel
theorem dX3_takeBus_8 : decode cX3_takeBus 8 = .ok (.invokevirtual 159, 3) := by decide +kernel
theorem dX3_takeBus_11 : decode cX3_takeBus 11 = .ok (.istore 4, 2) := by decide +kernel
theorem dX3_takeBus_13 : decode cX3_takeBus 13 = .ok (.aload_n 0, 1) := by decide +kernel
theorem dX3_takeBus_14 : decode cX3_takeBus 14 = .ok (.iload_n 1, 1) := by decide +kernel
theorem dX3_takeBus_15 : decode cX3_takeBus 15 = .ok (.aload_n 0, 1) := by decide +kernel
theorem dX3_takeBus_16 : decode cX3_takeBus 16 = .ok (.iload_n 1, 1) := by decide +kernel
theorem dX3_takeBus_17 : decode cX3_takeBus 17 = .ok (.invokevirtual 150, 3) := by decide +kernel
theorem dX3_takeBus_20 : decode cX3_takeBus 20 = .ok (.isub, 1) := by decide +kernel
theorem dX3_takeBus_21 : decode cX3_takeBus 21 = .ok (.aload_n 0, 1) := by decide +kernel
theorem dX3_takeBus_22 : decode cX3_takeBus 22 = .ok (.getfield 37, 3) := by decide +kernel
theorem dX3_takeBus_25 : decode cX3_takeBus 25 = .ok (.iadd, 1) := by decide +kernel
theorem dX3_takeBus_26 : decode cX3_takeBus 26 = .ok (.putfield 50, 3) := by decide +kernel
theorem dX3_takeBus_29 : decode cX3_takeBus 29 = .ok (.aload_n 0, 1) := by decide +kernel
theorem dX3_takeBus_30 : decode cX3_takeBus 30 = .ok (.iconst (-1), 1) := by decide +kernel
theorem dX3_takeBus_31 : decode cX3_takeBus 31 = .ok (.putfield 53, 3) := by decide +kernel
theorem dX3_takeBus_34 : decode cX3_takeBus 34 = .ok (.aload_n 0, 1) := by decide +kernel
theorem dX3_takeBus_35 : decode cX3_takeBus 35 = .ok (.iload_n 3, 1) := by decide +kernel
theorem dX3_takeBus_36 : decode cX3_takeBus 36 = .ok (.putfield 56, 3) := by decide +kernel
theorem dX3_takeBus_39 : decode cX3_takeBus 39 = .ok (.aload_n 0, 1) := by decide +kernel
theorem dX3_takeBus_40 : decode cX3_takeBus 40 = .ok (.iconst 0, 1) := by decide +kernel
theorem dX3_takeBus_41 : decode cX3_takeBus 41 = .ok (.putfield 59, 3) := by decide +kernel
theorem dX3_takeBus_44 : decode cX3_takeBus 44 = .ok (.iload 4, 2) := by decide +kernel
theorem dX3_takeBus_46 : decode cX3_takeBus 46 = .ok (.iload_n 3, 1) := by decide +kernel
theorem dX3_takeBus_47 : decode cX3_takeBus 47 = .ok (.if_icmp .ne 39, 3) := by decide +kernel
theorem dX3_takeBus_50 : decode cX3_takeBus 50 = .ok (.iload_n 3, 1) := by decide +kernel
theorem dX3_takeBus_51 : decode cX3_takeBus 51 = .ok (.iconst 1, 1) := by decide +kernel
theorem dX3_takeBus_52 : decode cX3_takeBus 52 = .ok (.iadd, 1) := by decide +kernel
theorem dX3_takeBus_53 : decode cX3_takeBus 53 = .ok (.aload_n 0, 1) := by decide +kernel
theorem dX3_takeBus_54 : decode cX3_takeBus 54 = .ok (.getfield 90, 3) := by decide +kernel
theorem dX3_takeBus_57 : decode cX3_takeBus 57 = .ok (.if_icmp .ge 29, 3) := by decide +kernel
theorem dX3_takeBus_60 : decode cX3_takeBus 60 = .ok (.aload_n 0, 1) := by decide +kernel
theorem dX3_takeBus_61 : decode cX3_takeBus 61 = .ok (.iload_n 3, 1) := by decide +kernel
theorem dX3_takeBus_62 : decode cX3_takeBus 62 = .ok (.iconst 1, 1) := by decide +kernel
theorem dX3_takeBus_63 : decode cX3_takeBus 63 = .ok (.iadd, 1) := by decide +kernel
theorem dX3_takeBus_64 : decode cX3_takeBus 64 = .ok (.putfield 53, 3) := by decide +kernel
theorem dX3_takeBus_67 : decode cX3_takeBus 67 = .ok (.aload_n 0, 1) := by decide +kernel
theorem dX3_takeBus_68 : decode cX3_takeBus 68 = .ok (.iconst 5, 1) := by decide +kernel
theorem dX3_takeBus_69 : decode cX3_takeBus 69 = .ok (.aload_n 0, 1) := by decide +kernel
theorem dX3_takeBus_70 : decode cX3_takeBus 70 = .ok (.aload_n 0, 1) := by decide +kernel
theorem dX3_takeBus_71 : decode cX3_takeBus 71 = .ok (.getfield 53, 3) := by decide +kernel
theorem dX3_takeBus_74 : decode cX3_takeBus 74 = .ok (.invokevirtual 162, 3) := by decide +kernel
theorem dX3_takeBus_77 : decode cX3_takeBus 77 = .ok (.invokestatic 165, 3) := by decide +kernel
theorem dX3_takeBus_80 : decode cX3_takeBus 80 = .ok (.putfield 59, 3) := by decide +kernel
theorem dX3_takeBus_83 : decode cX3_takeBus 83 = .ok (.goto 51, 3) := by decide +kernel
theorem dX3_takeBus_86 : decode cX3_takeBus 86 = .ok (.iload 4, 2) := by decide +kernel
theorem dX3_takeBus_88 : decode cX3_takeBus 88 = .ok (.iconst (-1), 1) := by decide +kernel
theorem dX3_takeBus_89 : decode cX3_takeBus 89 = .ok (.if_icmp .eq 45, 3) := by decide +kernel
theorem dX3_takeBus_92 : decode cX3_takeBus 92 = .ok (.iload_n 3, 1) := by decide +kernel
theorem dX3_takeBus_93 : decode cX3_takeBus 93 = .ok (.iload 4, 2) := by decide +kernel
theorem dX3_takeBus_95 : decode cX3_takeBus 95 = .ok (.if_icmp .le 39, 3) := by decide +kernel
theorem dX3_takeBus_98 : decode cX3_takeBus 98 = .ok (.aload_n 0, 1) := by decide +kernel
theorem dX3_takeBus_99 : decode cX3_takeBus 99 = .ok (.iload 4, 2) := by decide +kernel
theorem dX3_takeBus_101 : decode cX3_takeBus 101 = .ok (.putfield 53, 3) := by decide +kernel
theorem dX3_takeBus_104 : decode cX3_takeBus 104 = .ok (.aload_n 0, 1) := by decide +kernel
theorem dX3_takeBus_105 : decode cX3_takeBus 105 = .ok (.iload 4, 2) := by decide +kernel
theorem dX3_takeBus_107 : decode cX3_takeBus 107 = .ok (.iload_n 1, 1) := by decide +kernel
theorem dX3_takeBus_108 : decode cX3_takeBus 108 = .ok (.invokevirtual 168, 3) := by decide +kernel
theorem dX3_takeBus_111 : decode cX3_takeBus 111 = .ok (.istore 5, 2) := by decide +kernel
theorem dX3_takeBus_113 : decode cX3_takeBus 113 = .ok (.aload_n 0, 1) := by decide +kernel
theorem dX3_takeBus_114 : decode cX3_takeBus 114 = .ok (.iconst 5, 1) := by decide +kernel
theorem dX3_takeBus_115 : decode cX3_takeBus 115 = .ok (.iload 5, 2) := by decide +kernel
theorem dX3_takeBus_117 : decode cX3_takeBus 117 = .ok (.aload_n 0, 1) := by decide +kernel
theorem dX3_takeBus_118 : decode cX3_takeBus 118 = .ok (.aload_n 0, 1) := by decide +kernel
theorem dX3_takeBus_119 : decode cX3_takeBus 119 = .ok (.getfield 53, 3) := by decide +kernel
theorem dX3_takeBus_122 : decode cX3_takeBus 122 = .ok (.invokevirtual 162, 3) := by decide +kernel
theorem dX3_takeBus_125 : decode cX3_takeBus 125 = .ok (.invokestatic 165, 3) := by decide +kernel
theorem dX3_takeBus_128 : decode cX3_takeBus 128 = .ok (.invokestatic 165, 3) := by decide +kernel
theorem dX3_takeBus_131 : decode cX3_takeBus 131 = .ok (.putfield 59, 3) := by decide +kernel
theorem dX3_takeBus_134 : decode cX3_takeBus 134 = .ok (.aload_n 0, 1) := by decide +kernel
theorem dX3_takeBus_135 : decode cX3_takeBus 135 = .ok (.getfield 59, 3) := by decide +kernel
theorem dX3_takeBus_138 : decode cX3_takeBus 138 = .ok (.ireturn, 1) := by decide +kernel
theorem dX3_spareGreen_0 : decode cX3_spareGreen 0 = .ok (.aload_n 0, 1) := by decide +kernel
theorem dX3_spareGreen_1 : decode cX3_spareGreen 1 = .ok (.getfield 21, 3) := by decide +kernel
theorem dX3_spareGreen_4 : decode cX3_spareGreen 4 = .ok (.iload_n 1, 1) := by decide +kernel
theorem dX3_spareGreen_5 : decode cX3_spareGreen 5 = .ok (.invokestatic 82, 3) := by decide +kernel
theorem dX3_spareGreen_8 : decode cX3_spareGreen 8 = .ok (.aload_n 0, 1) := by decide +kernel
theorem dX3_spareGreen_9 : decode cX3_spareGreen 9 = .ok (.iload_n 1, 1) := by decide +kernel
theorem dX3_spareGreen_10 : decode cX3_spareGreen 10 = .ok (.invokevirtual 109, 3) := by decide +kernel
theorem dX3_spareGreen_13 : decode cX3_spareGreen 13 = .ok (.isub, 1) := by decide +kernel
theorem dX3_spareGreen_14 : decode cX3_spareGreen 14 = .ok (.ireturn, 1) := by decide +kernel
theorem dX3_secondsOfGreenBehind_0 : decode cX3_secondsOfGreenBehind 0 = .ok (.aload_n 0, 1) := by decide +kernel
theorem dX3_secondsOfGreenBehind_1 : decode cX3_secondsOfGreenBehind 1 = .ok (.getfield 21, 3) := by decide +kernel
theorem dX3_secondsOfGreenBehind_4 : decode cX3_secondsOfGreenBehind 4 = .ok (.iload_n 1, 1) := by decide +kernel
theorem dX3_secondsOfGreenBehind_5 : decode cX3_secondsOfGreenBehind 5 = .ok (.invokestatic 82, 3) := by decide +kernel
theorem dX3_secondsOfGreenBehind_8 : decode cX3_secondsOfGreenBehind 8 = .ok (.istore_n 3, 1) := by decide +kernel
theorem dX3_secondsOfGreenBehind_9 : decode cX3_secondsOfGreenBehind 9 = .ok (.iconst 0, 1) := by decide +kernel
theorem dX3_secondsOfGreenBehind_10 : decode cX3_secondsOfGreenBehind 10 = .ok (.istore 4, 2) := by decide +kernel
theorem dX3_secondsOfGreenBehind_12 : decode cX3_secondsOfGreenBehind 12 = .ok (.iload 4, 2) := by decide +kernel
theorem dX3_secondsOfGreenBehind_14 : decode cX3_secondsOfGreenBehind 14 = .ok (.iload_n 1, 1) := by decide +kernel
theorem dX3_secondsOfGreenBehind_15 : decode cX3_secondsOfGreenBehind 15 = .ok (.if_icmp .ge 31, 3) := by decide +kernel
theorem dX3_secondsOfGreenBehind_18 : decode cX3_secondsOfGreenBehind 18 = .ok (.iload_n 3, 1) := by decide +kernel
theorem dX3_secondsOfGreenBehind_19 : decode cX3_secondsOfGreenBehind 19 = .ok (.aload_n 0, 1) := by decide +kernel
theorem dX3_secondsOfGreenBehind_20 : decode cX3_secondsOfGreenBehind 20 = .ok (.getfield 21, 3) := by decide +kernel
theorem dX3_secondsOfGreenBehind_23 : decode cX3_secondsOfGreenBehind 23 = .ok (.iload 4, 2) := by decide +kernel
theorem dX3_secondsOfGreenBehind_25 : decode cX3_secondsOfGreenBehind 25 = .ok (.invokestatic 82, 3) := by decide +kernel
theorem dX3_secondsOfGreenBehind_28 : decode cX3_secondsOfGreenBehind 28 = .ok (.aload_n 0, 1) := by decide +kernel
theorem dX3_secondsOfGreenBehind_29 : decode cX3_secondsOfGreenBehind 29 = .ok (.getfield 24, 3) := by decide +kernel
theorem dX3_secondsOfGreenBehind_32 : decode cX3_secondsOfGreenBehind 32 = .ok (.iload 4, 2) := by decide +kernel
theorem dX3_secondsOfGreenBehind_34 : decode cX3_secondsOfGreenBehind 34 = .ok (.invokestatic 82, 3) := by decide +kernel
theorem dX3_secondsOfGreenBehind_37 : decode cX3_secondsOfGreenBehind 37 = .ok (.iadd, 1) := by decide +kernel
theorem dX3_secondsOfGreenBehind_38 : decode cX3_secondsOfGreenBehind 38 = .ok (.iadd, 1) := by decide +kernel
theorem dX3_secondsOfGreenBehind_39 : decode cX3_secondsOfGreenBehind 39 = .ok (.istore_n 3, 1) := by decide +kernel
theorem dX3_secondsOfGreenBehind_40 : decode cX3_secondsOfGreenBehind 40 = .ok (.iinc 4 1, 3) := by decide +kernel
theorem dX3_secondsOfGreenBehind_43 : decode cX3_secondsOfGreenBehind 43 = .ok (.goto (-31), 3) := by decide +kernel
theorem dX3_secondsOfGreenBehind_46 : decode cX3_secondsOfGreenBehind 46 = .ok (.iload_n 3, 1) := by decide +kernel
theorem dX3_secondsOfGreenBehind_47 : decode cX3_secondsOfGreenBehind 47 = .ok (.iconst 1, 1) := by decide +kernel
theorem dX3_secondsOfGreenBehind_48 : decode cX3_secondsOfGreenBehind 48 = .ok (.isub, 1) := by decide +kernel
theorem dX3_secondsOfGreenBehind_49 : decode cX3_secondsOfGreenBehind 49 = .ok (.aload_n 0, 1) := by decide +kernel
theorem dX3_secondsOfGreenBehind_50 : decode cX3_secondsOfGreenBehind 50 = .ok (.iload_n 2, 1) := by decide +kernel
theorem dX3_secondsOfGreenBehind_51 : decode cX3_secondsOfGreenBehind 51 = .ok (.invokevirtual 150, 3) := by decide +kernel
theorem dX3_secondsOfGreenBehind_54 : decode cX3_secondsOfGreenBehind 54 = .ok (.isub, 1) := by decide +kernel
theorem dX3_secondsOfGreenBehind_55 : decode cX3_secondsOfGreenBehind 55 = .ok (.ireturn, 1) := by decide +kernel
theorem dX3_growReady_0 : decode cX3_growReady 0 = .ok (.aload_n 0, 1) := by decide +kernel
theorem dX3_growReady_1 : decode cX3_growReady 1 = .ok (.iload_n 1, 1) := by decide +kernel
theorem dX3_growReady_2 : decode cX3_growReady 2 = .ok (.invokevirtual 159, 3) := by decide +kernel
theorem dX3_growReady_5 : decode cX3_growReady 5 = .ok (.istore_n 2, 1) := by decide +kernel
theorem dX3_growReady_6 : decode cX3_growReady 6 = .ok (.iload_n 2, 1) := by decide +kernel
theorem dX3_growReady_7 : decode cX3_growReady 7 = .ok (.iconst (-1), 1) := by decide +kernel
theorem dX3_growReady_8 : decode cX3_growReady 8 = .ok (.if_icmp .eq 22, 3) := by decide +kernel
theorem dX3_growReady_11 : decode cX3_growReady 11 = .ok (.aload_n 0, 1) := by decide +kernel
theorem dX3_growReady_12 : decode cX3_growReady 12 = .ok (.getfield 15, 3) := by decide +kernel
theorem dX3_growReady_15 : decode cX3_growReady 15 = .ok (.iload_n 2, 1) := by decide +kernel
theorem dX3_growReady_16 : decode cX3_growReady 16 = .ok (.invokestatic 82, 3) := by decide +kernel
theorem dX3_growReady_19 : decode cX3_growReady 19 = .ok (.iconst 0, 1) := by decide +kernel
theorem dX3_growReady_20 : decode cX3_growReady 20 = .ok (.invokestatic 93, 3) := by decide +kernel
theorem dX3_growReady_23 : decode cX3_growReady 23 = .ok (.ifCond .eq 7, 3) := by decide +kernel
theorem dX3_growReady_26 : decode cX3_growReady 26 = .ok (.iconst 1, 1) := by decide +kernel
theorem dX3_growReady_27 : decode cX3_growReady 27 = .ok (.goto 4, 3) := by decide +kernel
theorem dX3_growReady_30 : decode cX3_growReady 30 = .ok (.iconst 0, 1) := by decide +kernel
theorem dX3_growReady_31 : decode cX3_growReady 31 = .ok (.istore_n 3, 1) := by decide +kernel
theorem dX3_growReady_32 : decode cX3_growReady 32 = .ok (.aload_n 0, 1) := by decide +kernel
theorem dX3_growReady_33 : decode cX3_growReady 33 = .ok (.iload_n 3, 1) := by decide +kernel
theorem dX3_growReady_34 : decode cX3_growReady 34 = .ok (.ifCond .eq 16, 3) := by decide +kernel
theorem dX3_growReady_37 : decode cX3_growReady 37 = .ok (.iconst 2, 1) := by decide +kernel
theorem dX3_growReady_38 : decode cX3_growReady 38 = .ok (.aload_n 0, 1) := by decide +kernel
theorem dX3_growReady_39 : decode cX3_growReady 39 = .ok (.getfield 47, 3) := by decide +kernel
theorem dX3_growReady_42 : decode cX3_growReady 42 = .ok (.iconst 1, 1) := by decide +kernel
theorem dX3_growReady_43 : decode cX3_growReady 43 = .ok (.iadd, 1) := by decide +kernel
theorem dX3_growReady_44 : decode cX3_growReady 44 = .ok (.invokestatic 165, 3) := by decide +kernel
theorem dX3_growReady_47 : decode cX3_growReady 47 = .ok (.goto 4, 3) := by decide +kernel
theorem dX3_growReady_50 : decode cX3_growReady 50 = .ok (.iconst 0, 1) := by decide +kernel
theorem dX3_growReady_51 : decode cX3_growReady 51 = .ok (.putfield 47, 3) := by decide +kernel
theorem dX3_growReady_54 : decode cX3_growReady 54 = .ok (.return_, 1) := by decide +kernel
theorem dX4_init_0 : decode cX4_init 0 = .ok (.aload_n 0, 1) := by decide +kernel
theorem dX4_init_1 : decode cX4_init 1 = .ok (.invokespecial 3, 3) := by decide +kernel
theorem dX4_init_4 : decode cX4_init 4 = .ok (.aload_n 0, 1) := by decide +kernel
theorem dX4_init_5 : decode cX4_init 5 = .ok (.bipush 61, 2) := by decide +kernel
theorem dX4_init_7 : decode cX4_init 7 = .ok (.newarray .int, 2) := by decide +kernel
theorem dX4_init_9 : decode cX4_init 9 = .ok (.putfield 11, 3) := by decide +kernel
theorem dX4_init_12 : decode cX4_init 12 = .ok (.return_, 1) := by decide +kernel
theorem dX4_reset_0 : decode cX4_reset 0 = .ok (.aload_n 0, 1) := by decide +kernel
theorem dX4_reset_1 : decode cX4_reset 1 = .ok (.bipush 10, 2) := by decide +kernel
theorem dX4_reset_3 : decode cX4_reset 3 = .ok (.putfield 15, 3) := by decide +kernel
theorem dX4_reset_6 : decode cX4_reset 6 = .ok (.aload_n 0, 1) := by decide +kernel
theorem dX4_reset_7 : decode cX4_reset 7 = .ok (.bipush 20, 2) := by decide +kernel
theorem dX4_reset_9 : decode cX4_reset 9 = .ok (.putfield 19, 3) := by decide +kernel
theorem dX4_reset_12 : decode cX4_reset 12 = .ok (.aload_n 0, 1) := by decide +kernel
theorem dX4_reset_13 : decode cX4_reset 13 = .ok (.iconst 0, 1) := by decide +kernel
theorem dX4_reset_14 : decode cX4_reset 14 = .ok (.putfield 22, 3) := by decide +kernel
theorem dX4_reset_17 : decode cX4_reset 17 = .ok (.aload_n 0, 1) := by decide +kernel
theorem dX4_reset_18 : decode cX4_reset 18 = .ok (.getfield 11, 3) := by decide +kernel
theorem dX4_reset_21 : decode cX4_reset 21 = .ok (.iconst 0, 1) := by decide +kernel
theorem dX4_reset_22 : decode cX4_reset 22 = .ok (.invokestatic 25, 3) := by decide +kernel
theorem dX4_reset_25 : decode cX4_reset 25 = .ok (.return_, 1) := by decide +kernel
theorem dX4_send_0 : decode cX4_send 0 = .ok (.iload_n 1, 1) := by decide +kernel
theorem dX4_send_1 : decode cX4_send 1 = .ok (.aload_n 0, 1) := by decide +kernel
theorem dX4_send_2 : decode cX4_send 2 = .ok (.getfield 15, 3) := by decide +kernel
theorem dX4_send_5 : decode cX4_send 5 = .ok (.iadd, 1) := by decide +kernel
theorem dX4_send_6 : decode cX4_send 6 = .ok (.bipush 61, 2) := by decide +kernel
theorem dX4_send_8 : decode cX4_send 8 = .ok (.invokestatic 31, 3) := by decide +kernel
theorem dX4_send_11 : decode cX4_send 11 = .ok (.istore_n 2, 1) := by decide +kernel
theorem dX4_send_12 : decode cX4_send 12 = .ok (.aload_n 0, 1) := by decide +kernel
theorem dX4_send_13 : decode cX4_send 13 = .ok (.getfield 11, 3) := by decide +kernel
theorem dX4_send_16 : decode cX4_send 16 = .ok (.iload_n 2, 1) := by decide +kernel
theorem dX4_send_17 : decode cX4_send 17 = .ok (.aload_n 0, 1) := by decide +kernel
theorem dX4_send_18 : decode cX4_send 18 = .ok (.getfield 11, 3) := by decide +kernel
theorem dX4_send_21 : decode cX4_send 21 = .ok (.iload_n 2, 1) := by decide +kernel
theorem dX4_send_22 : decode cX4_send 22 = .ok (.invokestatic 35, 3) := by decide +kernel
theorem dX4_send_25 : decode cX4_send 25 = .ok (.iconst 1, 1) := by decide +kernel
theorem dX4_send_26 : decode cX4_send 26 = .ok (.iadd, 1) := by decide +kernel
theorem dX4_send_27 : decode cX4_send 27 = .ok (.invokestatic 39, 3) := by decide +kernel
theorem dX4_send_30 : decode cX4_send 30 = .ok (.aload_n 0, 1) := by decide +kernel
theorem dX4_send_31 : decode cX4_send 31 = .ok (.dup, 1) := by decide +kernel
theorem dX4_send_32 : decode cX4_send 32 = .ok (.getfield 22, 3) := by decide +kernel
theorem dX4_send_35 : decode cX4_send 35 = .ok (.iconst 1, 1) := by decide +kernel
theorem dX4_send_36 : decode cX4_send 36 = .ok (.iadd, 1) := by decide +kernel
theorem dX4_send_37 : decode cX4_send 37 = .ok (.putfield 22, 3) := by decide +kernel
theorem dX4_send_40 : decode cX4_send 40 = .ok (.return_, 1) := by decide +kernel
theorem dX4_land_0 : decode cX4_land 0 = .ok (.iload_n 1, 1) := by decide +kernel
theorem dX4_land_1 : decode cX4_land 1 = .ok (.bipush 61, 2) := by decide +kernel
theorem dX4_land_3 : decode cX4_land 3 = .ok (.invokestatic 31, 3) := by decide +kernel
theorem dX4_land_6 : decode cX4_land 6 = .ok (.istore_n 2, 1) := by decide +kernel
theorem dX4_land_7 : decode cX4_land 7 = .ok (.aload_n 0, 1) := by decide +kernel
theorem dX4_land_8 : decode cX4_land 8 = .ok (.getfield 11, 3) := by decide +kernel
theorem dX4_land_11 : decode cX4_land 11 = .ok (.iload_n 2, 1) := by decide +kernel
theorem dX4_land_12 : decode cX4_land 12 = .ok (.invokestatic 35, 3) := by decide +kernel
theorem dX4_land_15 : decode cX4_land 15 = .ok (.istore_n 3, 1) := by decide +kernel
theorem dX4_land_16 : decode cX4_land 16 = .ok (.aload_n 0, 1) := by decide +kernel
theorem dX4_land_17 : decode cX4_land 17 = .ok (.getfield 11, 3) := by decide +kernel
theorem dX4_land_20 : decode cX4_land 20 = .ok (.iload_n 2, 1) := by decide +kernel
theorem dX4_land_21 : decode cX4_land 21 = .ok (.iconst 0, 1) := by decide +kernel
theorem dX4_land_22 : decode cX4_land 22 = .ok (.invokestatic 39, 3) := by decide +kernel
theorem dX4_land_25 : decode cX4_land 25 = .ok (.aload_n 0, 1) := by decide +kernel
theorem dX4_land_26 : decode cX4_land 26 = .ok (.dup, 1) := by decide +kernel
theorem dX4_land_27 : decode cX4_land 27 = .ok (.getfield 22, 3) := by decide +kernel
theorem dX4_land_30 : decode cX4_land 30 = .ok (.iload_n 3, 1) := by decide +kernel
theorem dX4_land_31 : decode cX4_land 31 = .ok (.isub, 1) := by decide +kernel
theorem dX4_land_32 : decode cX4_land 32 = .ok (.putfield 22, 3) := by decide +kernel
theorem dX4_land_35 : decode cX4_land 35 = .ok (.iload_n 3, 1) := by decide +kernel
theorem dX4_land_36 : decode cX4_land 36 = .ok (.ireturn, 1) := by decide +kernel
theorem dX5_init_0 : decode cX5_init 0 = .ok (.aload_n 0, 1) := by decide +kernel
theorem dX5_init_1 : decode cX5_init 1 = .ok (.invokespecial 1, 3) := by decide +kernel
theorem dX5_init_4 : decode cX5_init 4 = .ok (.return_, 1) := by decide +kernel
theorem dX5_clear_0 : decode cX5_clear 0 = .ok (.aload_n 0, 1) := by decide +kernel
theorem dX5_clear_1 : decode cX5_clear 1 = .ok (.lconst 0, 1) := by decide +kernel
theorem dX5_clear_2 : decode cX5_clear 2 = .ok (.putfield 7, 3) := by decide +kernel
theorem dX5_clear_5 : decode cX5_clear 5 = .ok (.aload_n 0, 1) := by decide +kernel
theorem dX5_clear_6 : decode cX5_clear 6 = .ok (.lconst 0, 1) := by decide +kernel
theorem dX5_clear_7 : decode cX5_clear 7 = .ok (.putfield 13, 3) := by decide +kernel
theorem dX5_clear_10 : decode cX5_clear 10 = .ok (.return_, 1) := by decide +kernel
theorem dX5_add_0 : decode cX5_add 0 = .ok (.iload_n 1, 1) := by decide +kernel
theorem dX5_add_1 : decode cX5_add 1 = .ok (.bipush 64, 2) := by decide +kernel
theorem dX5_add_3 : decode cX5_add 3 = .ok (.if_icmp .ge 18, 3) := by decide +kernel
theorem dX5_add_6 : decode cX5_add 6 = .ok (.aload_n 0, 1) := by decide +kernel
theorem dX5_add_7 : decode cX5_add 7 = .ok (.dup, 1) := by decide +kernel
theorem dX5_add_8 : decode cX5_add 8 = .ok (.getfield 7, 3) := by decide +kernel
theorem dX5_add_11 : decode cX5_add 11 = .ok (.lconst 1, 1) := by decide +kernel
theorem dX5_add_12 : decode cX5_add 12 = .ok (.iload_n 1, 1) := by decide +kernel
theorem dX5_add_13 : decode cX5_add 13 = .ok (.lshl, 1) := by decide +kernel
theorem dX5_add_14 : decode cX5_add 14 = .ok (.lor, 1) := by decide +kernel
theorem dX5_add_15 : decode cX5_add 15 = .ok (.putfield 7, 3) := by decide +kernel
theorem dX5_add_18 : decode cX5_add 18 = .ok (.goto 18, 3) := by decide +kernel
theorem dX5_add_21 : decode cX5_add 21 = .ok (.aload_n 0, 1) := by decide +kernel
theorem dX5_add_22 : decode cX5_add 22 = .ok (.dup, 1) := by decide +kernel
theorem dX5_add_23 : decode cX5_add 23 = .ok (.getfield 13, 3) := by decide +kernel
theorem dX5_add_26 : decode cX5_add 26 = .ok (.lconst 1, 1) := by decide +kernel
theorem dX5_add_27 : decode cX5_add 27 = .ok (.iload_n 1, 1) := by decide +kernel
theorem dX5_add_28 : decode cX5_add 28 = .ok (.bipush 64, 2) := by decide +kernel
theorem dX5_add_30 : decode cX5_add 30 = .ok (.isub, 1) := by decide +kernel
theorem dX5_add_31 : decode cX5_add 31 = .ok (.lshl, 1) := by decide +kernel
theorem dX5_add_32 : decode cX5_add 32 = .ok (.lor, 1) := by decide +kernel
theorem dX5_add_33 : decode cX5_add 33 = .ok (.putfield 13, 3) := by decide +kernel
theorem dX5_add_36 : decode cX5_add 36 = .ok (.return_, 1) := by decide +kernel
theorem dX5_remove_0 : decode cX5_remove 0 = .ok (.iload_n 1, 1) := by decide +kernel
theorem dX5_remove_1 : decode cX5_remove 1 = .ok (.bipush 64, 2) := by decide +kernel
theorem dX5_remove_3 : decode cX5_remove 3 = .ok (.if_icmp .ge 22, 3) := by decide +kernel
theorem dX5_remove_6 : decode cX5_remove 6 = .ok (.aload_n 0, 1) := by decide +kernel
theorem dX5_remove_7 : decode cX5_remove 7 = .ok (.dup, 1) := by decide +kernel
theorem dX5_remove_8 : decode cX5_remove 8 = .ok (.getfield 7, 3) := by decide +kernel
theorem dX5_remove_11 : decode cX5_remove 11 = .ok (.lconst 1, 1) := by decide +kernel
theorem dX5_remove_12 : decode cX5_remove 12 = .ok (.iload_n 1, 1) := by decide +kernel
theorem dX5_remove_13 : decode cX5_remove 13 = .ok (.lshl, 1) := by decide +kernel
theorem dX5_remove_14 : decode cX5_remove 14 = .ok (.ldc2_w 16, 3) := by decide +kernel
theorem dX5_remove_17 : decode cX5_remove 17 = .ok (.lxor, 1) := by decide +kernel
theorem dX5_remove_18 : decode cX5_remove 18 = .ok (.land, 1) := by decide +kernel
theorem dX5_remove_19 : decode cX5_remove 19 = .ok (.putfield 7, 3) := by decide +kernel
theorem dX5_remove_22 : decode cX5_remove 22 = .ok (.goto 22, 3) := by decide +kernel
theorem dX5_remove_25 : decode cX5_remove 25 = .ok (.aload_n 0, 1) := by decide +kernel
theorem dX5_remove_26 : decode cX5_remove 26 = .ok (.dup, 1) := by decide +kernel
theorem dX5_remove_27 : decode cX5_remove 27 = .ok (.getfield 13, 3) := by decide +kernel
theorem dX5_remove_30 : decode cX5_remove 30 = .ok (.lconst 1, 1) := by decide +kernel
theorem dX5_remove_31 : decode cX5_remove 31 = .ok (.iload_n 1, 1) := by decide +kernel
theorem dX5_remove_32 : decode cX5_remove 32 = .ok (.bipush 64, 2) := by decide +kernel
theorem dX5_remove_34 : decode cX5_remove 34 = .ok (.isub, 1) := by decide +kernel
theorem dX5_remove_35 : decode cX5_remove 35 = .ok (.lshl, 1) := by decide +kernel
theorem dX5_remove_36 : decode cX5_remove 36 = .ok (.ldc2_w 16, 3) := by decide +kernel
theorem dX5_remove_39 : decode cX5_remove 39 = .ok (.lxor, 1) := by decide +kernel
theorem dX5_remove_40 : decode cX5_remove 40 = .ok (.land, 1) := by decide +kernel
theorem dX5_remove_41 : decode cX5_remove 41 = .ok (.putfield 13, 3) := by decide +kernel
theorem dX5_remove_44 : decode cX5_remove 44 = .ok (.return_, 1) := by decide +kernel
theorem dX5_has_0 : decode cX5_has 0 = .ok (.iload_n 1, 1) := by decide +kernel
theorem dX5_has_1 : decode cX5_has 1 = .ok (.bipush 64, 2) := by decide +kernel
theorem dX5_has_3 : decode cX5_has 3 = .ok (.if_icmp .ge 12, 3) := by decide +kernel
theorem dX5_has_6 : decode cX5_has 6 = .ok (.aload_n 0, 1) := by decide +kernel
theorem dX5_has_7 : decode cX5_has 7 = .ok (.getfield 7, 3) := by decide +kernel
theorem dX5_has_10 : decode cX5_has 10 = .ok (.iload_n 1, 1) := by decide +kernel
theorem dX5_has_11 : decode cX5_has 11 = .ok (.lushr, 1) := by decide +kernel
theorem dX5_has_12 : decode cX5_has 12 = .ok (.goto 12, 3) := by decide +kernel
theorem dX5_has_15 : decode cX5_has 15 = .ok (.aload_n 0, 1) := by decide +kernel
theorem dX5_has_16 : decode cX5_has 16 = .ok (.getfield 13, 3) := by decide +kernel
theorem dX5_has_19 : decode cX5_has 19 = .ok (.iload_n 1, 1) := by decide +kernel
theorem dX5_has_20 : decode cX5_has 20 = .ok (.bipush 64, 2) := by decide +kernel
theorem dX5_has_22 : decode cX5_has 22 = .ok (.isub, 1) := by decide +kernel
theorem dX5_has_23 : decode cX5_has 23 = .ok (.lushr, 1) := by decide +kernel
theorem dX5_has_24 : decode cX5_has 24 = .ok (.lstore_n 2, 1) := by decide +kernel
theorem dX5_has_25 : decode cX5_has 25 = .ok (.lload_n 2, 1) := by decide +kernel
theorem dX5_has_26 : decode cX5_has 26 = .ok (.lconst 1, 1) := by decide +kernel
theorem dX5_has_27 : decode cX5_has 27 = .ok (.land, 1) := by decide +kernel
theorem dX5_has_28 : decode cX5_has 28 = .ok (.lconst 0, 1) := by decide +kernel
theorem dX5_has_29 : decode cX5_has 29 = .ok (.lcmp, 1) := by decide +kernel
theorem dX5_has_30 : decode cX5_has 30 = .ok (.ifCond .eq 7, 3) := by decide +kernel
theorem dX5_has_33 : decode cX5_has 33 = .ok (.iconst 1, 1) := by decide +kernel
theorem dX5_has_34 : decode cX5_has 34 = .ok (.goto 4, 3) := by decide +kernel
theorem dX5_has_37 : decode cX5_has 37 = .ok (.iconst 0, 1) := by decide +kernel
theorem dX5_has_38 : decode cX5_has 38 = .ok (.ireturn, 1) := by decide +kernel
theorem dX5_becomeCommon_0 : decode cX5_becomeCommon 0 = .ok (.aload_n 0, 1) := by decide +kernel
theorem dX5_becomeCommon_1 : decode cX5_becomeCommon 1 = .ok (.aload_n 1, 1) := by decide +kernel
theorem dX5_becomeCommon_2 : decode cX5_becomeCommon 2 = .ok (.getfield 7, 3) := by decide +kernel
theorem dX5_becomeCommon_5 : decode cX5_becomeCommon 5 = .ok (.aload_n 2, 1) := by decide +kernel
theorem dX5_becomeCommon_6 : decode cX5_becomeCommon 6 = .ok (.getfield 7, 3) := by decide +kernel
theorem dX5_becomeCommon_9 : decode cX5_becomeCommon 9 = .ok (.land, 1) := by decide +kernel
theorem dX5_becomeCommon_10 : decode cX5_becomeCommon 10 = .ok (.putfield 7, 3) := by decide +kernel
theorem dX5_becomeCommon_13 : decode cX5_becomeCommon 13 = .ok (.aload_n 0, 1) := by decide +kernel
theorem dX5_becomeCommon_14 : decode cX5_becomeCommon 14 = .ok (.aload_n 1, 1) := by decide +kernel
theorem dX5_becomeCommon_15 : decode cX5_becomeCommon 15 = .ok (.getfield 13, 3) := by decide +kernel
theorem dX5_becomeCommon_18 : decode cX5_becomeCommon 18 = .ok (.aload_n 2, 1) := by decide +kernel
theorem dX5_becomeCommon_19 : decode cX5_becomeCommon 19 = .ok (.getfield 13, 3) := by decide +kernel
theorem dX5_becomeCommon_22 : decode cX5_becomeCommon 22 = .ok (.land, 1) := by decide +kernel
theorem dX5_becomeCommon_23 : decode cX5_becomeCommon 23 = .ok (.putfield 13, 3) := by decide +kernel
theorem dX5_becomeCommon_26 : decode cX5_becomeCommon 26 = .ok (.return_, 1) := by decide +kernel
theorem dX5_countCommon_0 : decode cX5_countCommon 0 = .ok (.aload_n 0, 1) := by decide +kernel
theorem dX5_countCommon_1 : decode cX5_countCommon 1 = .ok (.getfield 7, 3) := by decide +kernel
theorem dX5_countCommon_4 : decode cX5_countCommon 4 = .ok (.aload_n 1, 1) := by decide +kernel
theorem dX5_countCommon_5 : decode cX5_countCommon 5 = .ok (.getfield 7, 3) := by decide +kernel
theorem dX5_countCommon_8 : decode cX5_countCommon 8 = .ok (.land, 1) := by decide +kernel
theorem dX5_countCommon_9 : decode cX5_countCommon 9 = .ok (.invokestatic 18, 3) := by decide +kernel
theorem dX5_countCommon_12 : decode cX5_countCommon 12 = .ok (.aload_n 0, 1) := by decide +kernel
theorem dX5_countCommon_13 : decode cX5_countCommon 13 = .ok (.getfield 13, 3) := by decide +kernel
theorem dX5_countCommon_16 : decode cX5_countCommon 16 = .ok (.aload_n 1, 1) := by decide +kernel
theorem dX5_countCommon_17 : decode cX5_countCommon 17 = .ok (.getfield 13, 3) := by decide +kernel
theorem dX5_countCommon_20 : decode cX5_countCommon 20 = .ok (.land, 1) := by decide +kernel
theorem dX5_countCommon_21 : decode cX5_countCommon 21 = .ok (.invokestatic 18, 3) := by decide +kernel
theorem dX5_countCommon_24 : decode cX5_countCommon 24 = .ok (.iadd, 1) := by decide +kernel
theorem dX5_countCommon_25 : decode cX5_countCommon 25 = .ok (.ireturn, 1) := by decide +kernel
theorem dX5_turn_0 : decode cX5_turn 0 = .ok (.aload_n 0, 1) := by decide +kernel
theorem dX5_turn_1 : decode cX5_turn 1 = .ok (.iload_n 1, 1) := by decide +kernel
theorem dX5_turn_2 : decode cX5_turn 2 = .ok (.iconst 1, 1) := by decide +kernel
theorem dX5_turn_3 : decode cX5_turn 3 = .ok (.isub, 1) := by decide +kernel
theorem dX5_turn_4 : decode cX5_turn 4 = .ok (.invokevirtual 24, 3) := by decide +kernel
theorem dX5_turn_7 : decode cX5_turn 7 = .ok (.ifCond .eq 7, 3) := by decide +kernel
theorem dX5_turn_10 : decode cX5_turn 10 = .ok (.lconst 1, 1) := by decide +kernel
theorem dX5_turn_11 : decode cX5_turn 11 = .ok (.goto 4, 3) := by decide +kernel
theorem dX5_turn_14 : decode cX5_turn 14 = .ok (.lconst 0, 1) := by decide +kernel
theorem dX5_turn_15 : decode cX5_turn 15 = .ok (.lstore_n 2, 1) := by decide +kernel
theorem dX5_turn_16 : decode cX5_turn 16 = .ok (.aload_n 0, 1) := by decide +kernel
theorem dX5_turn_17 : decode cX5_turn 17 = .ok (.aload_n 0, 1) := by decide +kernel
theorem dX5_turn_18 : decode cX5_turn 18 = .ok (.getfield 13, 3) := by decide +kernel
theorem dX5_turn_21 : decode cX5_turn 21 = .ok (.iconst 1, 1) := by decide +kernel
theorem dX5_turn_22 : decode cX5_turn 22 = .ok (.lshl, 1) := by decide +kernel
theorem dX5_turn_23 : decode cX5_turn 23 = .ok (.aload_n 0, 1) := by decide +kernel
theorem dX5_turn_24 : decode cX5_turn 24 = .ok (.getfield 7, 3) := by decide +kernel
theorem dX5_turn_27 : decode cX5_turn 27 = .ok (.bipush 63, 2) := by decide +kernel
theorem dX5_turn_29 : decode cX5_turn 29 = .ok (.lushr, 1) := by decide +kernel
theorem dX5_turn_30 : decode cX5_turn 30 = .ok (.lor, 1) := by decide +kernel
theorem dX5_turn_31 : decode cX5_turn 31 = .ok (.putfield 13, 3) := by decide +kernel
theorem dX5_turn_34 : decode cX5_turn 34 = .ok (.aload_n 0, 1) := by decide +kernel
theorem dX5_turn_35 : decode cX5_turn 35 = .ok (.aload_n 0, 1) := by decide +kernel
theorem dX5_turn_36 : decode cX5_turn 36 = .ok (.getfield 7, 3) := by decide +kernel
theorem dX5_turn_39 : decode cX5_turn 39 = .ok (.iconst 1, 1) := by decide +kernel
theorem dX5_turn_40 : decode cX5_turn 40 = .ok (.lshl, 1) := by decide +kernel
theorem dX5_turn_41 : decode cX5_turn 41 = .ok (.lload_n 2, 1) := by decide +kernel
theorem dX5_turn_42 : decode cX5_turn 42 = .ok (.lor, 1) := by decide +kernel
theorem dX5_turn_43 : decode cX5_turn 43 = .ok (.putfield 7, 3) := by decide +kernel
theorem dX5_turn_46 : decode cX5_turn 46 = .ok (.aload_n 0, 1) := by decide +kernel
theorem dX5_turn_47 : decode cX5_turn 47 = .ok (.iload_n 1, 1) := by decide +kernel
theorem dX5_turn_48 : decode cX5_turn 48 = .ok (.invokevirtual 28, 3) := by decide +kernel
theorem dX5_turn_51 : decode cX5_turn 51 = .ok (.return_, 1) := by decide +kernel
theorem dX6_init_0 : decode cX6_init 0 = .ok (.aload_n 0, 1) := by decide +kernel
theorem dX6_init_1 : decode cX6_init 1 = .ok (.invokespecial 3, 3) := by decide +kernel
theorem dX6_init_4 : decode cX6_init 4 = .ok (.aload_n 0, 1) := by decide +kernel
theorem dX6_init_5 : decode cX6_init 5 = .ok (.aload_n 1, 1) := by decide +kernel
theorem dX6_init_6 : decode cX6_init 6 = .ok (.putfield 9, 3) := by decide +kernel
theorem dX6_init_9 : decode cX6_init 9 = .ok (.return_, 1) := by decide +kernel
theorem dX6_reset_0 : decode cX6_reset 0 = .ok (.aload_n 0, 1) := by decide +kernel
theorem dX6_reset_1 : decode cX6_reset 1 = .ok (.iconst 0, 1) := by decide +kernel
theorem dX6_reset_2 : decode cX6_reset 2 = .ok (.putfield 15, 3) := by decide +kernel
theorem dX6_reset_5 : decode cX6_reset 5 = .ok (.aload_n 0, 1) := by decide +kernel
theorem dX6_reset_6 : decode cX6_reset 6 = .ok (.iconst 0, 1) := by decide +kernel
theorem dX6_reset_7 : decode cX6_reset 7 = .ok (.putfield 19, 3) := by decide +kernel
theorem dX6_reset_10 : decode cX6_reset 10 = .ok (.aload_n 0, 1) := by decide +kernel
theorem dX6_reset_11 : decode cX6_reset 11 = .ok (.iconst 0, 1) := by decide +kernel
theorem dX6_reset_12 : decode cX6_reset 12 = .ok (.putfield 22, 3) := by decide +kernel
theorem dX6_reset_15 : decode cX6_reset 15 = .ok (.aload_n 0, 1) := by decide +kernel
theorem dX6_reset_16 : decode cX6_reset 16 = .ok (.iconst 0, 1) := by decide +kernel
theorem dX6_reset_17 : decode cX6_reset 17 = .ok (.putfield 25, 3) := by decide +kernel
theorem dX6_reset_20 : decode cX6_reset 20 = .ok (.aload_n 0, 1) := by decide +kernel
theorem dX6_reset_21 : decode cX6_reset 21 = .ok (.iconst 0, 1) := by decide +kernel
theorem dX6_reset_22 : decode cX6_reset 22 = .ok (.putfield 28, 3) := by decide +kernel
theorem dX6_reset_25 : decode cX6_reset 25 = .ok (.return_, 1) := by decide +kernel
theorem dX6_pass_0 : decode cX6_pass 0 = .ok (.aload_n 0, 1) := by decide +kernel
theorem dX6_pass_1 : decode cX6_pass 1 = .ok (.getfield 25, 3) := by decide +kernel
theorem dX6_pass_4 : decode cX6_pass 4 = .ok (.istore_n 2, 1) := by decide +kernel
theorem dX6_pass_5 : decode cX6_pass 5 = .ok (.aload_n 0, 1) := by decide +kernel
theorem dX6_pass_6 : decode cX6_pass 6 = .ok (.iconst 1, 1) := by decide +kernel
theorem dX6_pass_7 : decode cX6_pass 7 = .ok (.putfield 28, 3) := by decide +kernel
theorem dX6_pass_10 : decode cX6_pass 10 = .ok (.iconst 0, 1) := by decide +kernel
theorem dX6_pass_11 : decode cX6_pass 11 = .ok (.istore_n 3, 1) := by decide +kernel
theorem dX6_pass_12 : decode cX6_pass 12 = .ok (.iload_n 3, 1) := by decide +kernel
theorem dX6_pass_13 : decode cX6_pass 13 = .ok (.iload_n 1, 1) := by decide +kernel
theorem dX6_pass_14 : decode cX6_pass 14 = .ok (.if_icmp .ge 13, 3) := by decide +kernel
theorem dX6_pass_17 : decode cX6_pass 17 = .ok (.aload_n 0, 1) := by decide +kernel
theorem dX6_pass_18 : decode cX6_pass 18 = .ok (.invokevirtual 32, 3) := by decide +kernel
theorem dX6_pass_21 : decode cX6_pass 21 = .ok (.iinc 3 1, 3) := by decide +kernel
theorem dX6_pass_24 : decode cX6_pass 24 = .ok (.goto (-12), 3) := by decide +kernel
theorem dX6_pass_27 : decode cX6_pass 27 = .ok (.aload_n 0, 1) := by decide +kernel
theorem dX6_pass_28 : decode cX6_pass 28 = .ok (.getfield 25, 3) := by decide +kernel
theorem dX6_pass_31 : decode cX6_pass 31 = .ok (.iload_n 2, 1) := by decide +kernel
theorem dX6_pass_32 : decode cX6_pass 32 = .ok (.isub, 1) := by decide +kernel
theorem dX6_pass_33 : decode cX6_pass 33 = .ok (.ireturn, 1) := by decide +kernel
theorem dX6_passSecond_0 : decode cX6_passSecond 0 = .ok (.iconst 0, 1) := by decide +kernel
theorem dX6_passSecond_1 : decode cX6_passSecond 1 = .ok (.istore_n 1, 1) := by decide +kernel
theorem dX6_passSecond_2 : decode cX6_passSecond 2 = .ok (.iload_n 1, 1) := by decide +kernel
theorem dX6_passSecond_3 : decode cX6_passSecond 3 = .ok (.aload_n 0, 1) := by decide +kernel
theorem dX6_passSecond_4 : decode cX6_passSecond 4 = .ok (.getfield 9, 3) := by decide +kernel
theorem dX6_passSecond_7 : decode cX6_passSecond 7 = .ok (.getfield 35, 3) := by decide +kernel
theorem dX6_passSecond_10 : decode cX6_passSecond 10 = .ok (.if_icmp .ge 92, 3) := by decide +kernel
theorem dX6_passSecond_13 : decode cX6_passSecond 13 = .ok (.aload_n 0, 1) := by decide +kernel
theorem dX6_passSecond_14 : decode cX6_passSecond 14 = .ok (.getfield 9, 3) := by decide +kernel
theorem dX6_passSecond_17 : decode cX6_passSecond 17 = .ok (.iload_n 1, 1) := by decide +kernel
theorem dX6_passSecond_18 : decode cX6_passSecond 18 = .ok (.invokevirtual 40, 3) := by decide +kernel
theorem dX6_passSecond_21 : decode cX6_passSecond 21 = .ok (.astore_n 2, 1) := by decide +kernel
theorem dX6_passSecond_22 : decode cX6_passSecond 22 = .ok (.iload_n 1, 1) := by decide +kernel
theorem dX6_passSecond_23 : decode cX6_passSecond 23 = .ok (.ifCond .ne 11, 3) := by decide +kernel
theorem dX6_passSecond_26 : decode cX6_passSecond 26 = .ok (.aload_n 0, 1) := by decide +kernel
theorem dX6_passSecond_27 : decode cX6_passSecond 27 = .ok (.aload_n 2, 1) := by decide +kernel
theorem dX6_passSecond_28 : decode cX6_passSecond 28 = .ok (.invokevirtual 44, 3) := by decide +kernel
theorem dX6_passSecond_31 : decode cX6_passSecond 31 = .ok (.goto 29, 3) := by decide +kernel
theorem dX6_passSecond_34 : decode cX6_passSecond 34 = .ok (.aload_n 2, 1) := by decide +kernel
theorem dX6_passSecond_35 : decode cX6_passSecond 35 = .ok (.dup, 1) := by decide +kernel
theorem dX6_passSecond_36 : decode cX6_passSecond 36 = .ok (.getfield 48, 3) := by decide +kernel
theorem dX6_passSecond_39 : decode cX6_passSecond 39 = .ok (.aload_n 0, 1) := by decide +kernel
theorem dX6_passSecond_40 : decode cX6_passSecond 40 = .ok (.getfield 9, 3) := by decide +kernel
theorem dX6_passSecond_43 : decode cX6_passSecond 43 = .ok (.iload_n 1, 1) := by decide +kernel
theorem dX6_passSecond_44 : decode cX6_passSecond 44 = .ok (.iconst 1, 1) := by decide +kernel
theorem dX6_passSecond_45 : decode cX6_passSecond 45 = .ok (.isub, 1) := by decide +kernel
theorem dX6_passSecond_46 : decode cX6_passSecond 46 = .ok (.invokevirtual 53, 3) := by decide +kernel
theorem dX6_passSecond_49 : decode cX6_passSecond 49 = .ok (.aload_n 0, 1) := by decide +kernel
theorem dX6_passSecond_50 : decode cX6_passSecond 50 = .ok (.getfield 15, 3) := by decide +kernel
theorem dX6_passSecond_53 : decode cX6_passSecond 53 = .ok (.invokevirtual 57, 3) := by decide +kernel
theorem dX6_passSecond_56 : decode cX6_passSecond 56 = .ok (.iadd, 1) := by decide +kernel
theorem dX6_passSecond_57 : decode cX6_passSecond 57 = .ok (.putfield 48, 3) := by decide +kernel
theorem dX6_passSecond_60 : decode cX6_passSecond 60 = .ok (.aload_n 2, 1) := by decide +kernel
theorem dX6_passSecond_61 : decode cX6_passSecond 61 = .ok (.aload_n 0, 1) := by decide +kernel
theorem dX6_passSecond_62 : decode cX6_passSecond 62 = .ok (.getfield 15, 3) := by decide +kernel
theorem dX6_passSecond_65 : decode cX6_passSecond 65 = .ok (.invokevirtual 63, 3) := by decide +kernel
theorem dX6_passSecond_68 : decode cX6_passSecond 68 = .ok (.aload_n 2, 1) := by decide +kernel
theorem dX6_passSecond_69 : decode cX6_passSecond 69 = .ok (.getfield 67, 3) := by decide +kernel
theorem dX6_passSecond_72 : decode cX6_passSecond 72 = .ok (.iconst 2, 1) := by decide +kernel
theorem dX6_passSecond_73 : decode cX6_passSecond 73 = .ok (.if_icmp .ne 23, 3) := by decide +kernel
theorem dX6_passSecond_76 : decode cX6_passSecond 76 = .ok (.aload_n 2, 1) := by decide +kernel
theorem dX6_passSecond_77 : decode cX6_passSecond 77 = .ok (.getfield 48, 3) := by decide +kernel
theorem dX6_passSecond_80 : decode cX6_passSecond 80 = .ok (.ifCond .le 16, 3) := by decide +kernel
theorem dX6_passSecond_83 : decode cX6_passSecond 83 = .ok (.aload_n 0, 1) := by decide +kernel
theorem dX6_passSecond_84 : decode cX6_passSecond 84 = .ok (.iload_n 1, 1) := by decide +kernel
theorem dX6_passSecond_85 : decode cX6_passSecond 85 = .ok (.invokevirtual 70, 3) := by decide +kernel
theorem dX6_passSecond_88 : decode cX6_passSecond 88 = .ok (.ifCond .eq 8, 3) := by decide +kernel
theorem dX6_passSecond_91 : decode cX6_passSecond 91 = .ok (.aload_n 0, 1) := by decide +kernel
theorem dX6_passSecond_92 : decode cX6_passSecond 92 = .ok (.iload_n 1, 1) := by decide +kernel
theorem dX6_passSecond_93 : decode cX6_passSecond 93 = .ok (.invokevirtual 74, 3) := by decide +kernel
theorem dX6_passSecond_96 : decode cX6_passSecond 96 = .ok (.iinc 1 1, 3) := by decide +kernel
theorem dX6_passSecond_99 : decode cX6_passSecond 99 = .ok (.goto (-97), 3) := by decide +kernel
theorem dX6_passSecond_102 : decode cX6_passSecond 102 = .ok (.aload_n 0, 1) := by decide +kernel
theorem dX6_passSecond_103 : decode cX6_passSecond 103 = .ok (.dup, 1) := by decide +kernel
theorem dX6_passSecond_104 : decode cX6_passSecond 104 = .ok (.getfield 15, 3) := by decide +kernel
theorem dX6_passSecond_107 : decode cX6_passSecond 107 = .ok (.iconst 1, 1) := by decide +kernel
theorem dX6_passSecond_108 : decode cX6_passSecond 108 = .ok (.iadd, 1) := by decide +kernel
theorem dX6_passSecond_109 : decode cX6_passSecond 109 = .ok (.putfield 15, 3) := by decide +kernel
theorem dX6_passSecond_112 : decode cX6_passSecond 112 = .ok (.return_, 1) := by decide +kernel
theorem dX6_letCome_0 : decode cX6_letCome 0 = .ok (.aload_n 0, 1) := by decide +kernel
theorem dX6_letCome_1 : decode cX6_letCome 1 = .ok (.dup, 1) := by decide +kernel
theorem dX6_letCome_2 : decode cX6_letCome 2 = .ok (.getfield 19, 3) := by decide +kernel
theorem dX6_letCome_5 : decode cX6_letCome 5 = .ok (.aload_n 1, 1) := by decide +kernel
theorem dX6_letCome_6 : decode cX6_letCome 6 = .ok (.iconst 0, 1) := by decide +kernel
theorem dX6_letCome_7 : decode cX6_letCome 7 = .ok (.invokevirtual 77, 3) := by decide +kernel
theorem dX6_letCome_10 : decode cX6_letCome 10 = .ok (.iadd, 1) := by decide +kernel
theorem dX6_letCome_11 : decode cX6_letCome 11 = .ok (.putfield 19, 3) := by decide +kernel
theorem dX6_letCome_14 : decode cX6_letCome 14 = .ok (.aload_n 0, 1) := by decide +kernel
theorem dX6_letCome_15 : decode cX6_letCome 15 = .ok (.getfield 19, 3) := by decide +kernel
theorem dX6_letCome_18 : decode cX6_letCome 18 = .ok (.sipush 3600, 3) := by decide +kernel
theorem dX6_letCome_21 : decode cX6_letCome 21 = .ok (.if_icmp .lt 35, 3) := by decide +kernel
theorem dX6_letCome_24 : decode cX6_letCome 24 = .ok (.aload_n 0, 1) := by decide +kernel
theorem dX6_letCome_25 : decode cX6_letCome 25 = .ok (.dup, 1) := by decide +kernel
theorem dX6_letCome_26 : decode cX6_letCome 26 = .ok (.getfield 19, 3) := by decide +kernel
theorem dX6_letCome_29 : decode cX6_letCome 29 = .ok (.sipush 3600, 3) := by decide +kernel
theorem dX6_letCome_32 : decode cX6_letCome 32 = .ok (.isub, 1) := by decide +kernel
theorem dX6_letCome_33 : decode cX6_letCome 33 = .ok (.putfield 19, 3) := by decide +kernel
theorem dX6_letCome_36 : decode cX6_letCome 36 = .ok (.aload_n 1, 1) := by decide +kernel
theorem dX6_letCome_37 : decode cX6_letCome 37 = .ok (.dup, 1) := by decide +kernel
theorem dX6_letCome_38 : decode cX6_letCome 38 = .ok (.getfield 48, 3) := by decide +kernel
theorem dX6_letCome_41 : decode cX6_letCome 41 = .ok (.iconst 1, 1) := by decide +kernel
theorem dX6_letCome_42 : decode cX6_letCome 42 = .ok (.iadd, 1) := by decide +kernel
theorem dX6_letCome_43 : decode cX6_letCome 43 = .ok (.putfield 48, 3) := by decide +kernel
theorem dX6_letCome_46 : decode cX6_letCome 46 = .ok (.aload_n 0, 1) := by decide +kernel
theorem dX6_letCome_47 : decode cX6_letCome 47 = .ok (.dup, 1) := by decide +kernel
theorem dX6_letCome_48 : decode cX6_letCome 48 = .ok (.getfield 22, 3) := by decide +kernel
theorem dX6_letCome_51 : decode cX6_letCome 51 = .ok (.iconst 1, 1) := by decide +kernel
theorem dX6_letCome_52 : decode cX6_letCome 52 = .ok (.iadd, 1) := by decide +kernel
theorem dX6_letCome_53 : decode cX6_letCome 53 = .ok (.putfield 22, 3) := by decide +kernel
theorem dX6_letCome_56 : decode cX6_letCome 56 = .ok (.return_, 1) := by decide +kernel
theorem dX6_hasRoomBehind_0 : decode cX6_hasRoomBehind 0 = .ok (.aload_n 0, 1) := by decide +kernel
theorem dX6_hasRoomBehind_1 : decode cX6_hasRoomBehind 1 = .ok (.getfield 9, 3) := by decide +kernel
theorem dX6_hasRoomBehind_4 : decode cX6_hasRoomBehind 4 = .ok (.iload_n 1, 1) := by decide +kernel
theorem dX6_hasRoomBehind_5 : decode cX6_hasRoomBehind 5 = .ok (.invokevirtual 80, 3) := by decide +kernel
theorem dX6_hasRoomBehind_8 : decode cX6_hasRoomBehind 8 = .ok (.ifCond .ne 25, 3) := by decide +kernel
theorem dX6_hasRoomBehind_11 : decode cX6_hasRoomBehind 11 = .ok (.aload_n 0, 1) := by decide +kernel
theorem dX6_hasRoomBehind_12 : decode cX6_hasRoomBehind 12 = .ok (.getfield 9, 3) := by decide +kernel
theorem dX6_hasRoomBehind_15 : decode cX6_hasRoomBehind 15 = .ok (.iload_n 1, 1) := by decide +kernel
theorem dX6_hasRoomBehind_16 : decode cX6_hasRoomBehind 16 = .ok (.invokevirtual 83, 3) := by decide +kernel
theorem dX6_hasRoomBehind_19 : decode cX6_hasRoomBehind 19 = .ok (.aload_n 0, 1) := by decide +kernel
theorem dX6_hasRoomBehind_20 : decode cX6_hasRoomBehind 20 = .ok (.getfield 9, 3) := by decide +kernel
theorem dX6_hasRoomBehind_23 : decode cX6_hasRoomBehind 23 = .ok (.iload_n 1, 1) := by decide +kernel
theorem dX6_hasRoomBehind_24 : decode cX6_hasRoomBehind 24 = .ok (.invokevirtual 53, 3) := by decide +kernel
theorem dX6_hasRoomBehind_27 : decode cX6_hasRoomBehind 27 = .ok (.getfield 86, 3) := by decide +kernel
theorem dX6_hasRoomBehind_30 : decode cX6_hasRoomBehind 30 = .ok (.if_icmp .ge 7, 3) := by decide +kernel
theorem dX6_hasRoomBehind_33 : decode cX6_hasRoomBehind 33 = .ok (.iconst 1, 1) := by decide +kernel
theorem dX6_hasRoomBehind_34 : decode cX6_hasRoomBehind 34 = .ok (.goto 4, 3) := by decide +kernel
theorem dX6_hasRoomBehind_37 : decode cX6_hasRoomBehind 37 = .ok (.iconst 0, 1) := by decide +kernel
theorem dX6_hasRoomBehind_38 : decode cX6_hasRoomBehind 38 = .ok (.ireturn, 1) := by decide +kernel
theorem dX6_letLeave_0 : decode cX6_letLeave 0 = .ok (.aload_n 0, 1) := by decide +kernel
theorem dX6_letLeave_1 : decode cX6_letLeave 1 = .ok (.getfield 9, 3) := by decide +kernel
theorem dX6_letLeave_4 : decode cX6_letLeave 4 = .ok (.iload_n 1, 1) := by decide +kernel
theorem dX6_letLeave_5 : decode cX6_letLeave 5 = .ok (.invokevirtual 40, 3) := by decide +kernel
theorem dX6_letLeave_8 : decode cX6_letLeave 8 = .ok (.astore_n 2, 1) := by decide +kernel
theorem dX6_letLeave_9 : decode cX6_letLeave 9 = .ok (.aload_n 2, 1) := by decide +kernel
theorem dX6_letLeave_10 : decode cX6_letLeave 10 = .ok (.dup, 1) := by decide +kernel
theorem dX6_letLeave_11 : decode cX6_letLeave 11 = .ok (.getfield 48, 3) := by decide +kernel
theorem dX6_letLeave_14 : decode cX6_letLeave 14 = .ok (.iconst 1, 1) := by decide +kernel
theorem dX6_letLeave_15 : decode cX6_letLeave 15 = .ok (.isub, 1) := by decide +kernel
theorem dX6_letLeave_16 : decode cX6_letLeave 16 = .ok (.putfield 48, 3) := by decide +kernel
theorem dX6_letLeave_19 : decode cX6_letLeave 19 = .ok (.aload_n 2, 1) := by decide +kernel
theorem dX6_letLeave_20 : decode cX6_letLeave 20 = .ok (.iconst 0, 1) := by decide +kernel
theorem dX6_letLeave_21 : decode cX6_letLeave 21 = .ok (.putfield 67, 3) := by decide +kernel
theorem dX6_letLeave_24 : decode cX6_letLeave 24 = .ok (.aload_n 0, 1) := by decide +kernel
theorem dX6_letLeave_25 : decode cX6_letLeave 25 = .ok (.getfield 9, 3) := by decide +kernel
theorem dX6_letLeave_28 : decode cX6_letLeave 28 = .ok (.iload_n 1, 1) := by decide +kernel
theorem dX6_letLeave_29 : decode cX6_letLeave 29 = .ok (.invokevirtual 80, 3) := by decide +kernel
theorem dX6_letLeave_32 : decode cX6_letLeave 32 = .ok (.ifCond .eq 16, 3) := by decide +kernel
theorem dX6_letLeave_35 : decode cX6_letLeave 35 = .ok (.aload_n 0, 1) := by decide +kernel
theorem dX6_letLeave_36 : decode cX6_letLeave 36 = .ok (.dup, 1) := by decide +kernel
theorem dX6_letLeave_37 : decode cX6_letLeave 37 = .ok (.getfield 25, 3) := by decide +kernel
theorem dX6_letLeave_40 : decode cX6_letLeave 40 = .ok (.iconst 1, 1) := by decide +kernel
theorem dX6_letLeave_41 : decode cX6_letLeave 41 = .ok (.iadd, 1) := by decide +kernel
theorem dX6_letLeave_42 : decode cX6_letLeave 42 = .ok (.putfield 25, 3) := by decide +kernel
theorem dX6_letLeave_45 : decode cX6_letLeave 45 = .ok (.goto 14, 3) := by decide +kernel
theorem dX6_letLeave_48 : decode cX6_letLeave 48 = .ok (.aload_n 2, 1) := by decide +kernel
theorem dX6_letLeave_49 : decode cX6_letLeave 49 = .ok (.getfield 89, 3) := by decide +kernel
theorem dX6_letLeave_52 : decode cX6_letLeave 52 = .ok (.aload_n 0, 1) := by decide +kernel
theorem dX6_letLeave_53 : decode cX6_letLeave 53 = .ok (.getfield 15, 3) := by decide +kernel
theorem dX6_letLeave_56 : decode cX6_letLeave 56 = .ok (.invokevirtual 93, 3) := by decide +kernel
theorem dX6_letLeave_59 : decode cX6_letLeave 59 = .ok (.return_, 1) := by decide +kernel
theorem dX7_init_0 : decode cX7_init 0 = .ok (.aload_n 0, 1) := by decide +kernel
theorem dX7_init_1 : decode cX7_init 1 = .ok (.invokespecial 1, 3) := by decide +kernel
theorem dX7_init_4 : decode cX7_init 4 = .ok (.aload_n 0, 1) := by decide +kernel
theorem dX7_init_5 : decode cX7_init 5 = .ok (.new 7, 3) := by decide +kernel
theorem dX7_init_8 : decode cX7_init 8 = .ok (.dup, 1) := by decide +kernel
theorem dX7_init_9 : decode cX7_init 9 = .ok (.invokespecial 9, 3) := by decide +kernel
theorem dX7_init_12 : decode cX7_init 12 = .ok (.putfield 10, 3) := by decide +kernel
theorem dX7_init_15 : decode cX7_init 15 = .ok (.aload_n 0, 1) := by decide +kernel
theorem dX7_init_16 : decode cX7_init 16 = .ok (.new 16, 3) := by decide +kernel
theorem dX7_init_19 : decode cX7_init 19 = .ok (.dup, 1) := by decide +kernel
theorem dX7_init_20 : decode cX7_init 20 = .ok (.aload_n 0, 1) := by decide +kernel
theorem dX7_init_21 : decode cX7_init 21 = .ok (.getfield 10, 3) := by decide +kernel
theorem dX7_init_24 : decode cX7_init 24 = .ok (.invokespecial 18, 3) := by decide +kernel
theorem dX7_init_27 : decode cX7_init 27 = .ok (.putfield 21, 3) := by decide +kernel
theorem dX7_init_30 : decode cX7_init 30 = .ok (.aload_n 0, 1) := by decide +kernel
theorem dX7_init_31 : decode cX7_init 31 = .ok (.new 25, 3) := by decide +kernel
theorem dX7_init_34 : decode cX7_init 34 = .ok (.dup, 1) := by decide +kernel
theorem dX7_init_35 : decode cX7_init 35 = .ok (.aload_n 0, 1) := by decide +kernel
theorem dX7_init_36 : decode cX7_init 36 = .ok (.getfield 10, 3) := by decide +kernel
theorem dX7_init_39 : decode cX7_init 39 = .ok (.invokespecial 27, 3) := by decide +kernel
theorem dX7_init_42 : decode cX7_init 42 = .ok (.putfield 28, 3) := by decide +kernel
theorem dX7_init_45 : decode cX7_init 45 = .ok (.aload_n 0, 1) := by decide +kernel
theorem dX7_init_46 : decode cX7_init 46 = .ok (.getfield 10, 3) := by decide +kernel
theorem dX7_init_49 : decode cX7_init 49 = .ok (.iconst 2, 1) := by decide +kernel
theorem dX7_init_50 : decode cX7_init 50 = .ok (.bipush 60, 2) := by decide +kernel
theorem dX7_init_52 : decode cX7_init 52 = .ok (.invokevirtual 32, 3) := by decide +kernel
theorem dX7_init_55 : decode cX7_init 55 = .ok (.return_, 1) := by decide +kernel
theorem dX7_begin_0 : decode cX7_begin 0 = .ok (.iload_n 1, 1) := by decide +kernel
theorem dX7_begin_1 : decode cX7_begin 1 = .ok (.iconst 2, 1) := by decide +kernel
theorem dX7_begin_2 : decode cX7_begin 2 = .ok (.iconst 5, 1) := by decide +kernel
theorem dX7_begin_3 : decode cX7_begin 3 = .ok (.invokestatic 36, 3) := by decide +kernel
theorem dX7_begin_6 : decode cX7_begin 6 = .ok (.ifCond .ne 14, 3) := by decide +kernel
theorem dX7_begin_9 : decode cX7_begin 9 = .ok (.iload_n 2, 1) := by decide +kernel
theorem dX7_begin_10 : decode cX7_begin 10 = .ok (.bipush 30, 2) := by decide +kernel
theorem dX7_begin_12 : decode cX7_begin 12 = .ok (.bipush 90, 2) := by decide +kernel
theorem dX7_begin_14 : decode cX7_begin 14 = .ok (.invokestatic 36, 3) := by decide +kernel
theorem dX7_begin_17 : decode cX7_begin 17 = .ok (.ifCond .eq 13, 3) := by decide +kernel
theorem dX7_begin_20 : decode cX7_begin 20 = .ok (.new 40, 3) := by decide +kernel
theorem dX7_begin_23 : decode cX7_begin 23 = .ok (.dup, 1) := by decide +kernel
theorem dX7_begin_24 : decode cX7_begin 24 = .ok (.ldc 42, 2) := by decide +kernel
theorem dX7_begin_26 : decode cX7_begin 26 = .ok (.invokespecial 44, 3) := by decide +kernel
theorem dX7_begin_29 : decode cX7_begin 29 = .ok (.athrow, 1) := by decide +kernel
theorem dX7_begin_30 : decode cX7_begin 30 = .ok (.aload_n 0, 1) := by decide +kernel
theorem dX7_begin_31 : decode cX7_begin 31 = .ok (.getfield 10, 3) := by decide +kernel
theorem dX7_begin_34 : decode cX7_begin 34 = .ok (.iload_n 1, 1) := by decide +kernel
theorem dX7_begin_35 : decode cX7_begin 35 = .ok (.iload_n 2, 1) := by decide +kernel
theorem dX7_begin_36 : decode cX7_begin 36 = .ok (.invokevirtual 32, 3) := by decide +kernel
theorem dX7_begin_39 : decode cX7_begin 39 = .ok (.aload_n 0, 1) := by decide +kernel
theorem dX7_begin_40 : decode cX7_begin 40 = .ok (.getfield 28, 3) := by decide +kernel
theorem dX7_begin_43 : decode cX7_begin 43 = .ok (.invokevirtual 47, 3) := by decide +kernel
theorem dX7_begin_46 : decode cX7_begin 46 = .ok (.return_, 1) := by decide +kernel
theorem dX7_setConflict_0 : decode cX7_setConflict 0 = .ok (.aload_n 0, 1) := by decide +kernel
theorem dX7_setConflict_1 : decode cX7_setConflict 1 = .ok (.getfield 10, 3) := by decide +kernel
theorem dX7_setConflict_4 : decode cX7_setConflict 4 = .ok (.iload_n 1, 1) := by decide +kernel
theorem dX7_setConflict_5 : decode cX7_setConflict 5 = .ok (.invokevirtual 49, 3) := by decide +kernel
theorem dX7_setConflict_8 : decode cX7_setConflict 8 = .ok (.astore 5, 2) := by decide +kernel
theorem dX7_setConflict_10 : decode cX7_setConflict 10 = .ok (.iload_n 2, 1) := by decide +kernel
theorem dX7_setConflict_11 : decode cX7_setConflict 11 = .ok (.invokestatic 53, 3) := by decide +kernel
theorem dX7_setConflict_14 : decode cX7_setConflict 14 = .ok (.iload_n 3, 1) := by decide +kernel
theorem dX7_setConflict_15 : decode cX7_setConflict 15 = .ok (.invokestatic 53, 3) := by decide +kernel
theorem dX7_setConflict_18 : decode cX7_setConflict 18 = .ok (.iload_n 2, 1) := by decide +kernel
theorem dX7_setConflict_19 : decode cX7_setConflict 19 = .ok (.iload_n 3, 1) := by decide +kernel
theorem dX7_setConflict_20 : decode cX7_setConflict 20 = .ok (.if_icmp .eq 14, 3) := by decide +kernel
theorem dX7_setConflict_23 : decode cX7_setConflict 23 = .ok (.iload 4, 2) := by decide +kernel
theorem dX7_setConflict_25 : decode cX7_setConflict 25 = .ok (.iconst (-1), 1) := by decide +kernel
theorem dX7_setConflict_26 : decode cX7_setConflict 26 = .ok (.bipush 9, 2) := by decide +kernel
theorem dX7_setConflict_28 : decode cX7_setConflict 28 = .ok (.invokestatic 36, 3) := by decide +kernel
theorem dX7_setConflict_31 : decode cX7_setConflict 31 = .ok (.ifCond .eq 13, 3) := by decide +kernel
theorem dX7_setConflict_34 : decode cX7_setConflict 34 = .ok (.new 40, 3) := by decide +kernel
theorem dX7_setConflict_37 : decode cX7_setConflict 37 = .ok (.dup, 1) := by decide +kernel
theorem dX7_setConflict_38 : decode cX7_setConflict 38 = .ok (.ldc 57, 2) := by decide +kernel
theorem dX7_setConflict_40 : decode cX7_setConflict 40 = .ok (.invokespecial 44, 3) := by decide +kernel
theorem dX7_setConflict_43 : decode cX7_setConflict 43 = .ok (.athrow, 1) := by decide +kernel
theorem dX7_setConflict_44 : decode cX7_setConflict 44 = .ok (.aload_n 0, 1) := by decide +kernel
theorem dX7_setConflict_45 : decode cX7_setConflict 45 = .ok (.invokevirtual 59, 3) := by decide +kernel
theorem dX7_setConflict_48 : decode cX7_setConflict 48 = .ok (.iload 4, 2) := by decide +kernel
theorem dX7_setConflict_50 : decode cX7_setConflict 50 = .ok (.iconst (-1), 1) := by decide +kernel
theorem dX7_setConflict_51 : decode cX7_setConflict 51 = .ok (.if_icmp .eq 23, 3) := by decide +kernel
theorem dX7_setConflict_54 : decode cX7_setConflict 54 = .ok (.aload 5, 2) := by decide +kernel
theorem dX7_setConflict_56 : decode cX7_setConflict 56 = .ok (.iload_n 2, 1) := by decide +kernel
theorem dX7_setConflict_57 : decode cX7_setConflict 57 = .ok (.iload_n 3, 1) := by decide +kernel
theorem dX7_setConflict_58 : decode cX7_setConflict 58 = .ok (.invokevirtual 62, 3) := by decide +kernel
theorem dX7_setConflict_61 : decode cX7_setConflict 61 = .ok (.ifCond .eq 13, 3) := by decide +kernel
theorem dX7_setConflict_64 : decode cX7_setConflict 64 = .ok (.new 68, 3) := by decide +kernel
theorem dX7_setConflict_67 : decode cX7_setConflict 67 = .ok (.dup, 1) := by decide +kernel
theorem dX7_setConflict_68 : decode cX7_setConflict 68 = .ok (.ldc 70, 2) := by decide +kernel
theorem dX7_setConflict_70 : decode cX7_setConflict 70 = .ok (.invokespecial 72, 3) := by decide +kernel
theorem dX7_setConflict_73 : decode cX7_setConflict 73 = .ok (.athrow, 1) := by decide +kernel
theorem dX7_setConflict_74 : decode cX7_setConflict 74 = .ok (.aload 5, 2) := by decide +kernel
theorem dX7_setConflict_76 : decode cX7_setConflict 76 = .ok (.iload_n 2, 1) := by decide +kernel
theorem dX7_setConflict_77 : decode cX7_setConflict 77 = .ok (.iload_n 3, 1) := by decide +kernel
theorem dX7_setConflict_78 : decode cX7_setConflict 78 = .ok (.invokevirtual 73, 3) := by decide +kernel
theorem dX7_setConflict_81 : decode cX7_setConflict 81 = .ok (.istore 6, 2) := by decide +kernel
theorem dX7_setConflict_83 : decode cX7_setConflict 83 = .ok (.aload 5, 2) := by decide +kernel
theorem dX7_setConflict_85 : decode cX7_setConflict 85 = .ok (.iload_n 2, 1) := by decide +kernel
theorem dX7_setConflict_86 : decode cX7_setConflict 86 = .ok (.iload_n 3, 1) := by decide +kernel
theorem dX7_setConflict_87 : decode cX7_setConflict 87 = .ok (.iload 4, 2) := by decide +kernel
theorem dX7_setConflict_89 : decode cX7_setConflict 89 = .ok (.invokevirtual 77, 3) := by decide +kernel
theorem dX7_setConflict_92 : decode cX7_setConflict 92 = .ok (.iload 6, 2) := by decide +kernel
theorem dX7_setConflict_94 : decode cX7_setConflict 94 = .ok (.ireturn, 1) := by decide +kernel
theorem dX7_setPhases_0 : decode cX7_setPhases 0 = .ok (.aload_n 0, 1) := by decide +kernel
theorem dX7_setPhases_1 : decode cX7_setPhases 1 = .ok (.getfield 10, 3) := by decide +kernel
theorem dX7_setPhases_4 : decode cX7_setPhases 4 = .ok (.iload_n 1, 1) := by decide +kernel
theorem dX7_setPhases_5 : decode cX7_setPhases 5 = .ok (.invokevirtual 49, 3) := by decide +kernel
theorem dX7_setPhases_8 : decode cX7_setPhases 8 = .ok (.astore 6, 2) := by decide +kernel
theorem dX7_setPhases_10 : decode cX7_setPhases 10 = .ok (.iload_n 2, 1) := by decide +kernel
theorem dX7_setPhases_11 : decode cX7_setPhases 11 = .ok (.iconst 1, 1) := by decide +kernel
theorem dX7_setPhases_12 : decode cX7_setPhases 12 = .ok (.bipush 15, 2) := by decide +kernel
theorem dX7_setPhases_14 : decode cX7_setPhases 14 = .ok (.invokestatic 36, 3) := by decide +kernel
theorem dX7_setPhases_17 : decode cX7_setPhases 17 = .ok (.ifCond .ne 52, 3) := by decide +kernel
theorem dX7_setPhases_20 : decode cX7_setPhases 20 = .ok (.iload_n 3, 1) := by decide +kernel
theorem dX7_setPhases_21 : decode cX7_setPhases 21 = .ok (.iconst 0, 1) := by decide +kernel
theorem dX7_setPhases_22 : decode cX7_setPhases 22 = .ok (.bipush 15, 2) := by decide +kernel
theorem dX7_setPhases_24 : decode cX7_setPhases 24 = .ok (.invokestatic 36, 3) := by decide +kernel
theorem dX7_setPhases_27 : decode cX7_setPhases 27 = .ok (.ifCond .ne 42, 3) := by decide +kernel
theorem dX7_setPhases_30 : decode cX7_setPhases 30 = .ok (.iload 4, 2) := by decide +kernel
theorem dX7_setPhases_32 : decode cX7_setPhases 32 = .ok (.iconst 0, 1) := by decide +kernel
theorem dX7_setPhases_33 : decode cX7_setPhases 33 = .ok (.iload_n 3, 1) := by decide +kernel
theorem dX7_setPhases_34 : decode cX7_setPhases 34 = .ok (.ifCond .ne 7, 3) := by decide +kernel
theorem dX7_setPhases_37 : decode cX7_setPhases 37 = .ok (.iconst 0, 1) := by decide +kernel
theorem dX7_setPhases_38 : decode cX7_setPhases 38 = .ok (.goto 5, 3) := by decide +kernel
theorem dX7_setPhases_41 : decode cX7_setPhases 41 = .ok (.bipush 15, 2) := by decide +kernel
theorem dX7_setPhases_43 : decode cX7_setPhases 43 = .ok (.invokestatic 36, 3) := by decide +kernel
theorem dX7_setPhases_46 : decode cX7_setPhases 46 = .ok (.ifCond .ne 23, 3) := by decide +kernel
theorem dX7_setPhases_49 : decode cX7_setPhases 49 = .ok (.iload 5, 2) := by decide +kernel
theorem dX7_setPhases_51 : decode cX7_setPhases 51 = .ok (.iconst 0, 1) := by decide +kernel
theorem dX7_setPhases_52 : decode cX7_setPhases 52 = .ok (.iload 4, 2) := by decide +kernel
theorem dX7_setPhases_54 : decode cX7_setPhases 54 = .ok (.ifCond .ne 7, 3) := by decide +kernel
theorem dX7_setPhases_57 : decode cX7_setPhases 57 = .ok (.iconst 0, 1) := by decide +kernel
theorem dX7_setPhases_58 : decode cX7_setPhases 58 = .ok (.goto 5, 3) := by decide +kernel
theorem dX7_setPhases_61 : decode cX7_setPhases 61 = .ok (.bipush 15, 2) := by decide +kernel
theorem dX7_setPhases_63 : decode cX7_setPhases 63 = .ok (.invokestatic 36, 3) := by decide +kernel
theorem dX7_setPhases_66 : decode cX7_setPhases 66 = .ok (.ifCond .eq 13, 3) := by decide +kernel
theorem dX7_setPhases_69 : decode cX7_setPhases 69 = .ok (.new 40, 3) := by decide +kernel
theorem dX7_setPhases_72 : decode cX7_setPhases 72 = .ok (.dup, 1) := by decide +kernel
theorem dX7_setPhases_73 : decode cX7_setPhases 73 = .ok (.ldc 81, 2) := by decide +kernel
theorem dX7_setPhases_75 : decode cX7_setPhases 75 = .ok (.invokespecial 44, 3) := by decide +kernel
theorem dX7_setPhases_78 : decode cX7_setPhases 78 = .ok (.athrow, 1) := by decide +kernel
theorem dX7_setPhases_79 : decode cX7_setPhases 79 = .ok (.aload_n 0, 1) := by decide +kernel
theorem dX7_setPhases_80 : decode cX7_setPhases 80 = .ok (.invokevirtual 59, 3) := by decide +kernel
theorem dX7_setPhases_83 : decode cX7_setPhases 83 = .ok (.aload 6, 2) := by decide +kernel
theorem dX7_setPhases_85 : decode cX7_setPhases 85 = .ok (.iload_n 2, 1) := by decide +kernel
theorem dX7_setPhases_86 : decode cX7_setPhases 86 = .ok (.invokevirtual 83, 3) := by decide +kernel
theorem dX7_setPhases_89 : decode cX7_setPhases 89 = .ok (.ifCond .ne 32, 3) := by decide +kernel
theorem dX7_setPhases_92 : decode cX7_setPhases 92 = .ok (.aload 6, 2) := by decide +kernel
theorem dX7_setPhases_94 : decode cX7_setPhases 94 = .ok (.iload_n 3, 1) := by decide +kernel
theorem dX7_setPhases_95 : decode cX7_setPhases 95 = .ok (.invokevirtual 83, 3) := by decide +kernel
theorem dX7_setPhases_98 : decode cX7_setPhases 98 = .ok (.ifCond .ne 23, 3) := by decide +kernel
theorem dX7_setPhases_101 : decode cX7_setPhases 101 = .ok (.aload 6, 2) := by decide +kernel
theorem dX7_setPhases_103 : decode cX7_setPhases 103 = .ok (.iload 4, 2) := by decide +kernel
theorem dX7_setPhases_105 : decode cX7_setPhases 105 = .ok (.invokevirtual 83, 3) := by decide +kernel
theorem dX7_setPhases_108 : decode cX7_setPhases 108 = .ok (.ifCond .ne 13, 3) := by decide +kernel
theorem dX7_setPhases_111 : decode cX7_setPhases 111 = .ok (.aload 6, 2) := by decide +kernel
theorem dX7_setPhases_113 : decode cX7_setPhases 113 = .ok (.iload 5, 2) := by decide +kernel
theorem dX7_setPhases_115 : decode cX7_setPhases 115 = .ok (.invokevirtual 83, 3) := by decide +kernel
theorem dX7_setPhases_118 : decode cX7_setPhases 118 = .ok (.ifCond .eq 13, 3) := by decide +kernel
theorem dX7_setPhases_121 : decode cX7_setPhases 121 = .ok (.new 68, 3) := by decide +kernel
theorem dX7_setPhases_124 : decode cX7_setPhases 124 = .ok (.dup, 1) := by decide +kernel
theorem dX7_setPhases_125 : decode cX7_setPhases 125 = .ok (.ldc 70, 2) := by decide +kernel
theorem dX7_setPhases_127 : decode cX7_setPhases 127 = .ok (.invokespecial 72, 3) := by decide +kernel
theorem dX7_setPhases_130 : decode cX7_setPhases 130 = .ok (.athrow, 1) := by decide +kernel
theorem dX7_setPhases_131 : decode cX7_setPhases 131 = .ok (.aload 6, 2) := by decide +kernel
theorem dX7_setPhases_133 : decode cX7_setPhases 133 = .ok (.iload_n 2, 1) := by decide +kernel
theorem dX7_setPhases_134 : decode cX7_setPhases 134 = .ok (.iload_n 3, 1) := by decide +kernel
theorem dX7_setPhases_135 : decode cX7_setPhases 135 = .ok (.iload 4, 2) := by decide +kernel
theorem dX7_setPhases_137 : decode cX7_setPhases 137 = .ok (.iload 5, 2) := by decide +kernel
theorem dX7_setPhases_139 : decode cX7_setPhases 139 = .ok (.invokevirtual 87, 3) := by decide +kernel
theorem dX7_setPhases_142 : decode cX7_setPhases 142 = .ok (.aload 6, 2) := by decide +kernel
theorem dX7_setPhases_144 : decode cX7_setPhases 144 = .ok (.getfield 91, 3) := by decide +kernel
theorem dX7_setPhases_147 : decode cX7_setPhases 147 = .ok (.ireturn, 1) := by decide +kernel
theorem dX7_setFlow_0 : decode cX7_setFlow 0 = .ok (.aload_n 0, 1) := by decide +kernel
theorem dX7_setFlow_1 : decode cX7_setFlow 1 = .ok (.getfield 10, 3) := by decide +kernel
theorem dX7_setFlow_4 : decode cX7_setFlow 4 = .ok (.iload_n 1, 1) := by decide +kernel
theorem dX7_setFlow_5 : decode cX7_setFlow 5 = .ok (.invokevirtual 49, 3) := by decide +kernel
theorem dX7_setFlow_8 : decode cX7_setFlow 8 = .ok (.astore 4, 2) := by decide +kernel
theorem dX7_setFlow_10 : decode cX7_setFlow 10 = .ok (.iload_n 2, 1) := by decide +kernel
theorem dX7_setFlow_11 : decode cX7_setFlow 11 = .ok (.invokestatic 53, 3) := by decide +kernel
theorem dX7_setFlow_14 : decode cX7_setFlow 14 = .ok (.iload_n 3, 1) := by decide +kernel
theorem dX7_setFlow_15 : decode cX7_setFlow 15 = .ok (.iconst 0, 1) := by decide +kernel
theorem dX7_setFlow_16 : decode cX7_setFlow 16 = .ok (.sipush 1800, 3) := by decide +kernel
theorem dX7_setFlow_19 : decode cX7_setFlow 19 = .ok (.invokestatic 36, 3) := by decide +kernel
theorem dX7_setFlow_22 : decode cX7_setFlow 22 = .ok (.ifCond .eq 13, 3) := by decide +kernel
theorem dX7_setFlow_25 : decode cX7_setFlow 25 = .ok (.new 40, 3) := by decide +kernel
theorem dX7_setFlow_28 : decode cX7_setFlow 28 = .ok (.dup, 1) := by decide +kernel
theorem dX7_setFlow_29 : decode cX7_setFlow 29 = .ok (.ldc 95, 2) := by decide +kernel
theorem dX7_setFlow_31 : decode cX7_setFlow 31 = .ok (.invokespecial 44, 3) := by decide +kernel
theorem dX7_setFlow_34 : decode cX7_setFlow 34 = .ok (.athrow, 1) := by decide +kernel
theorem dX7_setFlow_35 : decode cX7_setFlow 35 = .ok (.aload_n 0, 1) := by decide +kernel
theorem dX7_setFlow_36 : decode cX7_setFlow 36 = .ok (.invokevirtual 59, 3) := by decide +kernel
theorem dX7_setFlow_39 : decode cX7_setFlow 39 = .ok (.aload 4, 2) := by decide +kernel
theorem dX7_setFlow_41 : decode cX7_setFlow 41 = .ok (.iload_n 2, 1) := by decide +kernel
theorem dX7_setFlow_42 : decode cX7_setFlow 42 = .ok (.invokevirtual 97, 3) := by decide +kernel
theorem dX7_setFlow_45 : decode cX7_setFlow 45 = .ok (.istore 5, 2) := by decide +kernel
theorem dX7_setFlow_47 : decode cX7_setFlow 47 = .ok (.aload 4, 2) := by decide +kernel
theorem dX7_setFlow_49 : decode cX7_setFlow 49 = .ok (.iload_n 2, 1) := by decide +kernel
theorem dX7_setFlow_50 : decode cX7_setFlow 50 = .ok (.iload_n 3, 1) := by decide +kernel
theorem dX7_setFlow_51 : decode cX7_setFlow 51 = .ok (.invokevirtual 101, 3) := by decide +kernel
theorem dX7_setFlow_54 : decode cX7_setFlow 54 = .ok (.iload 5, 2) := by decide +kernel
theorem dX7_setFlow_56 : decode cX7_setFlow 56 = .ok (.ireturn, 1) := by decide +kernel
theorem dX7_setLink_0 : decode cX7_setLink 0 = .ok (.aload_n 0, 1) := by decide +kernel
theorem dX7_setLink_1 : decode cX7_setLink 1 = .ok (.getfield 10, 3) := by decide +kernel
theorem dX7_setLink_4 : decode cX7_setLink 4 = .ok (.iload_n 1, 1) := by decide +kernel
theorem dX7_setLink_5 : decode cX7_setLink 5 = .ok (.invokevirtual 104, 3) := by decide +kernel
theorem dX7_setLink_8 : decode cX7_setLink 8 = .ok (.astore 4, 2) := by decide +kernel
theorem dX7_setLink_10 : decode cX7_setLink 10 = .ok (.iload_n 2, 1) := by decide +kernel
theorem dX7_setLink_11 : decode cX7_setLink 11 = .ok (.iconst 1, 1) := by decide +kernel
theorem dX7_setLink_12 : decode cX7_setLink 12 = .ok (.bipush 60, 2) := by decide +kernel
theorem dX7_setLink_14 : decode cX7_setLink 14 = .ok (.invokestatic 36, 3) := by decide +kernel
theorem dX7_setLink_17 : decode cX7_setLink 17 = .ok (.ifCond .ne 13, 3) := by decide +kernel
theorem dX7_setLink_20 : decode cX7_setLink 20 = .ok (.iload_n 3, 1) := by decide +kernel
theorem dX7_setLink_21 : decode cX7_setLink 21 = .ok (.iconst 1, 1) := by decide +kernel
theorem dX7_setLink_22 : decode cX7_setLink 22 = .ok (.bipush 40, 2) := by decide +kernel
theorem dX7_setLink_24 : decode cX7_setLink 24 = .ok (.invokestatic 36, 3) := by decide +kernel
theorem dX7_setLink_27 : decode cX7_setLink 27 = .ok (.ifCond .eq 13, 3) := by decide +kernel
theorem dX7_setLink_30 : decode cX7_setLink 30 = .ok (.new 40, 3) := by decide +kernel
theorem dX7_setLink_33 : decode cX7_setLink 33 = .ok (.dup, 1) := by decide +kernel
theorem dX7_setLink_34 : decode cX7_setLink 34 = .ok (.ldc 108, 2) := by decide +kernel
theorem dX7_setLink_36 : decode cX7_setLink 36 = .ok (.invokespecial 44, 3) := by decide +kernel
theorem dX7_setLink_39 : decode cX7_setLink 39 = .ok (.athrow, 1) := by decide +kernel
theorem dX7_setLink_40 : decode cX7_setLink 40 = .ok (.aload_n 0, 1) := by decide +kernel
theorem dX7_setLink_41 : decode cX7_setLink 41 = .ok (.invokevirtual 59, 3) := by decide +kernel
theorem dX7_setLink_44 : decode cX7_setLink 44 = .ok (.aload 4, 2) := by decide +kernel
theorem dX7_setLink_46 : decode cX7_setLink 46 = .ok (.iload_n 2, 1) := by decide +kernel
theorem dX7_setLink_47 : decode cX7_setLink 47 = .ok (.putfield 110, 3) := by decide +kernel
theorem dX7_setLink_50 : decode cX7_setLink 50 = .ok (.aload 4, 2) := by decide +kernel
theorem dX7_setLink_52 : decode cX7_setLink 52 = .ok (.iload_n 3, 1) := by decide +kernel
theorem dX7_setLink_53 : decode cX7_setLink 53 = .ok (.putfield 115, 3) := by decide +kernel
theorem dX7_setLink_56 : decode cX7_setLink 56 = .ok (.return_, 1) := by decide +kernel
theorem dX7_setOffset_0 : decode cX7_setOffset 0 = .ok (.aload_n 0, 1) := by decide +kernel
theorem dX7_setOffset_1 : decode cX7_setOffset 1 = .ok (.getfield 10, 3) := by decide +kernel
theorem dX7_setOffset_4 : decode cX7_setOffset 4 = .ok (.iload_n 1, 1) := by decide +kernel
theorem dX7_setOffset_5 : decode cX7_setOffset 5 = .ok (.invokevirtual 49, 3) := by decide +kernel
theorem dX7_setOffset_8 : decode cX7_setOffset 8 = .ok (.astore_n 3, 1) := by decide +kernel
theorem dX7_setOffset_9 : decode cX7_setOffset 9 = .ok (.iload_n 2, 1) := by decide +kernel
theorem dX7_setOffset_10 : decode cX7_setOffset 10 = .ok (.iconst 0, 1) := by decide +kernel
theorem dX7_setOffset_11 : decode cX7_setOffset 11 = .ok (.aload_n 0, 1) := by decide +kernel
theorem dX7_setOffset_12 : decode cX7_setOffset 12 = .ok (.getfield 10, 3) := by decide +kernel
theorem dX7_setOffset_15 : decode cX7_setOffset 15 = .ok (.getfield 118, 3) := by decide +kernel
theorem dX7_setOffset_18 : decode cX7_setOffset 18 = .ok (.iconst 1, 1) := by decide +kernel
theorem dX7_setOffset_19 : decode cX7_setOffset 19 = .ok (.isub, 1) := by decide +kernel
theorem dX7_setOffset_20 : decode cX7_setOffset 20 = .ok (.invokestatic 36, 3) := by decide +kernel
theorem dX7_setOffset_23 : decode cX7_setOffset 23 = .ok (.ifCond .eq 13, 3) := by decide +kernel
theorem dX7_setOffset_26 : decode cX7_setOffset 26 = .ok (.new 40, 3) := by decide +kernel
theorem dX7_setOffset_29 : decode cX7_setOffset 29 = .ok (.dup, 1) := by decide +kernel
theorem dX7_setOffset_30 : decode cX7_setOffset 30 = .ok (.ldc 121, 2) := by decide +kernel
theorem dX7_setOffset_32 : decode cX7_setOffset 32 = .ok (.invokespecial 44, 3) := by decide +kernel
theorem dX7_setOffset_35 : decode cX7_setOffset 35 = .ok (.athrow, 1) := by decide +kernel
theorem dX7_setOffset_36 : decode cX7_setOffset 36 = .ok (.aload_n 0, 1) := by decide +kernel
theorem dX7_setOffset_37 : decode cX7_setOffset 37 = .ok (.invokevirtual 59, 3) := by decide +kernel
theorem dX7_setOffset_40 : decode cX7_setOffset 40 = .ok (.aload_n 3, 1) := by decide +kernel
theorem dX7_setOffset_41 : decode cX7_setOffset 41 = .ok (.getfield 123, 3) := by decide +kernel
theorem dX7_setOffset_44 : decode cX7_setOffset 44 = .ok (.istore 4, 2) := by decide +kernel
theorem dX7_setOffset_46 : decode cX7_setOffset 46 = .ok (.aload_n 3, 1) := by decide +kernel
theorem dX7_setOffset_47 : decode cX7_setOffset 47 = .ok (.iload_n 2, 1) := by decide +kernel
theorem dX7_setOffset_48 : decode cX7_setOffset 48 = .ok (.putfield 123, 3) := by decide +kernel
theorem dX7_setOffset_51 : decode cX7_setOffset 51 = .ok (.iload 4, 2) := by decide +kernel
theorem dX7_setOffset_53 : decode cX7_setOffset 53 = .ok (.ireturn, 1) := by decide +kernel
theorem dX7_improve_0 : decode cX7_improve 0 = .ok (.aload_n 0, 1) := by decide +kernel
theorem dX7_improve_1 : decode cX7_improve 1 = .ok (.invokevirtual 126, 3) := by decide +kernel
theorem dX7_improve_4 : decode cX7_improve 4 = .ok (.aload_n 0, 1) := by decide +kernel
theorem dX7_improve_5 : decode cX7_improve 5 = .ok (.invokevirtual 59, 3) := by decide +kernel
theorem dX7_improve_8 : decode cX7_improve 8 = .ok (.aload_n 0, 1) := by decide +kernel
theorem dX7_improve_9 : decode cX7_improve 9 = .ok (.getfield 21, 3) := by decide +kernel
theorem dX7_improve_12 : decode cX7_improve 12 = .ok (.invokevirtual 129, 3) := by decide +kernel
theorem dX7_improve_15 : decode cX7_improve 15 = .ok (.ireturn, 1) := by decide +kernel
theorem dX7_junctions_0 : decode cX7_junctions 0 = .ok (.aload_n 0, 1) := by decide +kernel
theorem dX7_junctions_1 : decode cX7_junctions 1 = .ok (.getfield 10, 3) := by decide +kernel
theorem dX7_junctions_4 : decode cX7_junctions 4 = .ok (.getfield 133, 3) := by decide +kernel
theorem dX7_junctions_7 : decode cX7_junctions 7 = .ok (.ireturn, 1) := by decide +kernel
theorem dX7_hasPlan_0 : decode cX7_hasPlan 0 = .ok (.aload_n 0, 1) := by decide +kernel
theorem dX7_hasPlan_1 : decode cX7_hasPlan 1 = .ok (.getfield 10, 3) := by decide +kernel
theorem dX7_hasPlan_4 : decode cX7_hasPlan 4 = .ok (.iload_n 1, 1) := by decide +kernel
theorem dX7_hasPlan_5 : decode cX7_hasPlan 5 = .ok (.invokevirtual 49, 3) := by decide +kernel
theorem dX7_hasPlan_8 : decode cX7_hasPlan 8 = .ok (.getfield 136, 3) := by decide +kernel
theorem dX7_hasPlan_11 : decode cX7_hasPlan 11 = .ok (.ireturn, 1) := by decide +kernel
theorem dX7_green_0 : decode cX7_green 0 = .ok (.aload_n 0, 1) := by decide +kernel
theorem dX7_green_1 : decode cX7_green 1 = .ok (.getfield 10, 3) := by decide +kernel
theorem dX7_green_4 : decode cX7_green 4 = .ok (.iload_n 1, 1) := by decide +kernel
theorem dX7_green_5 : decode cX7_green 5 = .ok (.invokevirtual 49, 3) := by decide +kernel
theorem dX7_green_8 : decode cX7_green 8 = .ok (.astore_n 3, 1) := by decide +kernel
theorem dX7_green_9 : decode cX7_green 9 = .ok (.aload_n 3, 1) := by decide +kernel
theorem dX7_green_10 : decode cX7_green 10 = .ok (.iload_n 2, 1) := by decide +kernel
theorem dX7_green_11 : decode cX7_green 11 = .ok (.invokestatic 140, 3) := by decide +kernel
theorem dX7_green_14 : decode cX7_green 14 = .ok (.aload_n 3, 1) := by decide +kernel
theorem dX7_green_15 : decode cX7_green 15 = .ok (.invokestatic 144, 3) := by decide +kernel
theorem dX7_green_18 : decode cX7_green 18 = .ok (.aload_n 3, 1) := by decide +kernel
theorem dX7_green_19 : decode cX7_green 19 = .ok (.getfield 148, 3) := by decide +kernel
theorem dX7_green_22 : decode cX7_green 22 = .ok (.iload_n 2, 1) := by decide +kernel
theorem dX7_green_23 : decode cX7_green 23 = .ok (.invokestatic 152, 3) := by decide +kernel
theorem dX7_green_26 : decode cX7_green 26 = .ok (.ireturn, 1) := by decide +kernel
theorem dX7_clearing_0 : decode cX7_clearing 0 = .ok (.aload_n 0, 1) := by decide +kernel
theorem dX7_clearing_1 : decode cX7_clearing 1 = .ok (.getfield 10, 3) := by decide +kernel
theorem dX7_clearing_4 : decode cX7_clearing 4 = .ok (.iload_n 1, 1) := by decide +kernel
theorem dX7_clearing_5 : decode cX7_clearing 5 = .ok (.invokevirtual 49, 3) := by decide +kernel
theorem dX7_clearing_8 : decode cX7_clearing 8 = .ok (.astore_n 3, 1) := by decide +kernel
theorem dX7_clearing_9 : decode cX7_clearing 9 = .ok (.aload_n 3, 1) := by decide +kernel
theorem dX7_clearing_10 : decode cX7_clearing 10 = .ok (.iload_n 2, 1) := by decide +kernel
theorem dX7_clearing_11 : decode cX7_clearing 11 = .ok (.invokestatic 140, 3) := by decide +kernel
theorem dX7_clearing_14 : decode cX7_clearing 14 = .ok (.aload_n 3, 1) := by decide +kernel
theorem dX7_clearing_15 : decode cX7_clearing 15 = .ok (.getfield 156, 3) := by decide +kernel
theorem dX7_clearing_18 : decode cX7_clearing 18 = .ok (.iload_n 2, 1) := by decide +kernel
theorem dX7_clearing_19 : decode cX7_clearing 19 = .ok (.invokestatic 152, 3) := by decide +kernel
theorem dX7_clearing_22 : decode cX7_clearing 22 = .ok (.ireturn, 1) := by decide +kernel
theorem dX7_offset_0 : decode cX7_offset 0 = .ok (.aload_n 0, 1) := by decide +kernel
theorem dX7_offset_1 : decode cX7_offset 1 = .ok (.getfield 10, 3) := by decide +kernel
theorem dX7_offset_4 : decode cX7_offset 4 = .ok (.iload_n 1, 1) := by decide +kernel
theorem dX7_offset_5 : decode cX7_offset 5 = .ok (.invokevirtual 49, 3) := by decide +kernel
theorem dX7_offset_8 : decode cX7_offset 8 = .ok (.getfield 123, 3) := by decide +kernel
theorem dX7_offset_11 : decode cX7_offset 11 = .ok (.ireturn, 1) := by decide +kernel
theorem dX7_isGreen_0 : decode cX7_isGreen 0 = .ok (.aload_n 0, 1) := by decide +kernel
theorem dX7_isGreen_1 : decode cX7_isGreen 1 = .ok (.getfield 10, 3) := by decide +kernel
theorem dX7_isGreen_4 : decode cX7_isGreen 4 = .ok (.iload_n 1, 1) := by decide +kernel
theorem dX7_isGreen_5 : decode cX7_isGreen 5 = .ok (.invokevirtual 49, 3) := by decide +kernel
theorem dX7_isGreen_8 : decode cX7_isGreen 8 = .ok (.astore 4, 2) := by decide +kernel
theorem dX7_isGreen_10 : decode cX7_isGreen 10 = .ok (.iload_n 2, 1) := by decide +kernel
theorem dX7_isGreen_11 : decode cX7_isGreen 11 = .ok (.invokestatic 53, 3) := by decide +kernel
theorem dX7_isGreen_14 : decode cX7_isGreen 14 = .ok (.iload_n 3, 1) := by decide +kernel
theorem dX7_isGreen_15 : decode cX7_isGreen 15 = .ok (.iconst 0, 1) := by decide +kernel
theorem dX7_isGreen_16 : decode cX7_isGreen 16 = .ok (.ldc 159, 2) := by decide +kernel
theorem dX7_isGreen_18 : decode cX7_isGreen 18 = .ok (.invokestatic 36, 3) := by decide +kernel
theorem dX7_isGreen_21 : decode cX7_isGreen 21 = .ok (.ifCond .eq 13, 3) := by decide +kernel
theorem dX7_isGreen_24 : decode cX7_isGreen 24 = .ok (.new 40, 3) := by decide +kernel
theorem dX7_isGreen_27 : decode cX7_isGreen 27 = .ok (.dup, 1) := by decide +kernel
theorem dX7_isGreen_28 : decode cX7_isGreen 28 = .ok (.ldc 160, 2) := by decide +kernel
theorem dX7_isGreen_30 : decode cX7_isGreen 30 = .ok (.invokespecial 44, 3) := by decide +kernel
theorem dX7_isGreen_33 : decode cX7_isGreen 33 = .ok (.athrow, 1) := by decide +kernel
theorem dX7_isGreen_34 : decode cX7_isGreen 34 = .ok (.aload 4, 2) := by decide +kernel
theorem dX7_isGreen_36 : decode cX7_isGreen 36 = .ok (.invokestatic 144, 3) := by decide +kernel
theorem dX7_isGreen_39 : decode cX7_isGreen 39 = .ok (.aload 4, 2) := by decide +kernel
theorem dX7_isGreen_41 : decode cX7_isGreen 41 = .ok (.iload_n 2, 1) := by decide +kernel
theorem dX7_isGreen_42 : decode cX7_isGreen 42 = .ok (.iload_n 3, 1) := by decide +kernel
theorem dX7_isGreen_43 : decode cX7_isGreen 43 = .ok (.invokevirtual 162, 3) := by decide +kernel
theorem dX7_isGreen_46 : decode cX7_isGreen 46 = .ok (.ireturn, 1) := by decide +kernel
theorem dX7_breaches_0 : decode cX7_breaches 0 = .ok (.aload_n 0, 1) := by decide +kernel
theorem dX7_breaches_1 : decode cX7_breaches 1 = .ok (.getfield 10, 3) := by decide +kernel
theorem dX7_breaches_4 : decode cX7_breaches 4 = .ok (.iload_n 1, 1) := by decide +kernel
theorem dX7_breaches_5 : decode cX7_breaches 5 = .ok (.invokevirtual 49, 3) := by decide +kernel
theorem dX7_breaches_8 : decode cX7_breaches 8 = .ok (.astore_n 2, 1) := by decide +kernel
theorem dX7_breaches_9 : decode cX7_breaches 9 = .ok (.aload_n 2, 1) := by decide +kernel
theorem dX7_breaches_10 : decode cX7_breaches 10 = .ok (.invokestatic 144, 3) := by decide +kernel
theorem dX7_breaches_13 : decode cX7_breaches 13 = .ok (.aload_n 2, 1) := by decide +kernel
theorem dX7_breaches_14 : decode cX7_breaches 14 = .ok (.invokevirtual 165, 3) := by decide +kernel
theorem dX7_breaches_17 : decode cX7_breaches 17 = .ok (.ireturn, 1) := by decide +kernel
theorem dX7_band_0 : decode cX7_band 0 = .ok (.aload_n 0, 1) := by decide +kernel
theorem dX7_band_1 : decode cX7_band 1 = .ok (.invokevirtual 126, 3) := by decide +kernel
theorem dX7_band_4 : decode cX7_band 4 = .ok (.aload_n 0, 1) := by decide +kernel
theorem dX7_band_5 : decode cX7_band 5 = .ok (.getfield 21, 3) := by decide +kernel
theorem dX7_band_8 : decode cX7_band 8 = .ok (.iload_n 1, 1) := by decide +kernel
theorem dX7_band_9 : decode cX7_band 9 = .ok (.invokevirtual 168, 3) := by decide +kernel
theorem dX7_band_12 : decode cX7_band 12 = .ok (.ireturn, 1) := by decide +kernel
theorem dX7_bestByAll_0 : decode cX7_bestByAll 0 = .ok (.aload_n 0, 1) := by decide +kernel
theorem dX7_bestByAll_1 : decode cX7_bestByAll 1 = .ok (.invokevirtual 126, 3) := by decide +kernel
theorem dX7_bestByAll_4 : decode cX7_bestByAll 4 = .ok (.aload_n 0, 1) := by decide +kernel
theorem dX7_bestByAll_5 : decode cX7_bestByAll 5 = .ok (.getfield 10, 3) := by decide +kernel
theorem dX7_bestByAll_8 : decode cX7_bestByAll 8 = .ok (.getfield 133, 3) := by decide +kernel
theorem dX7_bestByAll_11 : decode cX7_bestByAll 11 = .ok (.iconst 3, 1) := by decide +kernel
theorem dX7_bestByAll_12 : decode cX7_bestByAll 12 = .ok (.if_icmp .le 13, 3) := by decide +kernel
theorem dX7_bestByAll_15 : decode cX7_bestByAll 15 = .ok (.new 68, 3) := by decide +kernel
theorem dX7_bestByAll_18 : decode cX7_bestByAll 18 = .ok (.dup, 1) := by decide +kernel
theorem dX7_bestByAll_19 : decode cX7_bestByAll 19 = .ok (.ldc 172, 2) := by decide +kernel
theorem dX7_bestByAll_21 : decode cX7_bestByAll 21 = .ok (.invokespecial 72, 3) := by decide +kernel
theorem dX7_bestByAll_24 : decode cX7_bestByAll 24 = .ok (.athrow, 1) := by decide +kernel
theorem dX7_bestByAll_25 : decode cX7_bestByAll 25 = .ok (.aload_n 0, 1) := by decide +kernel
theorem dX7_bestByAll_26 : decode cX7_bestByAll 26 = .ok (.getfield 21, 3) := by decide +kernel
theorem dX7_bestByAll_29 : decode cX7_bestByAll 29 = .ok (.invokevirtual 174, 3) := by decide +kernel
theorem dX7_bestByAll_32 : decode cX7_bestByAll 32 = .ok (.ireturn, 1) := by decide +kernel
theorem dX7_run_0 : decode cX7_run 0 = .ok (.iload_n 1, 1) := by decide +kernel
theorem dX7_run_1 : decode cX7_run 1 = .ok (.iconst 1, 1) := by decide +kernel
theorem dX7_run_2 : decode cX7_run 2 = .ok (.sipush 600, 3) := by decide +kernel
theorem dX7_run_5 : decode cX7_run 5 = .ok (.invokestatic 36, 3) := by decide +kernel
theorem dX7_run_8 : decode cX7_run 8 = .ok (.ifCond .eq 13, 3) := by decide +kernel
theorem dX7_run_11 : decode cX7_run 11 = .ok (.new 40, 3) := by decide +kernel
theorem dX7_run_14 : decode cX7_run 14 = .ok (.dup, 1) := by decide +kernel
theorem dX7_run_15 : decode cX7_run 15 = .ok (.ldc 177, 2) := by decide +kernel
theorem dX7_run_17 : decode cX7_run 17 = .ok (.invokespecial 44, 3) := by decide +kernel
theorem dX7_run_20 : decode cX7_run 20 = .ok (.athrow, 1) := by decide +kernel
theorem dX7_run_21 : decode cX7_run 21 = .ok (.aload_n 0, 1) := by decide +kernel
theorem dX7_run_22 : decode cX7_run 22 = .ok (.invokevirtual 126, 3) := by decide +kernel
theorem dX7_run_25 : decode cX7_run 25 = .ok (.aload_n 0, 1) := by decide +kernel
theorem dX7_run_26 : decode cX7_run 26 = .ok (.getfield 28, 3) := by decide +kernel
theorem dX7_run_29 : decode cX7_run 29 = .ok (.getfield 179, 3) := by decide +kernel
theorem dX7_run_32 : decode cX7_run 32 = .ok (.iload_n 1, 1) := by decide +kernel
theorem dX7_run_33 : decode cX7_run 33 = .ok (.iadd, 1) := by decide +kernel
theorem dX7_run_34 : decode cX7_run 34 = .ok (.sipush 7200, 3) := by decide +kernel
theorem dX7_run_37 : decode cX7_run 37 = .ok (.if_icmp .le 13, 3) := by decide +kernel
theorem dX7_run_40 : decode cX7_run 40 = .ok (.new 68, 3) := by decide +kernel
theorem dX7_run_43 : decode cX7_run 43 = .ok (.dup, 1) := by decide +kernel
theorem dX7_run_44 : decode cX7_run 44 = .ok (.ldc 182, 2) := by decide +kernel
theorem dX7_run_46 : decode cX7_run 46 = .ok (.invokespecial 72, 3) := by decide +kernel
theorem dX7_run_49 : decode cX7_run 49 = .ok (.athrow, 1) := by decide +kernel
theorem dX7_run_50 : decode cX7_run 50 = .ok (.aload_n 0, 1) := by decide +kernel
theorem dX7_run_51 : decode cX7_run 51 = .ok (.getfield 28, 3) := by decide +kernel
theorem dX7_run_54 : decode cX7_run 54 = .ok (.iload_n 1, 1) := by decide +kernel
theorem dX7_run_55 : decode cX7_run 55 = .ok (.invokevirtual 184, 3) := by decide +kernel
theorem dX7_run_58 : decode cX7_run 58 = .ok (.ireturn, 1) := by decide +kernel
theorem dX7_callBus_0 : decode cX7_callBus 0 = .ok (.aload_n 0, 1) := by decide +kernel
theorem dX7_callBus_1 : decode cX7_callBus 1 = .ok (.getfield 10, 3) := by decide +kernel
theorem dX7_callBus_4 : decode cX7_callBus 4 = .ok (.iload_n 1, 1) := by decide +kernel
theorem dX7_callBus_5 : decode cX7_callBus 5 = .ok (.invokevirtual 49, 3) := by decide +kernel
theorem dX7_callBus_8 : decode cX7_callBus 8 = .ok (.astore_n 3, 1) := by decide +kernel
theorem dX7_callBus_9 : decode cX7_callBus 9 = .ok (.iload_n 2, 1) := by decide +kernel
theorem dX7_callBus_10 : decode cX7_callBus 10 = .ok (.invokestatic 53, 3) := by decide +kernel
theorem dX7_callBus_13 : decode cX7_callBus 13 = .ok (.aload_n 0, 1) := by decide +kernel
theorem dX7_callBus_14 : decode cX7_callBus 14 = .ok (.invokevirtual 126, 3) := by decide +kernel
theorem dX7_callBus_17 : decode cX7_callBus 17 = .ok (.aload_n 3, 1) := by decide +kernel
theorem dX7_callBus_18 : decode cX7_callBus 18 = .ok (.iload_n 2, 1) := by decide +kernel
theorem dX7_callBus_19 : decode cX7_callBus 19 = .ok (.invokevirtual 187, 3) := by decide +kernel
theorem dX7_callBus_22 : decode cX7_callBus 22 = .ok (.iconst (-1), 1) := by decide +kernel
theorem dX7_callBus_23 : decode cX7_callBus 23 = .ok (.if_icmp .ne 13, 3) := by decide +kernel
theorem dX7_callBus_26 : decode cX7_callBus 26 = .ok (.new 68, 3) := by decide +kernel
theorem dX7_callBus_29 : decode cX7_callBus 29 = .ok (.dup, 1) := by decide +kernel
theorem dX7_callBus_30 : decode cX7_callBus 30 = .ok (.ldc 190, 2) := by decide +kernel
theorem dX7_callBus_32 : decode cX7_callBus 32 = .ok (.invokespecial 72, 3) := by decide +kernel
theorem dX7_callBus_35 : decode cX7_callBus 35 = .ok (.athrow, 1) := by decide +kernel
theorem dX7_callBus_36 : decode cX7_callBus 36 = .ok (.aload_n 3, 1) := by decide +kernel
theorem dX7_callBus_37 : decode cX7_callBus 37 = .ok (.aload_n 0, 1) := by decide +kernel
theorem dX7_callBus_38 : decode cX7_callBus 38 = .ok (.getfield 28, 3) := by decide +kernel
theorem dX7_callBus_41 : decode cX7_callBus 41 = .ok (.getfield 179, 3) := by decide +kernel
theorem dX7_callBus_44 : decode cX7_callBus 44 = .ok (.invokevirtual 192, 3) := by decide +kernel
theorem dX7_callBus_47 : decode cX7_callBus 47 = .ok (.ifCond .eq 13, 3) := by decide +kernel
theorem dX7_callBus_50 : decode cX7_callBus 50 = .ok (.new 68, 3) := by decide +kernel
theorem dX7_callBus_53 : decode cX7_callBus 53 = .ok (.dup, 1) := by decide +kernel
theorem dX7_callBus_54 : decode cX7_callBus 54 = .ok (.ldc 195, 2) := by decide +kernel
theorem dX7_callBus_56 : decode cX7_callBus 56 = .ok (.invokespecial 72, 3) := by decide +kernel
theorem dX7_callBus_59 : decode cX7_callBus 59 = .ok (.athrow, 1) := by decide +kernel
theorem dX7_callBus_60 : decode cX7_callBus 60 = .ok (.aload_n 0, 1) := by decide +kernel
theorem dX7_callBus_61 : decode cX7_callBus 61 = .ok (.getfield 28, 3) := by decide +kernel
theorem dX7_callBus_64 : decode cX7_callBus 64 = .ok (.iconst 1, 1) := by decide +kernel
theorem dX7_callBus_65 : decode cX7_callBus 65 = .ok (.putfield 197, 3) := by decide +kernel
theorem dX7_callBus_68 : decode cX7_callBus 68 = .ok (.aload_n 3, 1) := by decide +kernel
theorem dX7_callBus_69 : decode cX7_callBus 69 = .ok (.aload_n 0, 1) := by decide +kernel
theorem dX7_callBus_70 : decode cX7_callBus 70 = .ok (.getfield 28, 3) := by decide +kernel
theorem dX7_callBus_73 : decode cX7_callBus 73 = .ok (.getfield 179, 3) := by decide +kernel
theorem dX7_callBus_76 : decode cX7_callBus 76 = .ok (.iload_n 2, 1) := by decide +kernel
theorem dX7_callBus_77 : decode cX7_callBus 77 = .ok (.invokevirtual 200, 3) := by decide +kernel
theorem dX7_callBus_80 : decode cX7_callBus 80 = .ok (.ireturn, 1) := by decide +kernel
theorem dX7_clock_0 : decode cX7_clock 0 = .ok (.aload_n 0, 1) := by decide +kernel
theorem dX7_clock_1 : decode cX7_clock 1 = .ok (.getfield 28, 3) := by decide +kernel
theorem dX7_clock_4 : decode cX7_clock 4 = .ok (.getfield 179, 3) := by decide +kernel
theorem dX7_clock_7 : decode cX7_clock 7 = .ok (.ireturn, 1) := by decide +kernel
theorem dX7_phaseNow_0 : decode cX7_phaseNow 0 = .ok (.aload_n 0, 1) := by decide +kernel
theorem dX7_phaseNow_1 : decode cX7_phaseNow 1 = .ok (.getfield 10, 3) := by decide +kernel
theorem dX7_phaseNow_4 : decode cX7_phaseNow 4 = .ok (.iload_n 1, 1) := by decide +kernel
theorem dX7_phaseNow_5 : decode cX7_phaseNow 5 = .ok (.invokevirtual 49, 3) := by decide +kernel
theorem dX7_phaseNow_8 : decode cX7_phaseNow 8 = .ok (.astore_n 2, 1) := by decide +kernel
theorem dX7_phaseNow_9 : decode cX7_phaseNow 9 = .ok (.aload_n 2, 1) := by decide +kernel
theorem dX7_phaseNow_10 : decode cX7_phaseNow 10 = .ok (.invokestatic 144, 3) := by decide +kernel
theorem dX7_phaseNow_13 : decode cX7_phaseNow 13 = .ok (.aload_n 2, 1) := by decide +kernel
theorem dX7_phaseNow_14 : decode cX7_phaseNow 14 = .ok (.aload_n 0, 1) := by decide +kernel
theorem dX7_phaseNow_15 : decode cX7_phaseNow 15 = .ok (.getfield 28, 3) := by decide +kernel
theorem dX7_phaseNow_18 : decode cX7_phaseNow 18 = .ok (.getfield 179, 3) := by decide +kernel
theorem dX7_phaseNow_21 : decode cX7_phaseNow 21 = .ok (.invokevirtual 203, 3) := by decide +kernel
theorem dX7_phaseNow_24 : decode cX7_phaseNow 24 = .ok (.ireturn, 1) := by decide +kernel
theorem dX7_queue_0 : decode cX7_queue 0 = .ok (.aload_n 0, 1) := by decide +kernel
theorem dX7_queue_1 : decode cX7_queue 1 = .ok (.getfield 10, 3) := by decide +kernel
theorem dX7_queue_4 : decode cX7_queue 4 = .ok (.iload_n 1, 1) := by decide +kernel
theorem dX7_queue_5 : decode cX7_queue 5 = .ok (.invokevirtual 49, 3) := by decide +kernel
theorem dX7_queue_8 : decode cX7_queue 8 = .ok (.getfield 206, 3) := by decide +kernel
theorem dX7_queue_11 : decode cX7_queue 11 = .ok (.ireturn, 1) := by decide +kernel
theorem dX7_held_0 : decode cX7_held 0 = .ok (.aload_n 0, 1) := by decide +kernel
theorem dX7_held_1 : decode cX7_held 1 = .ok (.getfield 10, 3) := by decide +kernel
theorem dX7_held_4 : decode cX7_held 4 = .ok (.iload_n 1, 1) := by decide +kernel
theorem dX7_held_5 : decode cX7_held 5 = .ok (.invokevirtual 209, 3) := by decide +kernel
theorem dX7_held_8 : decode cX7_held 8 = .ok (.ireturn, 1) := by decide +kernel
theorem dX7_come_0 : decode cX7_come 0 = .ok (.aload_n 0, 1) := by decide +kernel
theorem dX7_come_1 : decode cX7_come 1 = .ok (.getfield 28, 3) := by decide +kernel
theorem dX7_come_4 : decode cX7_come 4 = .ok (.getfield 212, 3) := by decide +kernel
theorem dX7_come_7 : decode cX7_come 7 = .ok (.ireturn, 1) := by decide +kernel
theorem dX7_through_0 : decode cX7_through 0 = .ok (.aload_n 0, 1) := by decide +kernel
theorem dX7_through_1 : decode cX7_through 1 = .ok (.getfield 28, 3) := by decide +kernel
theorem dX7_through_4 : decode cX7_through 4 = .ok (.getfield 215, 3) := by decide +kernel
theorem dX7_through_7 : decode cX7_through 7 = .ok (.ireturn, 1) := by decide +kernel
theorem dX7_checkSettingUp_0 : decode cX7_checkSettingUp 0 = .ok (.aload_n 0, 1) := by decide +kernel
theorem dX7_checkSettingUp_1 : decode cX7_checkSettingUp 1 = .ok (.getfield 28, 3) := by decide +kernel
theorem dX7_checkSettingUp_4 : decode cX7_checkSettingUp 4 = .ok (.getfield 197, 3) := by decide +kernel
theorem dX7_checkSettingUp_7 : decode cX7_checkSettingUp 7 = .ok (.ifCond .eq 13, 3) := by decide +kernel
theorem dX7_checkSettingUp_10 : decode cX7_checkSettingUp 10 = .ok (.new 68, 3) := by decide +kernel
theorem dX7_checkSettingUp_13 : decode cX7_checkSettingUp 13 = .ok (.dup, 1) := by decide +kernel
theorem dX7_checkSettingUp_14 : decode cX7_checkSettingUp 14 = .ok (.ldc 218, 2) := by decide +kernel
theorem dX7_checkSettingUp_16 : decode cX7_checkSettingUp 16 = .ok (.invokespecial 72, 3) := by decide +kernel
theorem dX7_checkSettingUp_19 : decode cX7_checkSettingUp 19 = .ok (.athrow, 1) := by decide +kernel
theorem dX7_checkSettingUp_20 : decode cX7_checkSettingUp 20 = .ok (.return_, 1) := by decide +kernel
theorem dX7_checkPlans_0 : decode cX7_checkPlans 0 = .ok (.aload_n 0, 1) := by decide +kernel
theorem dX7_checkPlans_1 : decode cX7_checkPlans 1 = .ok (.getfield 10, 3) := by decide +kernel
theorem dX7_checkPlans_4 : decode cX7_checkPlans 4 = .ok (.invokevirtual 220, 3) := by decide +kernel
theorem dX7_checkPlans_7 : decode cX7_checkPlans 7 = .ok (.ifCond .ne 13, 3) := by decide +kernel
theorem dX7_checkPlans_10 : decode cX7_checkPlans 10 = .ok (.new 68, 3) := by decide +kernel
theorem dX7_checkPlans_13 : decode cX7_checkPlans 13 = .ok (.dup, 1) := by decide +kernel
theorem dX7_checkPlans_14 : decode cX7_checkPlans 14 = .ok (.ldc 223, 2) := by decide +kernel
theorem dX7_checkPlans_16 : decode cX7_checkPlans 16 = .ok (.invokespecial 72, 3) := by decide +kernel
theorem dX7_checkPlans_19 : decode cX7_checkPlans 19 = .ok (.athrow, 1) := by decide +kernel
theorem dX7_checkPlans_20 : decode cX7_checkPlans 20 = .ok (.return_, 1) := by decide +kernel
theorem dX7_checkPlan_0 : decode cX7_checkPlan 0 = .ok (.aload_n 0, 1) := by decide +kernel
theorem dX7_checkPlan_1 : decode cX7_checkPlan 1 = .ok (.getfield 136, 3) := by decide +kernel
theorem dX7_checkPlan_4 : decode cX7_checkPlan 4 = .ok (.ifCond .ne 13, 3) := by decide +kernel
theorem dX7_checkPlan_7 : decode cX7_checkPlan 7 = .ok (.new 68, 3) := by decide +kernel
theorem dX7_checkPlan_10 : decode cX7_checkPlan 10 = .ok (.dup, 1) := by decide +kernel
theorem dX7_checkPlan_11 : decode cX7_checkPlan 11 = .ok (.ldc 225, 2) := by decide +kernel
theorem dX7_checkPlan_13 : decode cX7_checkPlan 13 = .ok (.invokespecial 72, 3) := by decide +kernel
theorem dX7_checkPlan_16 : decode cX7_checkPlan 16 = .ok (.athrow, 1) := by decide +kernel
theorem dX7_checkPlan_17 : decode cX7_checkPlan 17 = .ok (.return_, 1) := by decide +kernel
theorem dX7_checkPhase_0 : decode cX7_checkPhase 0 = .ok (.iload_n 1, 1) := by decide +kernel
theorem dX7_checkPhase_1 : decode cX7_checkPhase 1 = .ok (.ifCond .lt 11, 3) := by decide +kernel
theorem dX7_checkPhase_4 : decode cX7_checkPhase 4 = .ok (.iload_n 1, 1) := by decide +kernel
theorem dX7_checkPhase_5 : decode cX7_checkPhase 5 = .ok (.aload_n 0, 1) := by decide +kernel
theorem dX7_checkPhase_6 : decode cX7_checkPhase 6 = .ok (.getfield 91, 3) := by decide +kernel
theorem dX7_checkPhase_9 : decode cX7_checkPhase 9 = .ok (.if_icmp .lt 13, 3) := by decide +kernel
theorem dX7_checkPhase_12 : decode cX7_checkPhase 12 = .ok (.new 227, 3) := by decide +kernel
theorem dX7_checkPhase_15 : decode cX7_checkPhase 15 = .ok (.dup, 1) := by decide +kernel
theorem dX7_checkPhase_16 : decode cX7_checkPhase 16 = .ok (.ldc 229, 2) := by decide +kernel
theorem dX7_checkPhase_18 : decode cX7_checkPhase 18 = .ok (.invokespecial 231, 3) := by decide +kernel
theorem dX7_checkPhase_21 : decode cX7_checkPhase 21 = .ok (.athrow, 1) := by decide +kernel
theorem dX7_checkPhase_22 : decode cX7_checkPhase 22 = .ok (.return_, 1) := by decide +kernel
theorem dX7_checkMovement_0 : decode cX7_checkMovement 0 = .ok (.iload_n 0, 1) := by decide +kernel
theorem dX7_checkMovement_1 : decode cX7_checkMovement 1 = .ok (.ifCond .lt 8, 3) := by decide +kernel
theorem dX7_checkMovement_4 : decode cX7_checkMovement 4 = .ok (.iload_n 0, 1) := by decide +kernel
theorem dX7_checkMovement_5 : decode cX7_checkMovement 5 = .ok (.iconst 4, 1) := by decide +kernel
theorem dX7_checkMovement_6 : decode cX7_checkMovement 6 = .ok (.if_icmp .lt 13, 3) := by decide +kernel
theorem dX7_checkMovement_9 : decode cX7_checkMovement 9 = .ok (.new 227, 3) := by decide +kernel
theorem dX7_checkMovement_12 : decode cX7_checkMovement 12 = .ok (.dup, 1) := by decide +kernel
theorem dX7_checkMovement_13 : decode cX7_checkMovement 13 = .ok (.ldc 232, 2) := by decide +kernel
theorem dX7_checkMovement_15 : decode cX7_checkMovement 15 = .ok (.invokespecial 231, 3) := by decide +kernel
theorem dX7_checkMovement_18 : decode cX7_checkMovement 18 = .ok (.athrow, 1) := by decide +kernel
theorem dX7_checkMovement_19 : decode cX7_checkMovement 19 = .ok (.return_, 1) := by decide +kernel
theorem dX7_isOutside_0 : decode cX7_isOutside 0 = .ok (.iload_n 0, 1) := by decide +kernel
theorem dX7_isOutside_1 : decode cX7_isOutside 1 = .ok (.iload_n 1, 1) := by decide +kernel
theorem dX7_isOutside_2 : decode cX7_isOutside 2 = .ok (.if_icmp .lt 8, 3) := by decide +kernel
theorem dX7_isOutside_5 : decode cX7_isOutside 5 = .ok (.iload_n 0, 1) := by decide +kernel
theorem dX7_isOutside_6 : decode cX7_isOutside 6 = .ok (.iload_n 2, 1) := by decide +kernel
theorem dX7_isOutside_7 : decode cX7_isOutside 7 = .ok (.if_icmp .le 7, 3) := by decide +kernel
theorem dX7_isOutside_10 : decode cX7_isOutside 10 = .ok (.iconst 1, 1) := by decide +kernel
theorem dX7_isOutside_11 : decode cX7_isOutside 11 = .ok (.goto 4, 3) := by decide +kernel
theorem dX7_isOutside_14 : decode cX7_isOutside 14 = .ok (.iconst 0, 1) := by decide +kernel
theorem dX7_isOutside_15 : decode cX7_isOutside 15 = .ok (.ireturn, 1) := by decide +kernel
theorem dX7_read_0 : decode cX7_read 0 = .ok (.iload_n 1, 1) := by decide +kernel
theorem dX7_read_1 : decode cX7_read 1 = .ok (.ifCond .lt 15, 3) := by decide +kernel
theorem dX7_read_4 : decode cX7_read 4 = .ok (.iload_n 1, 1) := by decide +kernel
theorem dX7_read_5 : decode cX7_read 5 = .ok (.aload_n 0, 1) := by decide +kernel
theorem dX7_read_6 : decode cX7_read 6 = .ok (.arraylength, 1) := by decide +kernel
theorem dX7_read_7 : decode cX7_read 7 = .ok (.if_icmp .ge 9, 3) := by decide +kernel
theorem dX7_read_10 : decode cX7_read 10 = .ok (.aload_n 0, 1) := by decide +kernel
theorem dX7_read_11 : decode cX7_read 11 = .ok (.iload_n 1, 1) := by decide +kernel
theorem dX7_read_12 : decode cX7_read 12 = .ok (.iaload, 1) := by decide +kernel
theorem dX7_read_13 : decode cX7_read 13 = .ok (.goto 4, 3) := by decide +kernel
theorem dX7_read_16 : decode cX7_read 16 = .ok (.iconst 0, 1) := by decide +kernel
theorem dX7_read_17 : decode cX7_read 17 = .ok (.ireturn, 1) := by decide +kernel
theorem dX7_write_0 : decode cX7_write 0 = .ok (.iload_n 1, 1) := by decide +kernel
theorem dX7_write_1 : decode cX7_write 1 = .ok (.ifCond .lt 13, 3) := by decide +kernel
theorem dX7_write_4 : decode cX7_write 4 = .ok (.iload_n 1, 1) := by decide +kernel
theorem dX7_write_5 : decode cX7_write 5 = .ok (.aload_n 0, 1) := by decide +kernel
theorem dX7_write_6 : decode cX7_write 6 = .ok (.arraylength, 1) := by decide +kernel
theorem dX7_write_7 : decode cX7_write 7 = .ok (.if_icmp .ge 7, 3) := by decide +kernel
theorem dX7_write_10 : decode cX7_write 10 = .ok (.aload_n 0, 1) := by decide +kernel
theorem dX7_write_11 : decode cX7_write 11 = .ok (.iload_n 1, 1) := by decide +kernel
theorem dX7_write_12 : decode cX7_write 12 = .ok (.iload_n 2, 1) := by decide +kernel
theorem dX7_write_13 : decode cX7_write 13 = .ok (.iastore, 1) := by decide +kernel
theorem dX7_write_14 : decode cX7_write 14 = .ok (.return_, 1) := by decide +kernel
theorem dX7_modulo_0 : decode cX7_modulo 0 = .ok (.iload_n 1, 1) := by decide +kernel
theorem dX7_modulo_1 : decode cX7_modulo 1 = .ok (.ifCond .gt 5, 3) := by decide +kernel
theorem dX7_modulo_4 : decode cX7_modulo 4 = .ok (.iconst 0, 1) := by decide +kernel
theorem dX7_modulo_5 : decode cX7_modulo 5 = .ok (.ireturn, 1) := by decide +kernel
theorem dX7_modulo_6 : decode cX7_modulo 6 = .ok (.iload_n 0, 1) := by decide +kernel
theorem dX7_modulo_7 : decode cX7_modulo 7 = .ok (.iload_n 1, 1) := by decide +kernel
theorem dX7_modulo_8 : decode cX7_modulo 8 = .ok (.irem, 1) := by decide +kernel
theorem dX7_modulo_9 : decode cX7_modulo 9 = .ok (.istore_n 2, 1) := by decide +kernel
theorem dX7_modulo_10 : decode cX7_modulo 10 = .ok (.iload_n 2, 1) := by decide +kernel
theorem dX7_modulo_11 : decode cX7_modulo 11 = .ok (.ifCond .ge 9, 3) := by decide +kernel
theorem dX7_modulo_14 : decode cX7_modulo 14 = .ok (.iload_n 2, 1) := by decide +kernel
theorem dX7_modulo_15 : decode cX7_modulo 15 = .ok (.iload_n 1, 1) := by decide +kernel
theorem dX7_modulo_16 : decode cX7_modulo 16 = .ok (.iadd, 1) := by decide +kernel
theorem dX7_modulo_17 : decode cX7_modulo 17 = .ok (.goto 4, 3) := by decide +kernel
theorem dX7_modulo_20 : decode cX7_modulo 20 = .ok (.iload_n 2, 1) := by decide +kernel
theorem dX7_modulo_21 : decode cX7_modulo 21 = .ok (.ireturn, 1) := by decide +kernel
theorem dX7_share_0 : decode cX7_share 0 = .ok (.iload_n 1, 1) := by decide +kernel
theorem dX7_share_1 : decode cX7_share 1 = .ok (.ifCond .le 9, 3) := by decide +kernel
theorem dX7_share_4 : decode cX7_share 4 = .ok (.iload_n 0, 1) := by decide +kernel
theorem dX7_share_5 : decode cX7_share 5 = .ok (.iload_n 1, 1) := by decide +kernel
theorem dX7_share_6 : decode cX7_share 6 = .ok (.idiv, 1) := by decide +kernel
theorem dX7_share_7 : decode cX7_share 7 = .ok (.goto 4, 3) := by decide +kernel
theorem dX7_share_10 : decode cX7_share 10 = .ok (.iconst 0, 1) := by decide +kernel
theorem dX7_share_11 : decode cX7_share 11 = .ok (.ireturn, 1) := by decide +kernel
theorem dX7_hasBit_0 : decode cX7_hasBit 0 = .ok (.iload_n 0, 1) := by decide +kernel
theorem dX7_hasBit_1 : decode cX7_hasBit 1 = .ok (.iload_n 1, 1) := by decide +kernel
theorem dX7_hasBit_2 : decode cX7_hasBit 2 = .ok (.ishr, 1) := by decide +kernel
theorem dX7_hasBit_3 : decode cX7_hasBit 3 = .ok (.iconst 1, 1) := by decide +kernel
theorem dX7_hasBit_4 : decode cX7_hasBit 4 = .ok (.iand, 1) := by decide +kernel
theorem dX7_hasBit_5 : decode cX7_hasBit 5 = .ok (.ifCond .eq 7, 3) := by decide +kernel
theorem dX7_hasBit_8 : decode cX7_hasBit 8 = .ok (.iconst 1, 1) := by decide +kernel
theorem dX7_hasBit_9 : decode cX7_hasBit 9 = .ok (.goto 4, 3) := by decide +kernel
theorem dX7_hasBit_12 : decode cX7_hasBit 12 = .ok (.iconst 0, 1) := by decide +kernel
theorem dX7_hasBit_13 : decode cX7_hasBit 13 = .ok (.ireturn, 1) := by decide +kernel
theorem dX8_init_0 : decode cX8_init 0 = .ok (.aload_n 0, 1) := by decide +kernel
theorem dX8_init_1 : decode cX8_init 1 = .ok (.invokespecial 1, 3) := by decide +kernel
theorem dX8_init_4 : decode cX8_init 4 = .ok (.aload_n 0, 1) := by decide +kernel
theorem dX8_init_5 : decode cX8_init 5 = .ok (.bipush 80, 2) := by decide +kernel
theorem dX8_init_7 : decode cX8_init 7 = .ok (.newarray .int, 2) := by decide +kernel
theorem dX8_init_9 : decode cX8_init 9 = .ok (.putfield 7, 3) := by decide +kernel
theorem dX8_init_12 : decode cX8_init 12 = .ok (.aload_n 0, 1) := by decide +kernel
theorem dX8_init_13 : decode cX8_init 13 = .ok (.bipush 20, 2) := by decide +kernel
theorem dX8_init_15 : decode cX8_init 15 = .ok (.newarray .int, 2) := by decide +kernel
theorem dX8_init_17 : decode cX8_init 17 = .ok (.putfield 13, 3) := by decide +kernel
theorem dX8_init_20 : decode cX8_init 20 = .ok (.aload_n 0, 1) := by decide +kernel
theorem dX8_init_21 : decode cX8_init 21 = .ok (.iconst 5, 1) := by decide +kernel
theorem dX8_init_22 : decode cX8_init 22 = .ok (.newarray .int, 2) := by decide +kernel
theorem dX8_init_24 : decode cX8_init 24 = .ok (.putfield 16, 3) := by decide +kernel
theorem dX8_init_27 : decode cX8_init 27 = .ok (.aload_n 0, 1) := by decide +kernel
theorem dX8_init_28 : decode cX8_init 28 = .ok (.bipush 20, 2) := by decide +kernel
theorem dX8_init_30 : decode cX8_init 30 = .ok (.newarray .int, 2) := by decide +kernel
theorem dX8_init_32 : decode cX8_init 32 = .ok (.putfield 19, 3) := by decide +kernel
theorem dX8_init_35 : decode cX8_init 35 = .ok (.aload_n 0, 1) := by decide +kernel
theorem dX8_init_36 : decode cX8_init 36 = .ok (.iconst 5, 1) := by decide +kernel
theorem dX8_init_37 : decode cX8_init 37 = .ok (.newarray .int, 2) := by decide +kernel
theorem dX8_init_39 : decode cX8_init 39 = .ok (.putfield 22, 3) := by decide +kernel
theorem dX8_init_42 : decode cX8_init 42 = .ok (.aload_n 0, 1) := by decide +kernel
theorem dX8_init_43 : decode cX8_init 43 = .ok (.iconst 4, 1) := by decide +kernel
theorem dX8_init_44 : decode cX8_init 44 = .ok (.newarray .int, 2) := by decide +kernel
theorem dX8_init_46 : decode cX8_init 46 = .ok (.putfield 25, 3) := by decide +kernel
theorem dX8_init_49 : decode cX8_init 49 = .ok (.aload_n 0, 1) := by decide +kernel
theorem dX8_init_50 : decode cX8_init 50 = .ok (.iconst 4, 1) := by decide +kernel
theorem dX8_init_51 : decode cX8_init 51 = .ok (.newarray .int, 2) := by decide +kernel
theorem dX8_init_53 : decode cX8_init 53 = .ok (.putfield 28, 3) := by decide +kernel
theorem dX8_init_56 : decode cX8_init 56 = .ok (.aload_n 0, 1) := by decide +kernel
theorem dX8_init_57 : decode cX8_init 57 = .ok (.bipush 20, 2) := by decide +kernel
theorem dX8_init_59 : decode cX8_init 59 = .ok (.newarray .int, 2) := by decide +kernel
theorem dX8_init_61 : decode cX8_init 61 = .ok (.putfield 31, 3) := by decide +kernel
theorem dX8_init_64 : decode cX8_init 64 = .ok (.aload_n 0, 1) := by decide +kernel
theorem dX8_init_65 : decode cX8_init 65 = .ok (.bipush 20, 2) := by decide +kernel
theorem dX8_init_67 : decode cX8_init 67 = .ok (.newarray .int, 2) := by decide +kernel
theorem dX8_init_69 : decode cX8_init 69 = .ok (.putfield 34, 3) := by decide +kernel
theorem dX8_init_72 : decode cX8_init 72 = .ok (.aload_n 0, 1) := by decide +kernel
theorem dX8_init_73 : decode cX8_init 73 = .ok (.iconst 5, 1) := by decide +kernel
theorem dX8_init_74 : decode cX8_init 74 = .ok (.newarray .boolean, 2) := by decide +kernel
theorem dX8_init_76 : decode cX8_init 76 = .ok (.putfield 37, 3) := by decide +kernel
theorem dX8_init_79 : decode cX8_init 79 = .ok (.aload_n 0, 1) := by decide +kernel
theorem dX8_init_80 : decode cX8_init 80 = .ok (.iconst 5, 1) := by decide +kernel
theorem dX8_init_81 : decode cX8_init 81 = .ok (.newarray .int, 2) := by decide +kernel
theorem dX8_init_83 : decode cX8_init 83 = .ok (.putfield 41, 3) := by decide +kernel
theorem dX8_init_86 : decode cX8_init 86 = .ok (.aload_n 0, 1) := by decide +kernel
theorem dX8_init_87 : decode cX8_init 87 = .ok (.iconst 5, 1) := by decide +kernel
theorem dX8_init_88 : decode cX8_init 88 = .ok (.newarray .int, 2) := by decide +kernel
theorem dX8_init_90 : decode cX8_init 90 = .ok (.putfield 44, 3) := by decide +kernel
theorem dX8_init_93 : decode cX8_init 93 = .ok (.aload_n 0, 1) := by decide +kernel
theorem dX8_init_94 : decode cX8_init 94 = .ok (.iconst 4, 1) := by decide +kernel
theorem dX8_init_95 : decode cX8_init 95 = .ok (.newarray .int, 2) := by decide +kernel
theorem dX8_init_97 : decode cX8_init 97 = .ok (.putfield 47, 3) := by decide +kernel
theorem dX8_init_100 : decode cX8_init 100 = .ok (.aload_n 0, 1) := by decide +kernel
theorem dX8_init_101 : decode cX8_init 101 = .ok (.sipush 160, 3) := by decide +kernel
theorem dX8_init_104 : decode cX8_init 104 = .ok (.newarray .int, 2) := by decide +kernel
theorem dX8_init_106 : decode cX8_init 106 = .ok (.putfield 50, 3) := by decide +kernel
theorem dX8_init_109 : decode cX8_init 109 = .ok (.aload_n 0, 1) := by decide +kernel
theorem dX8_init_110 : decode cX8_init 110 = .ok (.iconst 5, 1) := by decide +kernel
theorem dX8_init_111 : decode cX8_init 111 = .ok (.newarray .boolean, 2) := by decide +kernel
theorem dX8_init_113 : decode cX8_init 113 = .ok (.putfield 53, 3) := by decide +kernel
theorem dX8_init_116 : decode cX8_init 116 = .ok (.aload_n 0, 1) := by decide +kernel
theorem dX8_init_117 : decode cX8_init 117 = .ok (.iconst 5, 1) := by decide +kernel
theorem dX8_init_118 : decode cX8_init 118 = .ok (.newarray .int, 2) := by decide +kernel
theorem dX8_init_120 : decode cX8_init 120 = .ok (.putfield 56, 3) := by decide +kernel
theorem dX8_init_123 : decode cX8_init 123 = .ok (.aload_n 0, 1) := by decide +kernel
theorem dX8_init_124 : decode cX8_init 124 = .ok (.iconst 5, 1) := by decide +kernel
theorem dX8_init_125 : decode cX8_init 125 = .ok (.newarray .int, 2) := by decide +kernel
theorem dX8_init_127 : decode cX8_init 127 = .ok (.putfield 59, 3) := by decide +kernel
theorem dX8_init_130 : decode cX8_init 130 = .ok (.aload_n 0, 1) := by decide +kernel
theorem dX8_init_131 : decode cX8_init 131 = .ok (.iconst 5, 1) := by decide +kernel
theorem dX8_init_132 : decode cX8_init 132 = .ok (.newarray .int, 2) := by decide +kernel
theorem dX8_init_134 : decode cX8_init 134 = .ok (.putfield 62, 3) := by decide +kernel
theorem dX8_init_137 : decode cX8_init 137 = .ok (.aload_n 0, 1) := by decide +kernel
theorem dX8_init_138 : decode cX8_init 138 = .ok (.iconst 5, 1) := by decide +kernel
theorem dX8_init_139 : decode cX8_init 139 = .ok (.newarray .int, 2) := by decide +kernel
theorem dX8_init_141 : decode cX8_init 141 = .ok (.putfield 65, 3) := by decide +kernel
theorem dX8_init_144 : decode cX8_init 144 = .ok (.aload_n 0, 1) := by decide +kernel
theorem dX8_init_145 : decode cX8_init 145 = .ok (.iconst 2, 1) := by decide +kernel
theorem dX8_init_146 : decode cX8_init 146 = .ok (.bipush 60, 2) := by decide +kernel
theorem dX8_init_148 : decode cX8_init 148 = .ok (.invokevirtual 68, 3) := by decide +kernel
theorem dX8_init_151 : decode cX8_init 151 = .ok (.return_, 1) := by decide +kernel
theorem dX8_thrown_0 : decode cX8_thrown 0 = .ok (.aload_n 0, 1) := by decide +kernel
theorem dX8_thrown_1 : decode cX8_thrown 1 = .ok (.getfield 72, 3) := by decide +kernel
theorem dX8_thrown_4 : decode cX8_thrown 4 = .ok (.ireturn, 1) := by decide +kernel
theorem dX8_holds_0 : decode cX8_holds 0 = .ok (.aload_n 0, 1) := by decide +kernel
theorem dX8_holds_1 : decode cX8_holds 1 = .ok (.iload_n 1, 1) := by decide +kernel
theorem dX8_holds_2 : decode cX8_holds 2 = .ok (.putfield 72, 3) := by decide +kernel
theorem dX8_holds_5 : decode cX8_holds 5 = .ok (.iload_n 1, 1) := by decide +kernel
theorem dX8_holds_6 : decode cX8_holds 6 = .ok (.ifCond .ne 7, 3) := by decide +kernel
theorem dX8_holds_9 : decode cX8_holds 9 = .ok (.iconst 1, 1) := by decide +kernel
theorem dX8_holds_10 : decode cX8_holds 10 = .ok (.goto 4, 3) := by decide +kernel
theorem dX8_holds_13 : decode cX8_holds 13 = .ok (.iconst 0, 1) := by decide +kernel
theorem dX8_holds_14 : decode cX8_holds 14 = .ok (.ireturn, 1) := by decide +kernel
theorem dX8_in_0 : decode cX8_in 0 = .ok (.iload_n 0, 1) := by decide +kernel
theorem dX8_in_1 : decode cX8_in 1 = .ok (.iload_n 1, 1) := by decide +kernel
theorem dX8_in_2 : decode cX8_in 2 = .ok (.if_icmp .lt 12, 3) := by decide +kernel
theorem dX8_in_5 : decode cX8_in 5 = .ok (.iload_n 0, 1) := by decide +kernel
theorem dX8_in_6 : decode cX8_in 6 = .ok (.iload_n 2, 1) := by decide +kernel
theorem dX8_in_7 : decode cX8_in 7 = .ok (.if_icmp .gt 7, 3) := by decide +kernel
theorem dX8_in_10 : decode cX8_in 10 = .ok (.iconst 1, 1) := by decide +kernel
theorem dX8_in_11 : decode cX8_in 11 = .ok (.goto 4, 3) := by decide +kernel
theorem dX8_in_14 : decode cX8_in 14 = .ok (.iconst 0, 1) := by decide +kernel
theorem dX8_in_15 : decode cX8_in 15 = .ok (.ireturn, 1) := by decide +kernel
theorem dX8_has_0 : decode cX8_has 0 = .ok (.iload_n 0, 1) := by decide +kernel
theorem dX8_has_1 : decode cX8_has 1 = .ok (.iload_n 1, 1) := by decide +kernel
theorem dX8_has_2 : decode cX8_has 2 = .ok (.ishr, 1) := by decide +kernel
theorem dX8_has_3 : decode cX8_has 3 = .ok (.iconst 1, 1) := by decide +kernel
theorem dX8_has_4 : decode cX8_has 4 = .ok (.iand, 1) := by decide +kernel
theorem dX8_has_5 : decode cX8_has 5 = .ok (.iconst 1, 1) := by decide +kernel
theorem dX8_has_6 : decode cX8_has 6 = .ok (.if_icmp .ne 7, 3) := by decide +kernel
theorem dX8_has_9 : decode cX8_has 9 = .ok (.iconst 1, 1) := by decide +kernel
theorem dX8_has_10 : decode cX8_has 10 = .ok (.goto 4, 3) := by decide +kernel
theorem dX8_has_13 : decode cX8_has 13 = .ok (.iconst 0, 1) := by decide +kernel
theorem dX8_has_14 : decode cX8_has 14 = .ok (.ireturn, 1) := by decide +kernel
theorem dX8_isJunction_0 : decode cX8_isJunction 0 = .ok (.iload_n 1, 1) := by decide +kernel
theorem dX8_isJunction_1 : decode cX8_isJunction 1 = .ok (.iconst 0, 1) := by decide +kernel
theorem dX8_isJunction_2 : decode cX8_isJunction 2 = .ok (.aload_n 0, 1) := by decide +kernel
theorem dX8_isJunction_3 : decode cX8_isJunction 3 = .ok (.getfield 76, 3) := by decide +kernel
theorem dX8_isJunction_6 : decode cX8_isJunction 6 = .ok (.iconst 1, 1) := by decide +kernel
theorem dX8_isJunction_7 : decode cX8_isJunction 7 = .ok (.isub, 1) := by decide +kernel
theorem dX8_isJunction_8 : decode cX8_isJunction 8 = .ok (.invokestatic 79, 3) := by decide +kernel
theorem dX8_isJunction_11 : decode cX8_isJunction 11 = .ok (.ireturn, 1) := by decide +kernel
theorem dX8_isMovement_0 : decode cX8_isMovement 0 = .ok (.iload_n 0, 1) := by decide +kernel
theorem dX8_isMovement_1 : decode cX8_isMovement 1 = .ok (.iconst 0, 1) := by decide +kernel
theorem dX8_isMovement_2 : decode cX8_isMovement 2 = .ok (.iconst 3, 1) := by decide +kernel
theorem dX8_isMovement_3 : decode cX8_isMovement 3 = .ok (.invokestatic 79, 3) := by decide +kernel
theorem dX8_isMovement_6 : decode cX8_isMovement 6 = .ok (.ireturn, 1) := by decide +kernel
theorem dX8_isLink_0 : decode cX8_isLink 0 = .ok (.iload_n 1, 1) := by decide +kernel
theorem dX8_isLink_1 : decode cX8_isLink 1 = .ok (.iconst 0, 1) := by decide +kernel
theorem dX8_isLink_2 : decode cX8_isLink 2 = .ok (.aload_n 0, 1) := by decide +kernel
theorem dX8_isLink_3 : decode cX8_isLink 3 = .ok (.getfield 76, 3) := by decide +kernel
theorem dX8_isLink_6 : decode cX8_isLink 6 = .ok (.iconst 2, 1) := by decide +kernel
theorem dX8_isLink_7 : decode cX8_isLink 7 = .ok (.isub, 1) := by decide +kernel
theorem dX8_isLink_8 : decode cX8_isLink 8 = .ok (.invokestatic 79, 3) := by decide +kernel
theorem dX8_isLink_11 : decode cX8_isLink 11 = .ok (.ireturn, 1) := by decide +kernel
theorem dX8_conflict_0 : decode cX8_conflict 0 = .ok (.bipush 16, 2) := by decide +kernel
theorem dX8_conflict_2 : decode cX8_conflict 2 = .ok (.iload_n 0, 1) := by decide +kernel
theorem dX8_conflict_3 : decode cX8_conflict 3 = .ok (.imul, 1) := by decide +kernel
theorem dX8_conflict_4 : decode cX8_conflict 4 = .ok (.iconst 4, 1) := by decide +kernel
theorem dX8_conflict_5 : decode cX8_conflict 5 = .ok (.iload_n 1, 1) := by decide +kernel
theorem dX8_conflict_6 : decode cX8_conflict 6 = .ok (.imul, 1) := by decide +kernel
theorem dX8_conflict_7 : decode cX8_conflict 7 = .ok (.iadd, 1) := by decide +kernel
theorem dX8_conflict_8 : decode cX8_conflict 8 = .ok (.iload_n 2, 1) := by decide +kernel
theorem dX8_conflict_9 : decode cX8_conflict 9 = .ok (.iadd, 1) := by decide +kernel
theorem dX8_conflict_10 : decode cX8_conflict 10 = .ok (.ireturn, 1) := by decide +kernel
theorem dX8_begins_0 : decode cX8_begins 0 = .ok (.aload_n 0, 1) := by decide +kernel
theorem dX8_begins_1 : decode cX8_begins 1 = .ok (.iload_n 1, 1) := by decide +kernel
theorem dX8_begins_2 : decode cX8_begins 2 = .ok (.putfield 76, 3) := by decide +kernel
theorem dX8_begins_5 : decode cX8_begins 5 = .ok (.aload_n 0, 1) := by decide +kernel
theorem dX8_begins_6 : decode cX8_begins 6 = .ok (.iload_n 2, 1) := by decide +kernel
theorem dX8_begins_7 : decode cX8_begins 7 = .ok (.putfield 83, 3) := by decide +kernel
theorem dX8_begins_10 : decode cX8_begins 10 = .ok (.aload_n 0, 1) := by decide +kernel
theorem dX8_begins_11 : decode cX8_begins 11 = .ok (.iconst 0, 1) := by decide +kernel
theorem dX8_begins_12 : decode cX8_begins 12 = .ok (.putfield 86, 3) := by decide +kernel
theorem dX8_begins_15 : decode cX8_begins 15 = .ok (.aload_n 0, 1) := by decide +kernel
theorem dX8_begins_16 : decode cX8_begins 16 = .ok (.iconst 0, 1) := by decide +kernel
theorem dX8_begins_17 : decode cX8_begins 17 = .ok (.putfield 90, 3) := by decide +kernel
theorem dX8_begins_20 : decode cX8_begins 20 = .ok (.aload_n 0, 1) := by decide +kernel
theorem dX8_begins_21 : decode cX8_begins 21 = .ok (.iconst 0, 1) := by decide +kernel
theorem dX8_begins_22 : decode cX8_begins 22 = .ok (.putfield 93, 3) := by decide +kernel
theorem dX8_begins_25 : decode cX8_begins 25 = .ok (.aload_n 0, 1) := by decide +kernel
theorem dX8_begins_26 : decode cX8_begins 26 = .ok (.iconst 0, 1) := by decide +kernel
theorem dX8_begins_27 : decode cX8_begins 27 = .ok (.putfield 96, 3) := by decide +kernel
theorem dX8_begins_30 : decode cX8_begins 30 = .ok (.aload_n 0, 1) := by decide +kernel
theorem dX8_begins_31 : decode cX8_begins 31 = .ok (.iconst 0, 1) := by decide +kernel
theorem dX8_begins_32 : decode cX8_begins 32 = .ok (.putfield 99, 3) := by decide +kernel
theorem dX8_begins_35 : decode cX8_begins 35 = .ok (.iconst 0, 1) := by decide +kernel
theorem dX8_begins_36 : decode cX8_begins 36 = .ok (.istore_n 3, 1) := by decide +kernel
theorem dX8_begins_37 : decode cX8_begins 37 = .ok (.iload_n 3, 1) := by decide +kernel
theorem dX8_begins_38 : decode cX8_begins 38 = .ok (.iconst 5, 1) := by decide +kernel
theorem dX8_begins_39 : decode cX8_begins 39 = .ok (.if_icmp .ge 65, 3) := by decide +kernel
theorem dX8_begins_42 : decode cX8_begins 42 = .ok (.aload_n 0, 1) := by decide +kernel
theorem dX8_begins_43 : decode cX8_begins 43 = .ok (.getfield 16, 3) := by decide +kernel
theorem dX8_begins_46 : decode cX8_begins 46 = .ok (.iload_n 3, 1) := by decide +kernel
theorem dX8_begins_47 : decode cX8_begins 47 = .ok (.iconst 2, 1) := by decide +kernel
theorem dX8_begins_48 : decode cX8_begins 48 = .ok (.iastore, 1) := by decide +kernel
theorem dX8_begins_49 : decode cX8_begins 49 = .ok (.aload_n 0, 1) := by decide +kernel
theorem dX8_begins_50 : decode cX8_begins 50 = .ok (.getfield 13, 3) := by decide +kernel
theorem dX8_begins_53 : decode cX8_begins 53 = .ok (.iconst 4, 1) := by decide +kernel
theorem dX8_begins_54 : decode cX8_begins 54 = .ok (.iload_n 3, 1) := by decide +kernel
theorem dX8_begins_55 : decode cX8_begins 55 = .ok (.imul, 1) := by decide +kernel
theorem dX8_begins_56 : decode cX8_begins 56 = .ok (.iconst 3, 1) := by decide +kernel
theorem dX8_begins_57 : decode cX8_begins 57 = .ok (.iastore, 1) := by decide +kernel
theorem dX8_begins_58 : decode cX8_begins 58 = .ok (.aload_n 0, 1) := by decide +kernel
theorem dX8_begins_59 : decode cX8_begins 59 = .ok (.getfield 13, 3) := by decide +kernel
theorem dX8_begins_62 : decode cX8_begins 62 = .ok (.iconst 4, 1) := by decide +kernel
theorem dX8_begins_63 : decode cX8_begins 63 = .ok (.iload_n 3, 1) := by decide +kernel
theorem dX8_begins_64 : decode cX8_begins 64 = .ok (.imul, 1) := by decide +kernel
theorem dX8_begins_65 : decode cX8_begins 65 = .ok (.iconst 1, 1) := by decide +kernel
theorem dX8_begins_66 : decode cX8_begins 66 = .ok (.iadd, 1) := by decide +kernel
theorem dX8_begins_67 : decode cX8_begins 67 = .ok (.bipush 12, 2) := by decide +kernel
theorem dX8_begins_69 : decode cX8_begins 69 = .ok (.iastore, 1) := by decide +kernel
theorem dX8_begins_70 : decode cX8_begins 70 = .ok (.aload_n 0, 1) := by decide +kernel
theorem dX8_begins_71 : decode cX8_begins 71 = .ok (.getfield 22, 3) := by decide +kernel
theorem dX8_begins_74 : decode cX8_begins 74 = .ok (.iload_n 3, 1) := by decide +kernel
theorem dX8_begins_75 : decode cX8_begins 75 = .ok (.iconst 0, 1) := by decide +kernel
theorem dX8_begins_76 : decode cX8_begins 76 = .ok (.iastore, 1) := by decide +kernel
theorem dX8_begins_77 : decode cX8_begins 77 = .ok (.aload_n 0, 1) := by decide +kernel
theorem dX8_begins_78 : decode cX8_begins 78 = .ok (.getfield 41, 3) := by decide +kernel
theorem dX8_begins_81 : decode cX8_begins 81 = .ok (.iload_n 3, 1) := by decide +kernel
theorem dX8_begins_82 : decode cX8_begins 82 = .ok (.iconst 0, 1) := by decide +kernel
theorem dX8_begins_83 : decode cX8_begins 83 = .ok (.iastore, 1) := by decide +kernel
theorem dX8_begins_84 : decode cX8_begins 84 = .ok (.aload_n 0, 1) := by decide +kernel
theorem dX8_begins_85 : decode cX8_begins 85 = .ok (.getfield 44, 3) := by decide +kernel
theorem dX8_begins_88 : decode cX8_begins 88 = .ok (.iload_n 3, 1) := by decide +kernel
theorem dX8_begins_89 : decode cX8_begins 89 = .ok (.iconst 0, 1) := by decide +kernel
theorem dX8_begins_90 : decode cX8_begins 90 = .ok (.iastore, 1) := by decide +kernel
theorem dX8_begins_91 : decode cX8_begins 91 = .ok (.aload_n 0, 1) := by decide +kernel
theorem dX8_begins_92 : decode cX8_begins 92 = .ok (.getfield 53, 3) := by decide +kernel
theorem dX8_begins_95 : decode cX8_begins 95 = .ok (.iload_n 3, 1) := by decide +kernel
theorem dX8_begins_96 : decode cX8_begins 96 = .ok (.iconst 0, 1) := by decide +kernel
theorem dX8_begins_97 : decode cX8_begins 97 = .ok (.bastore, 1) := by decide +kernel
theorem dX8_begins_98 : decode cX8_begins 98 = .ok (.iinc 3 1, 3) := by decide +kernel
theorem dX8_begins_101 : decode cX8_begins 101 = .ok (.goto (-64), 3) := by decide +kernel
theorem dX8_begins_104 : decode cX8_begins 104 = .ok (.iconst 0, 1) := by decide +kernel
theorem dX8_begins_105 : decode cX8_begins 105 = .ok (.istore_n 3, 1) := by decide +kernel
theorem dX8_begins_106 : decode cX8_begins 106 = .ok (.iload_n 3, 1) := by decide +kernel
theorem dX8_begins_107 : decode cX8_begins 107 = .ok (.iconst 4, 1) := by decide +kernel
theorem dX8_begins_108 : decode cX8_begins 108 = .ok (.if_icmp .ge 32, 3) := by decide +kernel
theorem dX8_begins_111 : decode cX8_begins 111 = .ok (.aload_n 0, 1) := by decide +kernel
theorem dX8_begins_112 : decode cX8_begins 112 = .ok (.getfield 25, 3) := by decide +kernel
theorem dX8_begins_115 : decode cX8_begins 115 = .ok (.iload_n 3, 1) := by decide +kernel
theorem dX8_begins_116 : decode cX8_begins 116 = .ok (.bipush 10, 2) := by decide +kernel
theorem dX8_begins_118 : decode cX8_begins 118 = .ok (.iastore, 1) := by decide +kernel
theorem dX8_begins_119 : decode cX8_begins 119 = .ok (.aload_n 0, 1) := by decide +kernel
theorem dX8_begins_120 : decode cX8_begins 120 = .ok (.getfield 28, 3) := by decide +kernel
theorem dX8_begins_123 : decode cX8_begins 123 = .ok (.iload_n 3, 1) := by decide +kernel
theorem dX8_begins_124 : decode cX8_begins 124 = .ok (.bipush 20, 2) := by decide +kernel
theorem dX8_begins_126 : decode cX8_begins 126 = .ok (.iastore, 1) := by decide +kernel
theorem dX8_begins_127 : decode cX8_begins 127 = .ok (.aload_n 0, 1) := by decide +kernel
theorem dX8_begins_128 : decode cX8_begins 128 = .ok (.getfield 47, 3) := by decide +kernel
theorem dX8_begins_131 : decode cX8_begins 131 = .ok (.iload_n 3, 1) := by decide +kernel
theorem dX8_begins_132 : decode cX8_begins 132 = .ok (.iconst 0, 1) := by decide +kernel
theorem dX8_begins_133 : decode cX8_begins 133 = .ok (.iastore, 1) := by decide +kernel
theorem dX8_begins_134 : decode cX8_begins 134 = .ok (.iinc 3 1, 3) := by decide +kernel
theorem dX8_begins_137 : decode cX8_begins 137 = .ok (.goto (-31), 3) := by decide +kernel
theorem dX8_begins_140 : decode cX8_begins 140 = .ok (.iconst 0, 1) := by decide +kernel
theorem dX8_begins_141 : decode cX8_begins 141 = .ok (.istore_n 3, 1) := by decide +kernel
theorem dX8_begins_142 : decode cX8_begins 142 = .ok (.iload_n 3, 1) := by decide +kernel
theorem dX8_begins_143 : decode cX8_begins 143 = .ok (.bipush 80, 2) := by decide +kernel
theorem dX8_begins_145 : decode cX8_begins 145 = .ok (.if_icmp .ge 58, 3) := by decide +kernel
theorem dX8_begins_148 : decode cX8_begins 148 = .ok (.aload_n 0, 1) := by decide +kernel
theorem dX8_begins_149 : decode cX8_begins 149 = .ok (.getfield 7, 3) := by decide +kernel
theorem dX8_begins_152 : decode cX8_begins 152 = .ok (.iload_n 3, 1) := by decide +kernel
theorem dX8_begins_153 : decode cX8_begins 153 = .ok (.iload_n 3, 1) := by decide +kernel
theorem dX8_begins_154 : decode cX8_begins 154 = .ok (.iconst 4, 1) := by decide +kernel
theorem dX8_begins_155 : decode cX8_begins 155 = .ok (.idiv, 1) := by decide +kernel
theorem dX8_begins_156 : decode cX8_begins 156 = .ok (.iconst 4, 1) := by decide +kernel
theorem dX8_begins_157 : decode cX8_begins 157 = .ok (.irem, 1) := by decide +kernel
theorem dX8_begins_158 : decode cX8_begins 158 = .ok (.iconst 2, 1) := by decide +kernel
theorem dX8_begins_159 : decode cX8_begins 159 = .ok (.if_icmp .ge 7, 3) := by decide +kernel
theorem dX8_begins_162 : decode cX8_begins 162 = .ok (.iconst 1, 1) := by decide +kernel
theorem dX8_begins_163 : decode cX8_begins 163 = .ok (.goto 4, 3) := by decide +kernel
theorem dX8_begins_166 : decode cX8_begins 166 = .ok (.iconst 0, 1) := by decide +kernel
theorem dX8_begins_167 : decode cX8_begins 167 = .ok (.iload_n 3, 1) := by decide +kernel
theorem dX8_begins_168 : decode cX8_begins 168 = .ok (.iconst 4, 1) := by decide +kernel
theorem dX8_begins_169 : decode cX8_begins 169 = .ok (.irem, 1) := by decide +kernel
theorem dX8_begins_170 : decode cX8_begins 170 = .ok (.iconst 2, 1) := by decide +kernel
theorem dX8_begins_171 : decode cX8_begins 171 = .ok (.if_icmp .ge 7, 3) := by decide +kernel
theorem dX8_begins_174 : decode cX8_begins 174 = .ok (.iconst 1, 1) := by decide +kernel
theorem dX8_begins_175 : decode cX8_begins 175 = .ok (.goto 4, 3) := by decide +kernel
theorem dX8_begins_178 : decode cX8_begins 178 = .ok (.iconst 0, 1) := by decide +kernel
theorem dX8_begins_179 : decode cX8_begins 179 = .ok (.if_icmp .eq 7, 3) := by decide +kernel
theorem dX8_begins_182 : decode cX8_begins 182 = .ok (.iconst 3, 1) := by decide +kernel
theorem dX8_begins_183 : decode cX8_begins 183 = .ok (.goto 4, 3) := by decide +kernel
theorem dX8_begins_186 : decode cX8_begins 186 = .ok (.iconst (-1), 1) := by decide +kernel
theorem dX8_begins_187 : decode cX8_begins 187 = .ok (.iastore, 1) := by decide +kernel
theorem dX8_begins_188 : decode cX8_begins 188 = .ok (.aload_n 0, 1) := by decide +kernel
theorem dX8_begins_189 : decode cX8_begins 189 = .ok (.getfield 19, 3) := by decide +kernel
theorem dX8_begins_192 : decode cX8_begins 192 = .ok (.iload_n 3, 1) := by decide +kernel
theorem dX8_begins_193 : decode cX8_begins 193 = .ok (.iconst 4, 1) := by decide +kernel
theorem dX8_begins_194 : decode cX8_begins 194 = .ok (.idiv, 1) := by decide +kernel
theorem dX8_begins_195 : decode cX8_begins 195 = .ok (.iconst 0, 1) := by decide +kernel
theorem dX8_begins_196 : decode cX8_begins 196 = .ok (.iastore, 1) := by decide +kernel
theorem dX8_begins_197 : decode cX8_begins 197 = .ok (.iinc 3 1, 3) := by decide +kernel
theorem dX8_begins_200 : decode cX8_begins 200 = .ok (.goto (-58), 3) := by decide +kernel
theorem dX8_begins_203 : decode cX8_begins 203 = .ok (.return_, 1) := by decide +kernel
theorem dX8_begin_0 : decode cX8_begin 0 = .ok (.aload_n 0, 1) := by decide +kernel
theorem dX8_begin_1 : decode cX8_begin 1 = .ok (.iload_n 1, 1) := by decide +kernel
theorem dX8_begin_2 : decode cX8_begin 2 = .ok (.iconst 2, 1) := by decide +kernel
theorem dX8_begin_3 : decode cX8_begin 3 = .ok (.iconst 5, 1) := by decide +kernel
theorem dX8_begin_4 : decode cX8_begin 4 = .ok (.invokestatic 79, 3) := by decide +kernel
theorem dX8_begin_7 : decode cX8_begin 7 = .ok (.ifCond .eq 18, 3) := by decide +kernel
theorem dX8_begin_10 : decode cX8_begin 10 = .ok (.iload_n 2, 1) := by decide +kernel
theorem dX8_begin_11 : decode cX8_begin 11 = .ok (.bipush 30, 2) := by decide +kernel
theorem dX8_begin_13 : decode cX8_begin 13 = .ok (.bipush 90, 2) := by decide +kernel
theorem dX8_begin_15 : decode cX8_begin 15 = .ok (.invokestatic 79, 3) := by decide +kernel
theorem dX8_begin_18 : decode cX8_begin 18 = .ok (.ifCond .eq 7, 3) := by decide +kernel
theorem dX8_begin_21 : decode cX8_begin 21 = .ok (.iconst 0, 1) := by decide +kernel
theorem dX8_begin_22 : decode cX8_begin 22 = .ok (.goto 4, 3) := by decide +kernel
theorem dX8_begin_25 : decode cX8_begin 25 = .ok (.iconst 1, 1) := by decide +kernel
theorem dX8_begin_26 : decode cX8_begin 26 = .ok (.invokevirtual 102, 3) := by decide +kernel
theorem dX8_begin_29 : decode cX8_begin 29 = .ok (.ifCond .eq 9, 3) := by decide +kernel
theorem dX8_begin_32 : decode cX8_begin 32 = .ok (.aload_n 0, 1) := by decide +kernel
theorem dX8_begin_33 : decode cX8_begin 33 = .ok (.iload_n 1, 1) := by decide +kernel
theorem dX8_begin_34 : decode cX8_begin 34 = .ok (.iload_n 2, 1) := by decide +kernel
theorem dX8_begin_35 : decode cX8_begin 35 = .ok (.invokevirtual 68, 3) := by decide +kernel
theorem dX8_begin_38 : decode cX8_begin 38 = .ok (.return_, 1) := by decide +kernel
theorem dX8_areIn_0 : decode cX8_areIn 0 = .ok (.iload_n 2, 1) := by decide +kernel
theorem dX8_areIn_1 : decode cX8_areIn 1 = .ok (.iload_n 3, 1) := by decide +kernel
theorem dX8_areIn_2 : decode cX8_areIn 2 = .ok (.invokestatic 106, 3) := by decide +kernel
theorem dX8_areIn_5 : decode cX8_areIn 5 = .ok (.ifCond .eq 32, 3) := by decide +kernel
theorem dX8_areIn_8 : decode cX8_areIn 8 = .ok (.iload_n 2, 1) := by decide +kernel
theorem dX8_areIn_9 : decode cX8_areIn 9 = .ok (.iload 4, 2) := by decide +kernel
theorem dX8_areIn_11 : decode cX8_areIn 11 = .ok (.invokestatic 106, 3) := by decide +kernel
theorem dX8_areIn_14 : decode cX8_areIn 14 = .ok (.ifCond .eq 23, 3) := by decide +kernel
theorem dX8_areIn_17 : decode cX8_areIn 17 = .ok (.aload_n 0, 1) := by decide +kernel
theorem dX8_areIn_18 : decode cX8_areIn 18 = .ok (.getfield 7, 3) := by decide +kernel
theorem dX8_areIn_21 : decode cX8_areIn 21 = .ok (.iload_n 1, 1) := by decide +kernel
theorem dX8_areIn_22 : decode cX8_areIn 22 = .ok (.iload_n 3, 1) := by decide +kernel
theorem dX8_areIn_23 : decode cX8_areIn 23 = .ok (.iload 4, 2) := by decide +kernel
theorem dX8_areIn_25 : decode cX8_areIn 25 = .ok (.invokestatic 110, 3) := by decide +kernel
theorem dX8_areIn_28 : decode cX8_areIn 28 = .ok (.iaload, 1) := by decide +kernel
theorem dX8_areIn_29 : decode cX8_areIn 29 = .ok (.iconst (-1), 1) := by decide +kernel
theorem dX8_areIn_30 : decode cX8_areIn 30 = .ok (.if_icmp .eq 7, 3) := by decide +kernel
theorem dX8_areIn_33 : decode cX8_areIn 33 = .ok (.iconst 1, 1) := by decide +kernel
theorem dX8_areIn_34 : decode cX8_areIn 34 = .ok (.goto 4, 3) := by decide +kernel
theorem dX8_areIn_37 : decode cX8_areIn 37 = .ok (.iconst 0, 1) := by decide +kernel
theorem dX8_areIn_38 : decode cX8_areIn 38 = .ok (.ireturn, 1) := by decide +kernel
theorem dX8_isBad_0 : decode cX8_isBad 0 = .ok (.iconst 0, 1) := by decide +kernel
theorem dX8_isBad_1 : decode cX8_isBad 1 = .ok (.istore_n 3, 1) := by decide +kernel
theorem dX8_isBad_2 : decode cX8_isBad 2 = .ok (.iload_n 3, 1) := by decide +kernel
theorem dX8_isBad_3 : decode cX8_isBad 3 = .ok (.bipush 16, 2) := by decide +kernel
theorem dX8_isBad_5 : decode cX8_isBad 5 = .ok (.if_icmp .ge 26, 3) := by decide +kernel
theorem dX8_isBad_8 : decode cX8_isBad 8 = .ok (.aload_n 0, 1) := by decide +kernel
theorem dX8_isBad_9 : decode cX8_isBad 9 = .ok (.iload_n 1, 1) := by decide +kernel
theorem dX8_isBad_10 : decode cX8_isBad 10 = .ok (.iload_n 2, 1) := by decide +kernel
theorem dX8_isBad_11 : decode cX8_isBad 11 = .ok (.iload_n 3, 1) := by decide +kernel
theorem dX8_isBad_12 : decode cX8_isBad 12 = .ok (.iconst 4, 1) := by decide +kernel
theorem dX8_isBad_13 : decode cX8_isBad 13 = .ok (.idiv, 1) := by decide +kernel
theorem dX8_isBad_14 : decode cX8_isBad 14 = .ok (.iload_n 3, 1) := by decide +kernel
theorem dX8_isBad_15 : decode cX8_isBad 15 = .ok (.iconst 4, 1) := by decide +kernel
theorem dX8_isBad_16 : decode cX8_isBad 16 = .ok (.irem, 1) := by decide +kernel
theorem dX8_isBad_17 : decode cX8_isBad 17 = .ok (.invokevirtual 114, 3) := by decide +kernel
theorem dX8_isBad_20 : decode cX8_isBad 20 = .ok (.ifCond .eq 5, 3) := by decide +kernel
theorem dX8_isBad_23 : decode cX8_isBad 23 = .ok (.iconst 1, 1) := by decide +kernel
theorem dX8_isBad_24 : decode cX8_isBad 24 = .ok (.ireturn, 1) := by decide +kernel
theorem dX8_isBad_25 : decode cX8_isBad 25 = .ok (.iinc 3 1, 3) := by decide +kernel
theorem dX8_isBad_28 : decode cX8_isBad 28 = .ok (.goto (-26), 3) := by decide +kernel
theorem dX8_isBad_31 : decode cX8_isBad 31 = .ok (.iconst 0, 1) := by decide +kernel
theorem dX8_isBad_32 : decode cX8_isBad 32 = .ok (.ireturn, 1) := by decide +kernel
theorem dX8_errorOfConflict_0 : decode cX8_errorOfConflict 0 = .ok (.aload_n 0, 1) := by decide +kernel
theorem dX8_errorOfConflict_1 : decode cX8_errorOfConflict 1 = .ok (.iload_n 1, 1) := by decide +kernel
theorem dX8_errorOfConflict_2 : decode cX8_errorOfConflict 2 = .ok (.invokevirtual 118, 3) := by decide +kernel
theorem dX8_errorOfConflict_5 : decode cX8_errorOfConflict 5 = .ok (.ifCond .eq 17, 3) := by decide +kernel
theorem dX8_errorOfConflict_8 : decode cX8_errorOfConflict 8 = .ok (.iload_n 2, 1) := by decide +kernel
theorem dX8_errorOfConflict_9 : decode cX8_errorOfConflict 9 = .ok (.invokestatic 121, 3) := by decide +kernel
theorem dX8_errorOfConflict_12 : decode cX8_errorOfConflict 12 = .ok (.ifCond .eq 10, 3) := by decide +kernel
theorem dX8_errorOfConflict_15 : decode cX8_errorOfConflict 15 = .ok (.iload_n 3, 1) := by decide +kernel
theorem dX8_errorOfConflict_16 : decode cX8_errorOfConflict 16 = .ok (.invokestatic 121, 3) := by decide +kernel
theorem dX8_errorOfConflict_19 : decode cX8_errorOfConflict 19 = .ok (.ifCond .ne 5, 3) := by decide +kernel
theorem dX8_errorOfConflict_22 : decode cX8_errorOfConflict 22 = .ok (.iconst 1, 1) := by decide +kernel
theorem dX8_errorOfConflict_23 : decode cX8_errorOfConflict 23 = .ok (.ireturn, 1) := by decide +kernel
theorem dX8_errorOfConflict_24 : decode cX8_errorOfConflict 24 = .ok (.iconst 0, 1) := by decide +kernel
theorem dX8_errorOfConflict_25 : decode cX8_errorOfConflict 25 = .ok (.istore 5, 2) := by decide +kernel
theorem dX8_errorOfConflict_27 : decode cX8_errorOfConflict 27 = .ok (.iconst 0, 1) := by decide +kernel
theorem dX8_errorOfConflict_28 : decode cX8_errorOfConflict 28 = .ok (.istore 6, 2) := by decide +kernel
theorem dX8_errorOfConflict_30 : decode cX8_errorOfConflict 30 = .ok (.iload 6, 2) := by decide +kernel
theorem dX8_errorOfConflict_32 : decode cX8_errorOfConflict 32 = .ok (.aload_n 0, 1) := by decide +kernel
theorem dX8_errorOfConflict_33 : decode cX8_errorOfConflict 33 = .ok (.getfield 16, 3) := by decide +kernel
theorem dX8_errorOfConflict_36 : decode cX8_errorOfConflict 36 = .ok (.iload_n 1, 1) := by decide +kernel
theorem dX8_errorOfConflict_37 : decode cX8_errorOfConflict 37 = .ok (.iaload, 1) := by decide +kernel
theorem dX8_errorOfConflict_38 : decode cX8_errorOfConflict 38 = .ok (.if_icmp .ge 52, 3) := by decide +kernel
theorem dX8_errorOfConflict_41 : decode cX8_errorOfConflict 41 = .ok (.aload_n 0, 1) := by decide +kernel
theorem dX8_errorOfConflict_42 : decode cX8_errorOfConflict 42 = .ok (.getfield 13, 3) := by decide +kernel
theorem dX8_errorOfConflict_45 : decode cX8_errorOfConflict 45 = .ok (.iconst 4, 1) := by decide +kernel
theorem dX8_errorOfConflict_46 : decode cX8_errorOfConflict 46 = .ok (.iload_n 1, 1) := by decide +kernel
theorem dX8_errorOfConflict_47 : decode cX8_errorOfConflict 47 = .ok (.imul, 1) := by decide +kernel
theorem dX8_errorOfConflict_48 : decode cX8_errorOfConflict 48 = .ok (.iload 6, 2) := by decide +kernel
theorem dX8_errorOfConflict_50 : decode cX8_errorOfConflict 50 = .ok (.iadd, 1) := by decide +kernel
theorem dX8_errorOfConflict_51 : decode cX8_errorOfConflict 51 = .ok (.iaload, 1) := by decide +kernel
theorem dX8_errorOfConflict_52 : decode cX8_errorOfConflict 52 = .ok (.istore 7, 2) := by decide +kernel
theorem dX8_errorOfConflict_54 : decode cX8_errorOfConflict 54 = .ok (.iload 5, 2) := by decide +kernel
theorem dX8_errorOfConflict_56 : decode cX8_errorOfConflict 56 = .ok (.ifCond .ne 21, 3) := by decide +kernel
theorem dX8_errorOfConflict_59 : decode cX8_errorOfConflict 59 = .ok (.iload 7, 2) := by decide +kernel
theorem dX8_errorOfConflict_61 : decode cX8_errorOfConflict 61 = .ok (.iload_n 2, 1) := by decide +kernel
theorem dX8_errorOfConflict_62 : decode cX8_errorOfConflict 62 = .ok (.invokestatic 106, 3) := by decide +kernel
theorem dX8_errorOfConflict_65 : decode cX8_errorOfConflict 65 = .ok (.ifCond .eq 16, 3) := by decide +kernel
theorem dX8_errorOfConflict_68 : decode cX8_errorOfConflict 68 = .ok (.iload 7, 2) := by decide +kernel
theorem dX8_errorOfConflict_70 : decode cX8_errorOfConflict 70 = .ok (.iload_n 3, 1) := by decide +kernel
theorem dX8_errorOfConflict_71 : decode cX8_errorOfConflict 71 = .ok (.invokestatic 106, 3) := by decide +kernel
theorem dX8_errorOfConflict_74 : decode cX8_errorOfConflict 74 = .ok (.ifCond .eq 7, 3) := by decide +kernel
theorem dX8_errorOfConflict_77 : decode cX8_errorOfConflict 77 = .ok (.iconst 1, 1) := by decide +kernel
theorem dX8_errorOfConflict_78 : decode cX8_errorOfConflict 78 = .ok (.goto 4, 3) := by decide +kernel
theorem dX8_errorOfConflict_81 : decode cX8_errorOfConflict 81 = .ok (.iconst 0, 1) := by decide +kernel
theorem dX8_errorOfConflict_82 : decode cX8_errorOfConflict 82 = .ok (.istore 5, 2) := by decide +kernel
theorem dX8_errorOfConflict_84 : decode cX8_errorOfConflict 84 = .ok (.iinc 6 1, 3) := by decide +kernel
theorem dX8_errorOfConflict_87 : decode cX8_errorOfConflict 87 = .ok (.goto (-57), 3) := by decide +kernel
theorem dX8_errorOfConflict_90 : decode cX8_errorOfConflict 90 = .ok (.iload_n 2, 1) := by decide +kernel
theorem dX8_errorOfConflict_91 : decode cX8_errorOfConflict 91 = .ok (.iload_n 3, 1) := by decide +kernel
theorem dX8_errorOfConflict_92 : decode cX8_errorOfConflict 92 = .ok (.if_icmp .eq 14, 3) := by decide +kernel
theorem dX8_errorOfConflict_95 : decode cX8_errorOfConflict 95 = .ok (.iload 4, 2) := by decide +kernel
theorem dX8_errorOfConflict_97 : decode cX8_errorOfConflict 97 = .ok (.iconst (-1), 1) := by decide +kernel
theorem dX8_errorOfConflict_98 : decode cX8_errorOfConflict 98 = .ok (.bipush 9, 2) := by decide +kernel
theorem dX8_errorOfConflict_100 : decode cX8_errorOfConflict 100 = .ok (.invokestatic 79, 3) := by decide +kernel
theorem dX8_errorOfConflict_103 : decode cX8_errorOfConflict 103 = .ok (.ifCond .ne 7, 3) := by decide +kernel
theorem dX8_errorOfConflict_106 : decode cX8_errorOfConflict 106 = .ok (.iconst 2, 1) := by decide +kernel
theorem dX8_errorOfConflict_107 : decode cX8_errorOfConflict 107 = .ok (.goto 26, 3) := by decide +kernel
theorem dX8_errorOfConflict_110 : decode cX8_errorOfConflict 110 = .ok (.iload 4, 2) := by decide +kernel
theorem dX8_errorOfConflict_112 : decode cX8_errorOfConflict 112 = .ok (.iconst (-1), 1) := by decide +kernel
theorem dX8_errorOfConflict_113 : decode cX8_errorOfConflict 113 = .ok (.if_icmp .eq 8, 3) := by decide +kernel
theorem dX8_errorOfConflict_116 : decode cX8_errorOfConflict 116 = .ok (.iload 5, 2) := by decide +kernel
theorem dX8_errorOfConflict_118 : decode cX8_errorOfConflict 118 = .ok (.ifCond .ne 10, 3) := by decide +kernel
theorem dX8_errorOfConflict_121 : decode cX8_errorOfConflict 121 = .ok (.aload_n 0, 1) := by decide +kernel
theorem dX8_errorOfConflict_122 : decode cX8_errorOfConflict 122 = .ok (.getfield 86, 3) := by decide +kernel
theorem dX8_errorOfConflict_125 : decode cX8_errorOfConflict 125 = .ok (.ifCond .eq 7, 3) := by decide +kernel
theorem dX8_errorOfConflict_128 : decode cX8_errorOfConflict 128 = .ok (.iconst 3, 1) := by decide +kernel
theorem dX8_errorOfConflict_129 : decode cX8_errorOfConflict 129 = .ok (.goto 4, 3) := by decide +kernel
theorem dX8_errorOfConflict_132 : decode cX8_errorOfConflict 132 = .ok (.iconst 0, 1) := by decide +kernel
theorem dX8_errorOfConflict_133 : decode cX8_errorOfConflict 133 = .ok (.ireturn, 1) := by decide +kernel
theorem dX8_setConflict_0 : decode cX8_setConflict 0 = .ok (.aload_n 0, 1) := by decide +kernel
theorem dX8_setConflict_1 : decode cX8_setConflict 1 = .ok (.aload_n 0, 1) := by decide +kernel
theorem dX8_setConflict_2 : decode cX8_setConflict 2 = .ok (.iload_n 1, 1) := by decide +kernel
theorem dX8_setConflict_3 : decode cX8_setConflict 3 = .ok (.iload_n 2, 1) := by decide +kernel
theorem dX8_setConflict_4 : decode cX8_setConflict 4 = .ok (.iload_n 3, 1) := by decide +kernel
theorem dX8_setConflict_5 : decode cX8_setConflict 5 = .ok (.iload 4, 2) := by decide +kernel
theorem dX8_setConflict_7 : decode cX8_setConflict 7 = .ok (.invokevirtual 124, 3) := by decide +kernel
theorem dX8_setConflict_10 : decode cX8_setConflict 10 = .ok (.invokevirtual 102, 3) := by decide +kernel
theorem dX8_setConflict_13 : decode cX8_setConflict 13 = .ok (.ifCond .ne 5, 3) := by decide +kernel
theorem dX8_setConflict_16 : decode cX8_setConflict 16 = .ok (.iconst 0, 1) := by decide +kernel
theorem dX8_setConflict_17 : decode cX8_setConflict 17 = .ok (.ireturn, 1) := by decide +kernel
theorem dX8_setConflict_18 : decode cX8_setConflict 18 = .ok (.aload_n 0, 1) := by decide +kernel
theorem dX8_setConflict_19 : decode cX8_setConflict 19 = .ok (.getfield 7, 3) := by decide +kernel
theorem dX8_setConflict_22 : decode cX8_setConflict 22 = .ok (.iload_n 1, 1) := by decide +kernel
theorem dX8_setConflict_23 : decode cX8_setConflict 23 = .ok (.iload_n 2, 1) := by decide +kernel
theorem dX8_setConflict_24 : decode cX8_setConflict 24 = .ok (.iload_n 3, 1) := by decide +kernel
theorem dX8_setConflict_25 : decode cX8_setConflict 25 = .ok (.invokestatic 110, 3) := by decide +kernel
theorem dX8_setConflict_28 : decode cX8_setConflict 28 = .ok (.iaload, 1) := by decide +kernel
theorem dX8_setConflict_29 : decode cX8_setConflict 29 = .ok (.istore 5, 2) := by decide +kernel
theorem dX8_setConflict_31 : decode cX8_setConflict 31 = .ok (.aload_n 0, 1) := by decide +kernel
theorem dX8_setConflict_32 : decode cX8_setConflict 32 = .ok (.getfield 7, 3) := by decide +kernel
theorem dX8_setConflict_35 : decode cX8_setConflict 35 = .ok (.iload_n 1, 1) := by decide +kernel
theorem dX8_setConflict_36 : decode cX8_setConflict 36 = .ok (.iload_n 2, 1) := by decide +kernel
theorem dX8_setConflict_37 : decode cX8_setConflict 37 = .ok (.iload_n 3, 1) := by decide +kernel
theorem dX8_setConflict_38 : decode cX8_setConflict 38 = .ok (.invokestatic 110, 3) := by decide +kernel
theorem dX8_setConflict_41 : decode cX8_setConflict 41 = .ok (.iload 4, 2) := by decide +kernel
theorem dX8_setConflict_43 : decode cX8_setConflict 43 = .ok (.iastore, 1) := by decide +kernel
theorem dX8_setConflict_44 : decode cX8_setConflict 44 = .ok (.aload_n 0, 1) := by decide +kernel
theorem dX8_setConflict_45 : decode cX8_setConflict 45 = .ok (.getfield 7, 3) := by decide +kernel
theorem dX8_setConflict_48 : decode cX8_setConflict 48 = .ok (.iload_n 1, 1) := by decide +kernel
theorem dX8_setConflict_49 : decode cX8_setConflict 49 = .ok (.iload_n 3, 1) := by decide +kernel
theorem dX8_setConflict_50 : decode cX8_setConflict 50 = .ok (.iload_n 2, 1) := by decide +kernel
theorem dX8_setConflict_51 : decode cX8_setConflict 51 = .ok (.invokestatic 110, 3) := by decide +kernel
theorem dX8_setConflict_54 : decode cX8_setConflict 54 = .ok (.iload 4, 2) := by decide +kernel
theorem dX8_setConflict_56 : decode cX8_setConflict 56 = .ok (.iastore, 1) := by decide +kernel
theorem dX8_setConflict_57 : decode cX8_setConflict 57 = .ok (.iload 5, 2) := by decide +kernel
theorem dX8_setConflict_59 : decode cX8_setConflict 59 = .ok (.ireturn, 1) := by decide +kernel
theorem dX8_setPhases_0 : decode cX8_setPhases 0 = .ok (.iload_n 2, 1) := by decide +kernel
theorem dX8_setPhases_1 : decode cX8_setPhases 1 = .ok (.iconst 1, 1) := by decide +kernel
theorem dX8_setPhases_2 : decode cX8_setPhases 2 = .ok (.bipush 15, 2) := by decide +kernel
theorem dX8_setPhases_4 : decode cX8_setPhases 4 = .ok (.invokestatic 79, 3) := by decide +kernel
theorem dX8_setPhases_7 : decode cX8_setPhases 7 = .ok (.ifCond .eq 56, 3) := by decide +kernel
theorem dX8_setPhases_10 : decode cX8_setPhases 10 = .ok (.iload_n 3, 1) := by decide +kernel
theorem dX8_setPhases_11 : decode cX8_setPhases 11 = .ok (.iconst 0, 1) := by decide +kernel
theorem dX8_setPhases_12 : decode cX8_setPhases 12 = .ok (.bipush 15, 2) := by decide +kernel
theorem dX8_setPhases_14 : decode cX8_setPhases 14 = .ok (.invokestatic 79, 3) := by decide +kernel
theorem dX8_setPhases_17 : decode cX8_setPhases 17 = .ok (.ifCond .eq 46, 3) := by decide +kernel
theorem dX8_setPhases_20 : decode cX8_setPhases 20 = .ok (.iload 4, 2) := by decide +kernel
theorem dX8_setPhases_22 : decode cX8_setPhases 22 = .ok (.iconst 0, 1) := by decide +kernel
theorem dX8_setPhases_23 : decode cX8_setPhases 23 = .ok (.iload_n 3, 1) := by decide +kernel
theorem dX8_setPhases_24 : decode cX8_setPhases 24 = .ok (.ifCond .ne 7, 3) := by decide +kernel
theorem dX8_setPhases_27 : decode cX8_setPhases 27 = .ok (.iconst 0, 1) := by decide +kernel
theorem dX8_setPhases_28 : decode cX8_setPhases 28 = .ok (.goto 5, 3) := by decide +kernel
theorem dX8_setPhases_31 : decode cX8_setPhases 31 = .ok (.bipush 15, 2) := by decide +kernel
theorem dX8_setPhases_33 : decode cX8_setPhases 33 = .ok (.invokestatic 79, 3) := by decide +kernel
theorem dX8_setPhases_36 : decode cX8_setPhases 36 = .ok (.ifCond .eq 27, 3) := by decide +kernel
theorem dX8_setPhases_39 : decode cX8_setPhases 39 = .ok (.iload 5, 2) := by decide +kernel
theorem dX8_setPhases_41 : decode cX8_setPhases 41 = .ok (.iconst 0, 1) := by decide +kernel
theorem dX8_setPhases_42 : decode cX8_setPhases 42 = .ok (.iload 4, 2) := by decide +kernel
theorem dX8_setPhases_44 : decode cX8_setPhases 44 = .ok (.ifCond .ne 7, 3) := by decide +kernel
theorem dX8_setPhases_47 : decode cX8_setPhases 47 = .ok (.iconst 0, 1) := by decide +kernel
theorem dX8_setPhases_48 : decode cX8_setPhases 48 = .ok (.goto 5, 3) := by decide +kernel
theorem dX8_setPhases_51 : decode cX8_setPhases 51 = .ok (.bipush 15, 2) := by decide +kernel
theorem dX8_setPhases_53 : decode cX8_setPhases 53 = .ok (.invokestatic 79, 3) := by decide +kernel
theorem dX8_setPhases_56 : decode cX8_setPhases 56 = .ok (.ifCond .eq 7, 3) := by decide +kernel
theorem dX8_setPhases_59 : decode cX8_setPhases 59 = .ok (.iconst 1, 1) := by decide +kernel
theorem dX8_setPhases_60 : decode cX8_setPhases 60 = .ok (.goto 4, 3) := by decide +kernel
theorem dX8_setPhases_63 : decode cX8_setPhases 63 = .ok (.iconst 0, 1) := by decide +kernel
theorem dX8_setPhases_64 : decode cX8_setPhases 64 = .ok (.istore 6, 2) := by decide +kernel
theorem dX8_setPhases_66 : decode cX8_setPhases 66 = .ok (.aload_n 0, 1) := by decide +kernel
theorem dX8_setPhases_67 : decode cX8_setPhases 67 = .ok (.iload_n 1, 1) := by decide +kernel
theorem dX8_setPhases_68 : decode cX8_setPhases 68 = .ok (.invokevirtual 118, 3) := by decide +kernel
theorem dX8_setPhases_71 : decode cX8_setPhases 71 = .ok (.ifCond .eq 50, 3) := by decide +kernel
theorem dX8_setPhases_74 : decode cX8_setPhases 74 = .ok (.iload 6, 2) := by decide +kernel
theorem dX8_setPhases_76 : decode cX8_setPhases 76 = .ok (.ifCond .eq 45, 3) := by decide +kernel
theorem dX8_setPhases_79 : decode cX8_setPhases 79 = .ok (.aload_n 0, 1) := by decide +kernel
theorem dX8_setPhases_80 : decode cX8_setPhases 80 = .ok (.iload_n 1, 1) := by decide +kernel
theorem dX8_setPhases_81 : decode cX8_setPhases 81 = .ok (.iload_n 2, 1) := by decide +kernel
theorem dX8_setPhases_82 : decode cX8_setPhases 82 = .ok (.invokevirtual 128, 3) := by decide +kernel
theorem dX8_setPhases_85 : decode cX8_setPhases 85 = .ok (.ifCond .ne 32, 3) := by decide +kernel
theorem dX8_setPhases_88 : decode cX8_setPhases 88 = .ok (.aload_n 0, 1) := by decide +kernel
theorem dX8_setPhases_89 : decode cX8_setPhases 89 = .ok (.iload_n 1, 1) := by decide +kernel
theorem dX8_setPhases_90 : decode cX8_setPhases 90 = .ok (.iload_n 3, 1) := by decide +kernel
theorem dX8_setPhases_91 : decode cX8_setPhases 91 = .ok (.invokevirtual 128, 3) := by decide +kernel
theorem dX8_setPhases_94 : decode cX8_setPhases 94 = .ok (.ifCond .ne 23, 3) := by decide +kernel
theorem dX8_setPhases_97 : decode cX8_setPhases 97 = .ok (.aload_n 0, 1) := by decide +kernel
theorem dX8_setPhases_98 : decode cX8_setPhases 98 = .ok (.iload_n 1, 1) := by decide +kernel
theorem dX8_setPhases_99 : decode cX8_setPhases 99 = .ok (.iload 4, 2) := by decide +kernel
theorem dX8_setPhases_101 : decode cX8_setPhases 101 = .ok (.invokevirtual 128, 3) := by decide +kernel
theorem dX8_setPhases_104 : decode cX8_setPhases 104 = .ok (.ifCond .ne 13, 3) := by decide +kernel
theorem dX8_setPhases_107 : decode cX8_setPhases 107 = .ok (.aload_n 0, 1) := by decide +kernel
theorem dX8_setPhases_108 : decode cX8_setPhases 108 = .ok (.iload_n 1, 1) := by decide +kernel
theorem dX8_setPhases_109 : decode cX8_setPhases 109 = .ok (.iload 5, 2) := by decide +kernel
theorem dX8_setPhases_111 : decode cX8_setPhases 111 = .ok (.invokevirtual 128, 3) := by decide +kernel
theorem dX8_setPhases_114 : decode cX8_setPhases 114 = .ok (.ifCond .eq 7, 3) := by decide +kernel
theorem dX8_setPhases_117 : decode cX8_setPhases 117 = .ok (.iconst 1, 1) := by decide +kernel
theorem dX8_setPhases_118 : decode cX8_setPhases 118 = .ok (.goto 4, 3) := by decide +kernel
theorem dX8_setPhases_121 : decode cX8_setPhases 121 = .ok (.iconst 0, 1) := by decide +kernel
theorem dX8_setPhases_122 : decode cX8_setPhases 122 = .ok (.istore 7, 2) := by decide +kernel
theorem dX8_setPhases_124 : decode cX8_setPhases 124 = .ok (.aload_n 0, 1) := by decide +kernel
theorem dX8_setPhases_125 : decode cX8_setPhases 125 = .ok (.aload_n 0, 1) := by decide +kernel
theorem dX8_setPhases_126 : decode cX8_setPhases 126 = .ok (.iload_n 1, 1) := by decide +kernel
theorem dX8_setPhases_127 : decode cX8_setPhases 127 = .ok (.invokevirtual 118, 3) := by decide +kernel
theorem dX8_setPhases_130 : decode cX8_setPhases 130 = .ok (.ifCond .ne 7, 3) := by decide +kernel
theorem dX8_setPhases_133 : decode cX8_setPhases 133 = .ok (.iconst 1, 1) := by decide +kernel
theorem dX8_setPhases_134 : decode cX8_setPhases 134 = .ok (.goto 29, 3) := by decide +kernel
theorem dX8_setPhases_137 : decode cX8_setPhases 137 = .ok (.iload 6, 2) := by decide +kernel
theorem dX8_setPhases_139 : decode cX8_setPhases 139 = .ok (.ifCond .ne 7, 3) := by decide +kernel
theorem dX8_setPhases_142 : decode cX8_setPhases 142 = .ok (.iconst 2, 1) := by decide +kernel
theorem dX8_setPhases_143 : decode cX8_setPhases 143 = .ok (.goto 20, 3) := by decide +kernel
theorem dX8_setPhases_146 : decode cX8_setPhases 146 = .ok (.iload 7, 2) := by decide +kernel
theorem dX8_setPhases_148 : decode cX8_setPhases 148 = .ok (.ifCond .ne 10, 3) := by decide +kernel
theorem dX8_setPhases_151 : decode cX8_setPhases 151 = .ok (.aload_n 0, 1) := by decide +kernel
theorem dX8_setPhases_152 : decode cX8_setPhases 152 = .ok (.getfield 86, 3) := by decide +kernel
theorem dX8_setPhases_155 : decode cX8_setPhases 155 = .ok (.ifCond .eq 7, 3) := by decide +kernel
theorem dX8_setPhases_158 : decode cX8_setPhases 158 = .ok (.iconst 3, 1) := by decide +kernel
theorem dX8_setPhases_159 : decode cX8_setPhases 159 = .ok (.goto 4, 3) := by decide +kernel
theorem dX8_setPhases_162 : decode cX8_setPhases 162 = .ok (.iconst 0, 1) := by decide +kernel
theorem dX8_setPhases_163 : decode cX8_setPhases 163 = .ok (.invokevirtual 102, 3) := by decide +kernel
theorem dX8_setPhases_166 : decode cX8_setPhases 166 = .ok (.ifCond .ne 5, 3) := by decide +kernel
theorem dX8_setPhases_169 : decode cX8_setPhases 169 = .ok (.iconst 0, 1) := by decide +kernel
theorem dX8_setPhases_170 : decode cX8_setPhases 170 = .ok (.ireturn, 1) := by decide +kernel
theorem dX8_setPhases_171 : decode cX8_setPhases 171 = .ok (.aload_n 0, 1) := by decide +kernel
theorem dX8_setPhases_172 : decode cX8_setPhases 172 = .ok (.getfield 13, 3) := by decide +kernel
theorem dX8_setPhases_175 : decode cX8_setPhases 175 = .ok (.iconst 4, 1) := by decide +kernel
theorem dX8_setPhases_176 : decode cX8_setPhases 176 = .ok (.iload_n 1, 1) := by decide +kernel
theorem dX8_setPhases_177 : decode cX8_setPhases 177 = .ok (.imul, 1) := by decide +kernel
theorem dX8_setPhases_178 : decode cX8_setPhases 178 = .ok (.iload_n 2, 1) := by decide +kernel
theorem dX8_setPhases_179 : decode cX8_setPhases 179 = .ok (.iastore, 1) := by decide +kernel
theorem dX8_setPhases_180 : decode cX8_setPhases 180 = .ok (.aload_n 0, 1) := by decide +kernel
theorem dX8_setPhases_181 : decode cX8_setPhases 181 = .ok (.getfield 13, 3) := by decide +kernel
theorem dX8_setPhases_184 : decode cX8_setPhases 184 = .ok (.iconst 4, 1) := by decide +kernel
theorem dX8_setPhases_185 : decode cX8_setPhases 185 = .ok (.iload_n 1, 1) := by decide +kernel
theorem dX8_setPhases_186 : decode cX8_setPhases 186 = .ok (.imul, 1) := by decide +kernel
theorem dX8_setPhases_187 : decode cX8_setPhases 187 = .ok (.iconst 1, 1) := by decide +kernel
theorem dX8_setPhases_188 : decode cX8_setPhases 188 = .ok (.iadd, 1) := by decide +kernel
theorem dX8_setPhases_189 : decode cX8_setPhases 189 = .ok (.iload_n 3, 1) := by decide +kernel
theorem dX8_setPhases_190 : decode cX8_setPhases 190 = .ok (.iastore, 1) := by decide +kernel
theorem dX8_setPhases_191 : decode cX8_setPhases 191 = .ok (.aload_n 0, 1) := by decide +kernel
theorem dX8_setPhases_192 : decode cX8_setPhases 192 = .ok (.getfield 13, 3) := by decide +kernel
theorem dX8_setPhases_195 : decode cX8_setPhases 195 = .ok (.iconst 4, 1) := by decide +kernel
theorem dX8_setPhases_196 : decode cX8_setPhases 196 = .ok (.iload_n 1, 1) := by decide +kernel
theorem dX8_setPhases_197 : decode cX8_setPhases 197 = .ok (.imul, 1) := by decide +kernel
theorem dX8_setPhases_198 : decode cX8_setPhases 198 = .ok (.iconst 2, 1) := by decide +kernel
theorem dX8_setPhases_199 : decode cX8_setPhases 199 = .ok (.iadd, 1) := by decide +kernel
theorem dX8_setPhases_200 : decode cX8_setPhases 200 = .ok (.iload 4, 2) := by decide +kernel
theorem dX8_setPhases_202 : decode cX8_setPhases 202 = .ok (.iastore, 1) := by decide +kernel
theorem dX8_setPhases_203 : decode cX8_setPhases 203 = .ok (.aload_n 0, 1) := by decide +kernel
theorem dX8_setPhases_204 : decode cX8_setPhases 204 = .ok (.getfield 13, 3) := by decide +kernel
theorem dX8_setPhases_207 : decode cX8_setPhases 207 = .ok (.iconst 4, 1) := by decide +kernel
theorem dX8_setPhases_208 : decode cX8_setPhases 208 = .ok (.iload_n 1, 1) := by decide +kernel
theorem dX8_setPhases_209 : decode cX8_setPhases 209 = .ok (.imul, 1) := by decide +kernel
theorem dX8_setPhases_210 : decode cX8_setPhases 210 = .ok (.iconst 3, 1) := by decide +kernel
theorem dX8_setPhases_211 : decode cX8_setPhases 211 = .ok (.iadd, 1) := by decide +kernel
theorem dX8_setPhases_212 : decode cX8_setPhases 212 = .ok (.iload 5, 2) := by decide +kernel
theorem dX8_setPhases_214 : decode cX8_setPhases 214 = .ok (.iastore, 1) := by decide +kernel
theorem dX8_setPhases_215 : decode cX8_setPhases 215 = .ok (.aload_n 0, 1) := by decide +kernel
theorem dX8_setPhases_216 : decode cX8_setPhases 216 = .ok (.getfield 16, 3) := by decide +kernel
theorem dX8_setPhases_219 : decode cX8_setPhases 219 = .ok (.iload_n 1, 1) := by decide +kernel
theorem dX8_setPhases_220 : decode cX8_setPhases 220 = .ok (.iload_n 3, 1) := by decide +kernel
theorem dX8_setPhases_221 : decode cX8_setPhases 221 = .ok (.ifCond .ne 7, 3) := by decide +kernel
theorem dX8_setPhases_224 : decode cX8_setPhases 224 = .ok (.iconst 1, 1) := by decide +kernel
theorem dX8_setPhases_225 : decode cX8_setPhases 225 = .ok (.goto 22, 3) := by decide +kernel
theorem dX8_setPhases_228 : decode cX8_setPhases 228 = .ok (.iload 4, 2) := by decide +kernel
theorem dX8_setPhases_230 : decode cX8_setPhases 230 = .ok (.ifCond .ne 7, 3) := by decide +kernel
theorem dX8_setPhases_233 : decode cX8_setPhases 233 = .ok (.iconst 2, 1) := by decide +kernel
theorem dX8_setPhases_234 : decode cX8_setPhases 234 = .ok (.goto 13, 3) := by decide +kernel
theorem dX8_setPhases_237 : decode cX8_setPhases 237 = .ok (.iload 5, 2) := by decide +kernel
theorem dX8_setPhases_239 : decode cX8_setPhases 239 = .ok (.ifCond .ne 7, 3) := by decide +kernel
theorem dX8_setPhases_242 : decode cX8_setPhases 242 = .ok (.iconst 3, 1) := by decide +kernel
theorem dX8_setPhases_243 : decode cX8_setPhases 243 = .ok (.goto 4, 3) := by decide +kernel
theorem dX8_setPhases_246 : decode cX8_setPhases 246 = .ok (.iconst 4, 1) := by decide +kernel
theorem dX8_setPhases_247 : decode cX8_setPhases 247 = .ok (.iastore, 1) := by decide +kernel
theorem dX8_setPhases_248 : decode cX8_setPhases 248 = .ok (.aload_n 0, 1) := by decide +kernel
theorem dX8_setPhases_249 : decode cX8_setPhases 249 = .ok (.getfield 16, 3) := by decide +kernel
theorem dX8_setPhases_252 : decode cX8_setPhases 252 = .ok (.iload_n 1, 1) := by decide +kernel
theorem dX8_setPhases_253 : decode cX8_setPhases 253 = .ok (.iaload, 1) := by decide +kernel
theorem dX8_setPhases_254 : decode cX8_setPhases 254 = .ok (.ireturn, 1) := by decide +kernel
theorem dX8_setFlow_0 : decode cX8_setFlow 0 = .ok (.aload_n 0, 1) := by decide +kernel
theorem dX8_setFlow_1 : decode cX8_setFlow 1 = .ok (.iload_n 1, 1) := by decide +kernel
theorem dX8_setFlow_2 : decode cX8_setFlow 2 = .ok (.invokevirtual 118, 3) := by decide +kernel
theorem dX8_setFlow_5 : decode cX8_setFlow 5 = .ok (.ifCond .eq 14, 3) := by decide +kernel
theorem dX8_setFlow_8 : decode cX8_setFlow 8 = .ok (.iload_n 2, 1) := by decide +kernel
theorem dX8_setFlow_9 : decode cX8_setFlow 9 = .ok (.invokestatic 121, 3) := by decide +kernel
theorem dX8_setFlow_12 : decode cX8_setFlow 12 = .ok (.ifCond .eq 7, 3) := by decide +kernel
theorem dX8_setFlow_15 : decode cX8_setFlow 15 = .ok (.iconst 1, 1) := by decide +kernel
theorem dX8_setFlow_16 : decode cX8_setFlow 16 = .ok (.goto 4, 3) := by decide +kernel
theorem dX8_setFlow_19 : decode cX8_setFlow 19 = .ok (.iconst 0, 1) := by decide +kernel
theorem dX8_setFlow_20 : decode cX8_setFlow 20 = .ok (.istore 4, 2) := by decide +kernel
theorem dX8_setFlow_22 : decode cX8_setFlow 22 = .ok (.aload_n 0, 1) := by decide +kernel
theorem dX8_setFlow_23 : decode cX8_setFlow 23 = .ok (.iload 4, 2) := by decide +kernel
theorem dX8_setFlow_25 : decode cX8_setFlow 25 = .ok (.ifCond .ne 7, 3) := by decide +kernel
theorem dX8_setFlow_28 : decode cX8_setFlow 28 = .ok (.iconst 1, 1) := by decide +kernel
theorem dX8_setFlow_29 : decode cX8_setFlow 29 = .ok (.goto 30, 3) := by decide +kernel
theorem dX8_setFlow_32 : decode cX8_setFlow 32 = .ok (.iload_n 3, 1) := by decide +kernel
theorem dX8_setFlow_33 : decode cX8_setFlow 33 = .ok (.iconst 0, 1) := by decide +kernel
theorem dX8_setFlow_34 : decode cX8_setFlow 34 = .ok (.sipush 1800, 3) := by decide +kernel
theorem dX8_setFlow_37 : decode cX8_setFlow 37 = .ok (.invokestatic 79, 3) := by decide +kernel
theorem dX8_setFlow_40 : decode cX8_setFlow 40 = .ok (.ifCond .ne 7, 3) := by decide +kernel
theorem dX8_setFlow_43 : decode cX8_setFlow 43 = .ok (.iconst 2, 1) := by decide +kernel
theorem dX8_setFlow_44 : decode cX8_setFlow 44 = .ok (.goto 15, 3) := by decide +kernel
theorem dX8_setFlow_47 : decode cX8_setFlow 47 = .ok (.aload_n 0, 1) := by decide +kernel
theorem dX8_setFlow_48 : decode cX8_setFlow 48 = .ok (.getfield 86, 3) := by decide +kernel
theorem dX8_setFlow_51 : decode cX8_setFlow 51 = .ok (.ifCond .eq 7, 3) := by decide +kernel
theorem dX8_setFlow_54 : decode cX8_setFlow 54 = .ok (.iconst 3, 1) := by decide +kernel
theorem dX8_setFlow_55 : decode cX8_setFlow 55 = .ok (.goto 4, 3) := by decide +kernel
theorem dX8_setFlow_58 : decode cX8_setFlow 58 = .ok (.iconst 0, 1) := by decide +kernel
theorem dX8_setFlow_59 : decode cX8_setFlow 59 = .ok (.invokevirtual 102, 3) := by decide +kernel
theorem dX8_setFlow_62 : decode cX8_setFlow 62 = .ok (.ifCond .ne 5, 3) := by decide +kernel
theorem dX8_setFlow_65 : decode cX8_setFlow 65 = .ok (.iconst 0, 1) := by decide +kernel
theorem dX8_setFlow_66 : decode cX8_setFlow 66 = .ok (.ireturn, 1) := by decide +kernel
theorem dX8_setFlow_67 : decode cX8_setFlow 67 = .ok (.aload_n 0, 1) := by decide +kernel
theorem dX8_setFlow_68 : decode cX8_setFlow 68 = .ok (.getfield 19, 3) := by decide +kernel
theorem dX8_setFlow_71 : decode cX8_setFlow 71 = .ok (.iconst 4, 1) := by decide +kernel
theorem dX8_setFlow_72 : decode cX8_setFlow 72 = .ok (.iload_n 1, 1) := by decide +kernel
theorem dX8_setFlow_73 : decode cX8_setFlow 73 = .ok (.imul, 1) := by decide +kernel
theorem dX8_setFlow_74 : decode cX8_setFlow 74 = .ok (.iload_n 2, 1) := by decide +kernel
theorem dX8_setFlow_75 : decode cX8_setFlow 75 = .ok (.iadd, 1) := by decide +kernel
theorem dX8_setFlow_76 : decode cX8_setFlow 76 = .ok (.iaload, 1) := by decide +kernel
theorem dX8_setFlow_77 : decode cX8_setFlow 77 = .ok (.istore 5, 2) := by decide +kernel
theorem dX8_setFlow_79 : decode cX8_setFlow 79 = .ok (.aload_n 0, 1) := by decide +kernel
theorem dX8_setFlow_80 : decode cX8_setFlow 80 = .ok (.getfield 19, 3) := by decide +kernel
theorem dX8_setFlow_83 : decode cX8_setFlow 83 = .ok (.iconst 4, 1) := by decide +kernel
theorem dX8_setFlow_84 : decode cX8_setFlow 84 = .ok (.iload_n 1, 1) := by decide +kernel
theorem dX8_setFlow_85 : decode cX8_setFlow 85 = .ok (.imul, 1) := by decide +kernel
theorem dX8_setFlow_86 : decode cX8_setFlow 86 = .ok (.iload_n 2, 1) := by decide +kernel
theorem dX8_setFlow_87 : decode cX8_setFlow 87 = .ok (.iadd, 1) := by decide +kernel
theorem dX8_setFlow_88 : decode cX8_setFlow 88 = .ok (.iload_n 3, 1) := by decide +kernel
theorem dX8_setFlow_89 : decode cX8_setFlow 89 = .ok (.iastore, 1) := by decide +kernel
theorem dX8_setFlow_90 : decode cX8_setFlow 90 = .ok (.iload 5, 2) := by decide +kernel
theorem dX8_setFlow_92 : decode cX8_setFlow 92 = .ok (.ireturn, 1) := by decide +kernel
theorem dX8_setLink_0 : decode cX8_setLink 0 = .ok (.iload_n 2, 1) := by decide +kernel
theorem dX8_setLink_1 : decode cX8_setLink 1 = .ok (.iconst 1, 1) := by decide +kernel
theorem dX8_setLink_2 : decode cX8_setLink 2 = .ok (.bipush 60, 2) := by decide +kernel
theorem dX8_setLink_4 : decode cX8_setLink 4 = .ok (.invokestatic 79, 3) := by decide +kernel
theorem dX8_setLink_7 : decode cX8_setLink 7 = .ok (.ifCond .eq 17, 3) := by decide +kernel
theorem dX8_setLink_10 : decode cX8_setLink 10 = .ok (.iload_n 3, 1) := by decide +kernel
theorem dX8_setLink_11 : decode cX8_setLink 11 = .ok (.iconst 1, 1) := by decide +kernel
theorem dX8_setLink_12 : decode cX8_setLink 12 = .ok (.bipush 40, 2) := by decide +kernel
theorem dX8_setLink_14 : decode cX8_setLink 14 = .ok (.invokestatic 79, 3) := by decide +kernel
theorem dX8_setLink_17 : decode cX8_setLink 17 = .ok (.ifCond .eq 7, 3) := by decide +kernel
theorem dX8_setLink_20 : decode cX8_setLink 20 = .ok (.iconst 1, 1) := by decide +kernel
theorem dX8_setLink_21 : decode cX8_setLink 21 = .ok (.goto 4, 3) := by decide +kernel
theorem dX8_setLink_24 : decode cX8_setLink 24 = .ok (.iconst 0, 1) := by decide +kernel
theorem dX8_setLink_25 : decode cX8_setLink 25 = .ok (.istore 4, 2) := by decide +kernel
theorem dX8_setLink_27 : decode cX8_setLink 27 = .ok (.aload_n 0, 1) := by decide +kernel
theorem dX8_setLink_28 : decode cX8_setLink 28 = .ok (.aload_n 0, 1) := by decide +kernel
theorem dX8_setLink_29 : decode cX8_setLink 29 = .ok (.iload_n 1, 1) := by decide +kernel
theorem dX8_setLink_30 : decode cX8_setLink 30 = .ok (.invokevirtual 131, 3) := by decide +kernel
theorem dX8_setLink_33 : decode cX8_setLink 33 = .ok (.ifCond .ne 7, 3) := by decide +kernel
theorem dX8_setLink_36 : decode cX8_setLink 36 = .ok (.iconst 1, 1) := by decide +kernel
theorem dX8_setLink_37 : decode cX8_setLink 37 = .ok (.goto 24, 3) := by decide +kernel
theorem dX8_setLink_40 : decode cX8_setLink 40 = .ok (.iload 4, 2) := by decide +kernel
theorem dX8_setLink_42 : decode cX8_setLink 42 = .ok (.ifCond .ne 7, 3) := by decide +kernel
theorem dX8_setLink_45 : decode cX8_setLink 45 = .ok (.iconst 2, 1) := by decide +kernel
theorem dX8_setLink_46 : decode cX8_setLink 46 = .ok (.goto 15, 3) := by decide +kernel
theorem dX8_setLink_49 : decode cX8_setLink 49 = .ok (.aload_n 0, 1) := by decide +kernel
theorem dX8_setLink_50 : decode cX8_setLink 50 = .ok (.getfield 86, 3) := by decide +kernel
theorem dX8_setLink_53 : decode cX8_setLink 53 = .ok (.ifCond .eq 7, 3) := by decide +kernel
theorem dX8_setLink_56 : decode cX8_setLink 56 = .ok (.iconst 3, 1) := by decide +kernel
theorem dX8_setLink_57 : decode cX8_setLink 57 = .ok (.goto 4, 3) := by decide +kernel
theorem dX8_setLink_60 : decode cX8_setLink 60 = .ok (.iconst 0, 1) := by decide +kernel
theorem dX8_setLink_61 : decode cX8_setLink 61 = .ok (.invokevirtual 102, 3) := by decide +kernel
theorem dX8_setLink_64 : decode cX8_setLink 64 = .ok (.ifCond .eq 17, 3) := by decide +kernel
theorem dX8_setLink_67 : decode cX8_setLink 67 = .ok (.aload_n 0, 1) := by decide +kernel
theorem dX8_setLink_68 : decode cX8_setLink 68 = .ok (.getfield 25, 3) := by decide +kernel
theorem dX8_setLink_71 : decode cX8_setLink 71 = .ok (.iload_n 1, 1) := by decide +kernel
theorem dX8_setLink_72 : decode cX8_setLink 72 = .ok (.iload_n 2, 1) := by decide +kernel
theorem dX8_setLink_73 : decode cX8_setLink 73 = .ok (.iastore, 1) := by decide +kernel
theorem dX8_setLink_74 : decode cX8_setLink 74 = .ok (.aload_n 0, 1) := by decide +kernel
theorem dX8_setLink_75 : decode cX8_setLink 75 = .ok (.getfield 28, 3) := by decide +kernel
theorem dX8_setLink_78 : decode cX8_setLink 78 = .ok (.iload_n 1, 1) := by decide +kernel
theorem dX8_setLink_79 : decode cX8_setLink 79 = .ok (.iload_n 3, 1) := by decide +kernel
theorem dX8_setLink_80 : decode cX8_setLink 80 = .ok (.iastore, 1) := by decide +kernel
theorem dX8_setLink_81 : decode cX8_setLink 81 = .ok (.return_, 1) := by decide +kernel
theorem dX8_setOffset_0 : decode cX8_setOffset 0 = .ok (.aload_n 0, 1) := by decide +kernel
theorem dX8_setOffset_1 : decode cX8_setOffset 1 = .ok (.aload_n 0, 1) := by decide +kernel
theorem dX8_setOffset_2 : decode cX8_setOffset 2 = .ok (.iload_n 1, 1) := by decide +kernel
theorem dX8_setOffset_3 : decode cX8_setOffset 3 = .ok (.invokevirtual 118, 3) := by decide +kernel
theorem dX8_setOffset_6 : decode cX8_setOffset 6 = .ok (.ifCond .ne 7, 3) := by decide +kernel
theorem dX8_setOffset_9 : decode cX8_setOffset 9 = .ok (.iconst 1, 1) := by decide +kernel
theorem dX8_setOffset_10 : decode cX8_setOffset 10 = .ok (.goto 33, 3) := by decide +kernel
theorem dX8_setOffset_13 : decode cX8_setOffset 13 = .ok (.iload_n 2, 1) := by decide +kernel
theorem dX8_setOffset_14 : decode cX8_setOffset 14 = .ok (.iconst 0, 1) := by decide +kernel
theorem dX8_setOffset_15 : decode cX8_setOffset 15 = .ok (.aload_n 0, 1) := by decide +kernel
theorem dX8_setOffset_16 : decode cX8_setOffset 16 = .ok (.getfield 83, 3) := by decide +kernel
theorem dX8_setOffset_19 : decode cX8_setOffset 19 = .ok (.iconst 1, 1) := by decide +kernel
theorem dX8_setOffset_20 : decode cX8_setOffset 20 = .ok (.isub, 1) := by decide +kernel
theorem dX8_setOffset_21 : decode cX8_setOffset 21 = .ok (.invokestatic 79, 3) := by decide +kernel
theorem dX8_setOffset_24 : decode cX8_setOffset 24 = .ok (.ifCond .ne 7, 3) := by decide +kernel
theorem dX8_setOffset_27 : decode cX8_setOffset 27 = .ok (.iconst 2, 1) := by decide +kernel
theorem dX8_setOffset_28 : decode cX8_setOffset 28 = .ok (.goto 15, 3) := by decide +kernel
theorem dX8_setOffset_31 : decode cX8_setOffset 31 = .ok (.aload_n 0, 1) := by decide +kernel
theorem dX8_setOffset_32 : decode cX8_setOffset 32 = .ok (.getfield 86, 3) := by decide +kernel
theorem dX8_setOffset_35 : decode cX8_setOffset 35 = .ok (.ifCond .eq 7, 3) := by decide +kernel
theorem dX8_setOffset_38 : decode cX8_setOffset 38 = .ok (.iconst 3, 1) := by decide +kernel
theorem dX8_setOffset_39 : decode cX8_setOffset 39 = .ok (.goto 4, 3) := by decide +kernel
theorem dX8_setOffset_42 : decode cX8_setOffset 42 = .ok (.iconst 0, 1) := by decide +kernel
theorem dX8_setOffset_43 : decode cX8_setOffset 43 = .ok (.invokevirtual 102, 3) := by decide +kernel
theorem dX8_setOffset_46 : decode cX8_setOffset 46 = .ok (.ifCond .ne 5, 3) := by decide +kernel
theorem dX8_setOffset_49 : decode cX8_setOffset 49 = .ok (.iconst 0, 1) := by decide +kernel
theorem dX8_setOffset_50 : decode cX8_setOffset 50 = .ok (.ireturn, 1) := by decide +kernel
theorem dX8_setOffset_51 : decode cX8_setOffset 51 = .ok (.aload_n 0, 1) := by decide +kernel
theorem dX8_setOffset_52 : decode cX8_setOffset 52 = .ok (.getfield 22, 3) := by decide +kernel
theorem dX8_setOffset_55 : decode cX8_setOffset 55 = .ok (.iload_n 1, 1) := by decide +kernel
theorem dX8_setOffset_56 : decode cX8_setOffset 56 = .ok (.iaload, 1) := by decide +kernel
theorem dX8_setOffset_57 : decode cX8_setOffset 57 = .ok (.istore_n 3, 1) := by decide +kernel
theorem dX8_setOffset_58 : decode cX8_setOffset 58 = .ok (.aload_n 0, 1) := by decide +kernel
theorem dX8_setOffset_59 : decode cX8_setOffset 59 = .ok (.getfield 22, 3) := by decide +kernel
theorem dX8_setOffset_62 : decode cX8_setOffset 62 = .ok (.iload_n 1, 1) := by decide +kernel
theorem dX8_setOffset_63 : decode cX8_setOffset 63 = .ok (.iload_n 2, 1) := by decide +kernel
theorem dX8_setOffset_64 : decode cX8_setOffset 64 = .ok (.iastore, 1) := by decide +kernel
theorem dX8_setOffset_65 : decode cX8_setOffset 65 = .ok (.iload_n 3, 1) := by decide +kernel
theorem dX8_setOffset_66 : decode cX8_setOffset 66 = .ok (.ireturn, 1) := by decide +kernel
theorem dX8_clearingOf_0 : decode cX8_clearingOf 0 = .ok (.aload_n 0, 1) := by decide +kernel
theorem dX8_clearingOf_1 : decode cX8_clearingOf 1 = .ok (.getfield 13, 3) := by decide +kernel
theorem dX8_clearingOf_4 : decode cX8_clearingOf 4 = .ok (.iconst 4, 1) := by decide +kernel
theorem dX8_clearingOf_5 : decode cX8_clearingOf 5 = .ok (.iload_n 1, 1) := by decide +kernel
theorem dX8_clearingOf_6 : decode cX8_clearingOf 6 = .ok (.imul, 1) := by decide +kernel
theorem dX8_clearingOf_7 : decode cX8_clearingOf 7 = .ok (.iload_n 2, 1) := by decide +kernel
theorem dX8_clearingOf_8 : decode cX8_clearingOf 8 = .ok (.iadd, 1) := by decide +kernel
theorem dX8_clearingOf_9 : decode cX8_clearingOf 9 = .ok (.iaload, 1) := by decide +kernel
theorem dX8_clearingOf_10 : decode cX8_clearingOf 10 = .ok (.istore_n 3, 1) := by decide +kernel
theorem dX8_clearingOf_11 : decode cX8_clearingOf 11 = .ok (.aload_n 0, 1) := by decide +kernel
theorem dX8_clearingOf_12 : decode cX8_clearingOf 12 = .ok (.getfield 13, 3) := by decide +kernel
theorem dX8_clearingOf_15 : decode cX8_clearingOf 15 = .ok (.iconst 4, 1) := by decide +kernel
theorem dX8_clearingOf_16 : decode cX8_clearingOf 16 = .ok (.iload_n 1, 1) := by decide +kernel
theorem dX8_clearingOf_17 : decode cX8_clearingOf 17 = .ok (.imul, 1) := by decide +kernel
theorem dX8_clearingOf_18 : decode cX8_clearingOf 18 = .ok (.iload_n 2, 1) := by decide +kernel
theorem dX8_clearingOf_19 : decode cX8_clearingOf 19 = .ok (.iconst 1, 1) := by decide +kernel
theorem dX8_clearingOf_20 : decode cX8_clearingOf 20 = .ok (.iadd, 1) := by decide +kernel
theorem dX8_clearingOf_21 : decode cX8_clearingOf 21 = .ok (.aload_n 0, 1) := by decide +kernel
theorem dX8_clearingOf_22 : decode cX8_clearingOf 22 = .ok (.getfield 16, 3) := by decide +kernel
theorem dX8_clearingOf_25 : decode cX8_clearingOf 25 = .ok (.iload_n 1, 1) := by decide +kernel
theorem dX8_clearingOf_26 : decode cX8_clearingOf 26 = .ok (.iaload, 1) := by decide +kernel
theorem dX8_clearingOf_27 : decode cX8_clearingOf 27 = .ok (.irem, 1) := by decide +kernel
theorem dX8_clearingOf_28 : decode cX8_clearingOf 28 = .ok (.iadd, 1) := by decide +kernel
theorem dX8_clearingOf_29 : decode cX8_clearingOf 29 = .ok (.iaload, 1) := by decide +kernel
theorem dX8_clearingOf_30 : decode cX8_clearingOf 30 = .ok (.istore 4, 2) := by decide +kernel
theorem dX8_clearingOf_32 : decode cX8_clearingOf 32 = .ok (.iconst 0, 1) := by decide +kernel
theorem dX8_clearingOf_33 : decode cX8_clearingOf 33 = .ok (.istore 5, 2) := by decide +kernel
theorem dX8_clearingOf_35 : decode cX8_clearingOf 35 = .ok (.iconst 0, 1) := by decide +kernel
theorem dX8_clearingOf_36 : decode cX8_clearingOf 36 = .ok (.istore 6, 2) := by decide +kernel
theorem dX8_clearingOf_38 : decode cX8_clearingOf 38 = .ok (.iload 6, 2) := by decide +kernel
theorem dX8_clearingOf_40 : decode cX8_clearingOf 40 = .ok (.bipush 16, 2) := by decide +kernel
theorem dX8_clearingOf_42 : decode cX8_clearingOf 42 = .ok (.if_icmp .ge 66, 3) := by decide +kernel
theorem dX8_clearingOf_45 : decode cX8_clearingOf 45 = .ok (.iload_n 3, 1) := by decide +kernel
theorem dX8_clearingOf_46 : decode cX8_clearingOf 46 = .ok (.iload 6, 2) := by decide +kernel
theorem dX8_clearingOf_48 : decode cX8_clearingOf 48 = .ok (.iconst 4, 1) := by decide +kernel
theorem dX8_clearingOf_49 : decode cX8_clearingOf 49 = .ok (.idiv, 1) := by decide +kernel
theorem dX8_clearingOf_50 : decode cX8_clearingOf 50 = .ok (.invokestatic 106, 3) := by decide +kernel
theorem dX8_clearingOf_53 : decode cX8_clearingOf 53 = .ok (.ifCond .eq 30, 3) := by decide +kernel
theorem dX8_clearingOf_56 : decode cX8_clearingOf 56 = .ok (.iload 4, 2) := by decide +kernel
theorem dX8_clearingOf_58 : decode cX8_clearingOf 58 = .ok (.iload 6, 2) := by decide +kernel
theorem dX8_clearingOf_60 : decode cX8_clearingOf 60 = .ok (.iconst 4, 1) := by decide +kernel
theorem dX8_clearingOf_61 : decode cX8_clearingOf 61 = .ok (.irem, 1) := by decide +kernel
theorem dX8_clearingOf_62 : decode cX8_clearingOf 62 = .ok (.invokestatic 106, 3) := by decide +kernel
theorem dX8_clearingOf_65 : decode cX8_clearingOf 65 = .ok (.ifCond .eq 18, 3) := by decide +kernel
theorem dX8_clearingOf_68 : decode cX8_clearingOf 68 = .ok (.aload_n 0, 1) := by decide +kernel
theorem dX8_clearingOf_69 : decode cX8_clearingOf 69 = .ok (.getfield 7, 3) := by decide +kernel
theorem dX8_clearingOf_72 : decode cX8_clearingOf 72 = .ok (.bipush 16, 2) := by decide +kernel
theorem dX8_clearingOf_74 : decode cX8_clearingOf 74 = .ok (.iload_n 1, 1) := by decide +kernel
theorem dX8_clearingOf_75 : decode cX8_clearingOf 75 = .ok (.imul, 1) := by decide +kernel
theorem dX8_clearingOf_76 : decode cX8_clearingOf 76 = .ok (.iload 6, 2) := by decide +kernel
theorem dX8_clearingOf_78 : decode cX8_clearingOf 78 = .ok (.iadd, 1) := by decide +kernel
theorem dX8_clearingOf_79 : decode cX8_clearingOf 79 = .ok (.iaload, 1) := by decide +kernel
theorem dX8_clearingOf_80 : decode cX8_clearingOf 80 = .ok (.goto 4, 3) := by decide +kernel
theorem dX8_clearingOf_83 : decode cX8_clearingOf 83 = .ok (.iconst 0, 1) := by decide +kernel
theorem dX8_clearingOf_84 : decode cX8_clearingOf 84 = .ok (.istore 7, 2) := by decide +kernel
theorem dX8_clearingOf_86 : decode cX8_clearingOf 86 = .ok (.iload 7, 2) := by decide +kernel
theorem dX8_clearingOf_88 : decode cX8_clearingOf 88 = .ok (.iload 5, 2) := by decide +kernel
theorem dX8_clearingOf_90 : decode cX8_clearingOf 90 = .ok (.if_icmp .le 8, 3) := by decide +kernel
theorem dX8_clearingOf_93 : decode cX8_clearingOf 93 = .ok (.iload 7, 2) := by decide +kernel
theorem dX8_clearingOf_95 : decode cX8_clearingOf 95 = .ok (.goto 5, 3) := by decide +kernel
theorem dX8_clearingOf_98 : decode cX8_clearingOf 98 = .ok (.iload 5, 2) := by decide +kernel
theorem dX8_clearingOf_100 : decode cX8_clearingOf 100 = .ok (.istore 5, 2) := by decide +kernel
theorem dX8_clearingOf_102 : decode cX8_clearingOf 102 = .ok (.iinc 6 1, 3) := by decide +kernel
theorem dX8_clearingOf_105 : decode cX8_clearingOf 105 = .ok (.goto (-67), 3) := by decide +kernel
theorem dX8_clearingOf_108 : decode cX8_clearingOf 108 = .ok (.iload 5, 2) := by decide +kernel
theorem dX8_clearingOf_110 : decode cX8_clearingOf 110 = .ok (.ireturn, 1) := by decide +kernel
theorem dX8_leastOf_0 : decode cX8_leastOf 0 = .ok (.aload_n 0, 1) := by decide +kernel
theorem dX8_leastOf_1 : decode cX8_leastOf 1 = .ok (.getfield 13, 3) := by decide +kernel
theorem dX8_leastOf_4 : decode cX8_leastOf 4 = .ok (.iconst 4, 1) := by decide +kernel
theorem dX8_leastOf_5 : decode cX8_leastOf 5 = .ok (.iload_n 1, 1) := by decide +kernel
theorem dX8_leastOf_6 : decode cX8_leastOf 6 = .ok (.imul, 1) := by decide +kernel
theorem dX8_leastOf_7 : decode cX8_leastOf 7 = .ok (.iload_n 2, 1) := by decide +kernel
theorem dX8_leastOf_8 : decode cX8_leastOf 8 = .ok (.iadd, 1) := by decide +kernel
theorem dX8_leastOf_9 : decode cX8_leastOf 9 = .ok (.iaload, 1) := by decide +kernel
theorem dX8_leastOf_10 : decode cX8_leastOf 10 = .ok (.iconst 3, 1) := by decide +kernel
theorem dX8_leastOf_11 : decode cX8_leastOf 11 = .ok (.invokestatic 106, 3) := by decide +kernel
theorem dX8_leastOf_14 : decode cX8_leastOf 14 = .ok (.ifCond .eq 8, 3) := by decide +kernel
theorem dX8_leastOf_17 : decode cX8_leastOf 17 = .ok (.bipush 8, 2) := by decide +kernel
theorem dX8_leastOf_19 : decode cX8_leastOf 19 = .ok (.goto 4, 3) := by decide +kernel
theorem dX8_leastOf_22 : decode cX8_leastOf 22 = .ok (.iconst 5, 1) := by decide +kernel
theorem dX8_leastOf_23 : decode cX8_leastOf 23 = .ok (.ireturn, 1) := by decide +kernel
theorem dX8_weight_0 : decode cX8_weight 0 = .ok (.iconst 0, 1) := by decide +kernel
theorem dX8_weight_1 : decode cX8_weight 1 = .ok (.istore_n 3, 1) := by decide +kernel
theorem dX8_weight_2 : decode cX8_weight 2 = .ok (.iconst 0, 1) := by decide +kernel
theorem dX8_weight_3 : decode cX8_weight 3 = .ok (.istore 4, 2) := by decide +kernel
theorem dX8_weight_5 : decode cX8_weight 5 = .ok (.iload 4, 2) := by decide +kernel
theorem dX8_weight_7 : decode cX8_weight 7 = .ok (.iconst 4, 1) := by decide +kernel
theorem dX8_weight_8 : decode cX8_weight 8 = .ok (.if_icmp .ge 57, 3) := by decide +kernel
theorem dX8_weight_11 : decode cX8_weight 11 = .ok (.aload_n 0, 1) := by decide +kernel
theorem dX8_weight_12 : decode cX8_weight 12 = .ok (.getfield 13, 3) := by decide +kernel
theorem dX8_weight_15 : decode cX8_weight 15 = .ok (.iconst 4, 1) := by decide +kernel
theorem dX8_weight_16 : decode cX8_weight 16 = .ok (.iload_n 1, 1) := by decide +kernel
theorem dX8_weight_17 : decode cX8_weight 17 = .ok (.imul, 1) := by decide +kernel
theorem dX8_weight_18 : decode cX8_weight 18 = .ok (.iload_n 2, 1) := by decide +kernel
theorem dX8_weight_19 : decode cX8_weight 19 = .ok (.iadd, 1) := by decide +kernel
theorem dX8_weight_20 : decode cX8_weight 20 = .ok (.iaload, 1) := by decide +kernel
theorem dX8_weight_21 : decode cX8_weight 21 = .ok (.iload 4, 2) := by decide +kernel
theorem dX8_weight_23 : decode cX8_weight 23 = .ok (.invokestatic 106, 3) := by decide +kernel
theorem dX8_weight_26 : decode cX8_weight 26 = .ok (.ifCond .eq 17, 3) := by decide +kernel
theorem dX8_weight_29 : decode cX8_weight 29 = .ok (.aload_n 0, 1) := by decide +kernel
theorem dX8_weight_30 : decode cX8_weight 30 = .ok (.getfield 19, 3) := by decide +kernel
theorem dX8_weight_33 : decode cX8_weight 33 = .ok (.iconst 4, 1) := by decide +kernel
theorem dX8_weight_34 : decode cX8_weight 34 = .ok (.iload_n 1, 1) := by decide +kernel
theorem dX8_weight_35 : decode cX8_weight 35 = .ok (.imul, 1) := by decide +kernel
theorem dX8_weight_36 : decode cX8_weight 36 = .ok (.iload 4, 2) := by decide +kernel
theorem dX8_weight_38 : decode cX8_weight 38 = .ok (.iadd, 1) := by decide +kernel
theorem dX8_weight_39 : decode cX8_weight 39 = .ok (.iaload, 1) := by decide +kernel
theorem dX8_weight_40 : decode cX8_weight 40 = .ok (.goto 4, 3) := by decide +kernel
theorem dX8_weight_43 : decode cX8_weight 43 = .ok (.iconst 0, 1) := by decide +kernel
theorem dX8_weight_44 : decode cX8_weight 44 = .ok (.istore 5, 2) := by decide +kernel
theorem dX8_weight_46 : decode cX8_weight 46 = .ok (.iload 5, 2) := by decide +kernel
theorem dX8_weight_48 : decode cX8_weight 48 = .ok (.iload_n 3, 1) := by decide +kernel
theorem dX8_weight_49 : decode cX8_weight 49 = .ok (.if_icmp .le 8, 3) := by decide +kernel
theorem dX8_weight_52 : decode cX8_weight 52 = .ok (.iload 5, 2) := by decide +kernel
theorem dX8_weight_54 : decode cX8_weight 54 = .ok (.goto 4, 3) := by decide +kernel
theorem dX8_weight_57 : decode cX8_weight 57 = .ok (.iload_n 3, 1) := by decide +kernel
theorem dX8_weight_58 : decode cX8_weight 58 = .ok (.istore_n 3, 1) := by decide +kernel
theorem dX8_weight_59 : decode cX8_weight 59 = .ok (.iinc 4 1, 3) := by decide +kernel
theorem dX8_weight_62 : decode cX8_weight 62 = .ok (.goto (-57), 3) := by decide +kernel
theorem dX8_weight_65 : decode cX8_weight 65 = .ok (.iload_n 3, 1) := by decide +kernel
theorem dX8_weight_66 : decode cX8_weight 66 = .ok (.ireturn, 1) := by decide +kernel
theorem dX8_plans_0 : decode cX8_plans 0 = .ok (.aload_n 0, 1) := by decide +kernel
theorem dX8_plans_1 : decode cX8_plans 1 = .ok (.getfield 83, 3) := by decide +kernel
theorem dX8_plans_4 : decode cX8_plans 4 = .ok (.istore_n 2, 1) := by decide +kernel
theorem dX8_plans_5 : decode cX8_plans 5 = .ok (.iconst 0, 1) := by decide +kernel
theorem dX8_plans_6 : decode cX8_plans 6 = .ok (.istore_n 3, 1) := by decide +kernel
theorem dX8_plans_7 : decode cX8_plans 7 = .ok (.iconst 0, 1) := by decide +kernel
theorem dX8_plans_8 : decode cX8_plans 8 = .ok (.istore 4, 2) := by decide +kernel
theorem dX8_plans_10 : decode cX8_plans 10 = .ok (.iload 4, 2) := by decide +kernel
theorem dX8_plans_12 : decode cX8_plans 12 = .ok (.aload_n 0, 1) := by decide +kernel
theorem dX8_plans_13 : decode cX8_plans 13 = .ok (.getfield 16, 3) := by decide +kernel
theorem dX8_plans_16 : decode cX8_plans 16 = .ok (.iload_n 1, 1) := by decide +kernel
theorem dX8_plans_17 : decode cX8_plans 17 = .ok (.iaload, 1) := by decide +kernel
theorem dX8_plans_18 : decode cX8_plans 18 = .ok (.if_icmp .ge 59, 3) := by decide +kernel
theorem dX8_plans_21 : decode cX8_plans 21 = .ok (.aload_n 0, 1) := by decide +kernel
theorem dX8_plans_22 : decode cX8_plans 22 = .ok (.getfield 34, 3) := by decide +kernel
theorem dX8_plans_25 : decode cX8_plans 25 = .ok (.iconst 4, 1) := by decide +kernel
theorem dX8_plans_26 : decode cX8_plans 26 = .ok (.iload_n 1, 1) := by decide +kernel
theorem dX8_plans_27 : decode cX8_plans 27 = .ok (.imul, 1) := by decide +kernel
theorem dX8_plans_28 : decode cX8_plans 28 = .ok (.iload 4, 2) := by decide +kernel
theorem dX8_plans_30 : decode cX8_plans 30 = .ok (.iadd, 1) := by decide +kernel
theorem dX8_plans_31 : decode cX8_plans 31 = .ok (.aload_n 0, 1) := by decide +kernel
theorem dX8_plans_32 : decode cX8_plans 32 = .ok (.iload_n 1, 1) := by decide +kernel
theorem dX8_plans_33 : decode cX8_plans 33 = .ok (.iload 4, 2) := by decide +kernel
theorem dX8_plans_35 : decode cX8_plans 35 = .ok (.invokevirtual 134, 3) := by decide +kernel
theorem dX8_plans_38 : decode cX8_plans 38 = .ok (.iastore, 1) := by decide +kernel
theorem dX8_plans_39 : decode cX8_plans 39 = .ok (.iload_n 2, 1) := by decide +kernel
theorem dX8_plans_40 : decode cX8_plans 40 = .ok (.aload_n 0, 1) := by decide +kernel
theorem dX8_plans_41 : decode cX8_plans 41 = .ok (.getfield 34, 3) := by decide +kernel
theorem dX8_plans_44 : decode cX8_plans 44 = .ok (.iconst 4, 1) := by decide +kernel
theorem dX8_plans_45 : decode cX8_plans 45 = .ok (.iload_n 1, 1) := by decide +kernel
theorem dX8_plans_46 : decode cX8_plans 46 = .ok (.imul, 1) := by decide +kernel
theorem dX8_plans_47 : decode cX8_plans 47 = .ok (.iload 4, 2) := by decide +kernel
theorem dX8_plans_49 : decode cX8_plans 49 = .ok (.iadd, 1) := by decide +kernel
theorem dX8_plans_50 : decode cX8_plans 50 = .ok (.iaload, 1) := by decide +kernel
theorem dX8_plans_51 : decode cX8_plans 51 = .ok (.aload_n 0, 1) := by decide +kernel
theorem dX8_plans_52 : decode cX8_plans 52 = .ok (.iload_n 1, 1) := by decide +kernel
theorem dX8_plans_53 : decode cX8_plans 53 = .ok (.iload 4, 2) := by decide +kernel
theorem dX8_plans_55 : decode cX8_plans 55 = .ok (.invokevirtual 138, 3) := by decide +kernel
theorem dX8_plans_58 : decode cX8_plans 58 = .ok (.iadd, 1) := by decide +kernel
theorem dX8_plans_59 : decode cX8_plans 59 = .ok (.isub, 1) := by decide +kernel
theorem dX8_plans_60 : decode cX8_plans 60 = .ok (.istore_n 2, 1) := by decide +kernel
theorem dX8_plans_61 : decode cX8_plans 61 = .ok (.iload_n 3, 1) := by decide +kernel
theorem dX8_plans_62 : decode cX8_plans 62 = .ok (.aload_n 0, 1) := by decide +kernel
theorem dX8_plans_63 : decode cX8_plans 63 = .ok (.iload_n 1, 1) := by decide +kernel
theorem dX8_plans_64 : decode cX8_plans 64 = .ok (.iload 4, 2) := by decide +kernel
theorem dX8_plans_66 : decode cX8_plans 66 = .ok (.invokevirtual 141, 3) := by decide +kernel
theorem dX8_plans_69 : decode cX8_plans 69 = .ok (.iadd, 1) := by decide +kernel
theorem dX8_plans_70 : decode cX8_plans 70 = .ok (.istore_n 3, 1) := by decide +kernel
theorem dX8_plans_71 : decode cX8_plans 71 = .ok (.iinc 4 1, 3) := by decide +kernel
theorem dX8_plans_74 : decode cX8_plans 74 = .ok (.goto (-64), 3) := by decide +kernel
theorem dX8_plans_77 : decode cX8_plans 77 = .ok (.aload_n 0, 1) := by decide +kernel
theorem dX8_plans_78 : decode cX8_plans 78 = .ok (.getfield 37, 3) := by decide +kernel
theorem dX8_plans_81 : decode cX8_plans 81 = .ok (.iload_n 1, 1) := by decide +kernel
theorem dX8_plans_82 : decode cX8_plans 82 = .ok (.iload_n 2, 1) := by decide +kernel
theorem dX8_plans_83 : decode cX8_plans 83 = .ok (.ifCond .lt 7, 3) := by decide +kernel
theorem dX8_plans_86 : decode cX8_plans 86 = .ok (.iconst 1, 1) := by decide +kernel
theorem dX8_plans_87 : decode cX8_plans 87 = .ok (.goto 4, 3) := by decide +kernel
theorem dX8_plans_90 : decode cX8_plans 90 = .ok (.iconst 0, 1) := by decide +kernel
theorem dX8_plans_91 : decode cX8_plans 91 = .ok (.bastore, 1) := by decide +kernel
theorem dX8_plans_92 : decode cX8_plans 92 = .ok (.iload_n 2, 1) := by decide +kernel
theorem dX8_plans_93 : decode cX8_plans 93 = .ok (.istore 4, 2) := by decide +kernel
theorem dX8_plans_95 : decode cX8_plans 95 = .ok (.iconst 0, 1) := by decide +kernel
theorem dX8_plans_96 : decode cX8_plans 96 = .ok (.istore 5, 2) := by decide +kernel
theorem dX8_plans_98 : decode cX8_plans 98 = .ok (.iload 5, 2) := by decide +kernel
theorem dX8_plans_100 : decode cX8_plans 100 = .ok (.aload_n 0, 1) := by decide +kernel
theorem dX8_plans_101 : decode cX8_plans 101 = .ok (.getfield 16, 3) := by decide +kernel
theorem dX8_plans_104 : decode cX8_plans 104 = .ok (.iload_n 1, 1) := by decide +kernel
theorem dX8_plans_105 : decode cX8_plans 105 = .ok (.iaload, 1) := by decide +kernel
theorem dX8_plans_106 : decode cX8_plans 106 = .ok (.if_icmp .ge 65, 3) := by decide +kernel
theorem dX8_plans_109 : decode cX8_plans 109 = .ok (.iload_n 3, 1) := by decide +kernel
theorem dX8_plans_110 : decode cX8_plans 110 = .ok (.ifCond .ne 14, 3) := by decide +kernel
theorem dX8_plans_113 : decode cX8_plans 113 = .ok (.iload_n 2, 1) := by decide +kernel
theorem dX8_plans_114 : decode cX8_plans 114 = .ok (.aload_n 0, 1) := by decide +kernel
theorem dX8_plans_115 : decode cX8_plans 115 = .ok (.getfield 16, 3) := by decide +kernel
theorem dX8_plans_118 : decode cX8_plans 118 = .ok (.iload_n 1, 1) := by decide +kernel
theorem dX8_plans_119 : decode cX8_plans 119 = .ok (.iaload, 1) := by decide +kernel
theorem dX8_plans_120 : decode cX8_plans 120 = .ok (.idiv, 1) := by decide +kernel
theorem dX8_plans_121 : decode cX8_plans 121 = .ok (.goto 14, 3) := by decide +kernel
theorem dX8_plans_124 : decode cX8_plans 124 = .ok (.iload_n 2, 1) := by decide +kernel
theorem dX8_plans_125 : decode cX8_plans 125 = .ok (.aload_n 0, 1) := by decide +kernel
theorem dX8_plans_126 : decode cX8_plans 126 = .ok (.iload_n 1, 1) := by decide +kernel
theorem dX8_plans_127 : decode cX8_plans 127 = .ok (.iload 5, 2) := by decide +kernel
theorem dX8_plans_129 : decode cX8_plans 129 = .ok (.invokevirtual 141, 3) := by decide +kernel
theorem dX8_plans_132 : decode cX8_plans 132 = .ok (.imul, 1) := by decide +kernel
theorem dX8_plans_133 : decode cX8_plans 133 = .ok (.iload_n 3, 1) := by decide +kernel
theorem dX8_plans_134 : decode cX8_plans 134 = .ok (.idiv, 1) := by decide +kernel
theorem dX8_plans_135 : decode cX8_plans 135 = .ok (.istore 6, 2) := by decide +kernel
theorem dX8_plans_137 : decode cX8_plans 137 = .ok (.aload_n 0, 1) := by decide +kernel
theorem dX8_plans_138 : decode cX8_plans 138 = .ok (.getfield 31, 3) := by decide +kernel
theorem dX8_plans_141 : decode cX8_plans 141 = .ok (.iconst 4, 1) := by decide +kernel
theorem dX8_plans_142 : decode cX8_plans 142 = .ok (.iload_n 1, 1) := by decide +kernel
theorem dX8_plans_143 : decode cX8_plans 143 = .ok (.imul, 1) := by decide +kernel
theorem dX8_plans_144 : decode cX8_plans 144 = .ok (.iload 5, 2) := by decide +kernel
theorem dX8_plans_146 : decode cX8_plans 146 = .ok (.iadd, 1) := by decide +kernel
theorem dX8_plans_147 : decode cX8_plans 147 = .ok (.aload_n 0, 1) := by decide +kernel
theorem dX8_plans_148 : decode cX8_plans 148 = .ok (.iload_n 1, 1) := by decide +kernel
theorem dX8_plans_149 : decode cX8_plans 149 = .ok (.iload 5, 2) := by decide +kernel
theorem dX8_plans_151 : decode cX8_plans 151 = .ok (.invokevirtual 138, 3) := by decide +kernel
theorem dX8_plans_154 : decode cX8_plans 154 = .ok (.iload 6, 2) := by decide +kernel
theorem dX8_plans_156 : decode cX8_plans 156 = .ok (.iadd, 1) := by decide +kernel
theorem dX8_plans_157 : decode cX8_plans 157 = .ok (.iastore, 1) := by decide +kernel
theorem dX8_plans_158 : decode cX8_plans 158 = .ok (.iload 4, 2) := by decide +kernel
theorem dX8_plans_160 : decode cX8_plans 160 = .ok (.iload 6, 2) := by decide +kernel
theorem dX8_plans_162 : decode cX8_plans 162 = .ok (.isub, 1) := by decide +kernel
theorem dX8_plans_163 : decode cX8_plans 163 = .ok (.istore 4, 2) := by decide +kernel
theorem dX8_plans_165 : decode cX8_plans 165 = .ok (.iinc 5 1, 3) := by decide +kernel
theorem dX8_plans_168 : decode cX8_plans 168 = .ok (.goto (-70), 3) := by decide +kernel
theorem dX8_plans_171 : decode cX8_plans 171 = .ok (.iconst 0, 1) := by decide +kernel
theorem dX8_plans_172 : decode cX8_plans 172 = .ok (.istore 5, 2) := by decide +kernel
theorem dX8_plans_174 : decode cX8_plans 174 = .ok (.iload 5, 2) := by decide +kernel
theorem dX8_plans_176 : decode cX8_plans 176 = .ok (.aload_n 0, 1) := by decide +kernel
theorem dX8_plans_177 : decode cX8_plans 177 = .ok (.getfield 16, 3) := by decide +kernel
theorem dX8_plans_180 : decode cX8_plans 180 = .ok (.iload_n 1, 1) := by decide +kernel
theorem dX8_plans_181 : decode cX8_plans 181 = .ok (.iaload, 1) := by decide +kernel
theorem dX8_plans_182 : decode cX8_plans 182 = .ok (.if_icmp .ge 35, 3) := by decide +kernel
theorem dX8_plans_185 : decode cX8_plans 185 = .ok (.aload_n 0, 1) := by decide +kernel
theorem dX8_plans_186 : decode cX8_plans 186 = .ok (.getfield 31, 3) := by decide +kernel
theorem dX8_plans_189 : decode cX8_plans 189 = .ok (.iconst 4, 1) := by decide +kernel
theorem dX8_plans_190 : decode cX8_plans 190 = .ok (.iload_n 1, 1) := by decide +kernel
theorem dX8_plans_191 : decode cX8_plans 191 = .ok (.imul, 1) := by decide +kernel
theorem dX8_plans_192 : decode cX8_plans 192 = .ok (.iload 5, 2) := by decide +kernel
theorem dX8_plans_194 : decode cX8_plans 194 = .ok (.iadd, 1) := by decide +kernel
theorem dX8_plans_195 : decode cX8_plans 195 = .ok (.dup2, 1) := by decide +kernel
theorem dX8_plans_196 : decode cX8_plans 196 = .ok (.iaload, 1) := by decide +kernel
theorem dX8_plans_197 : decode cX8_plans 197 = .ok (.iload 5, 2) := by decide +kernel
theorem dX8_plans_199 : decode cX8_plans 199 = .ok (.iload 4, 2) := by decide +kernel
theorem dX8_plans_201 : decode cX8_plans 201 = .ok (.if_icmp .ge 7, 3) := by decide +kernel
theorem dX8_plans_204 : decode cX8_plans 204 = .ok (.iconst 1, 1) := by decide +kernel
theorem dX8_plans_205 : decode cX8_plans 205 = .ok (.goto 4, 3) := by decide +kernel
theorem dX8_plans_208 : decode cX8_plans 208 = .ok (.iconst 0, 1) := by decide +kernel
theorem dX8_plans_209 : decode cX8_plans 209 = .ok (.iadd, 1) := by decide +kernel
theorem dX8_plans_210 : decode cX8_plans 210 = .ok (.iastore, 1) := by decide +kernel
theorem dX8_plans_211 : decode cX8_plans 211 = .ok (.iinc 5 1, 3) := by decide +kernel
theorem dX8_plans_214 : decode cX8_plans 214 = .ok (.goto (-40), 3) := by decide +kernel
theorem dX8_plans_217 : decode cX8_plans 217 = .ok (.return_, 1) := by decide +kernel
theorem dX8_plansAll_0 : decode cX8_plansAll 0 = .ok (.iconst 1, 1) := by decide +kernel
theorem dX8_plansAll_1 : decode cX8_plansAll 1 = .ok (.istore_n 1, 1) := by decide +kernel
theorem dX8_plansAll_2 : decode cX8_plansAll 2 = .ok (.iconst 0, 1) := by decide +kernel
theorem dX8_plansAll_3 : decode cX8_plansAll 3 = .ok (.istore_n 2, 1) := by decide +kernel
theorem dX8_plansAll_4 : decode cX8_plansAll 4 = .ok (.iload_n 2, 1) := by decide +kernel
theorem dX8_plansAll_5 : decode cX8_plansAll 5 = .ok (.aload_n 0, 1) := by decide +kernel
theorem dX8_plansAll_6 : decode cX8_plansAll 6 = .ok (.getfield 76, 3) := by decide +kernel
theorem dX8_plansAll_9 : decode cX8_plansAll 9 = .ok (.if_icmp .ge 33, 3) := by decide +kernel
theorem dX8_plansAll_12 : decode cX8_plansAll 12 = .ok (.aload_n 0, 1) := by decide +kernel
theorem dX8_plansAll_13 : decode cX8_plansAll 13 = .ok (.iload_n 2, 1) := by decide +kernel
theorem dX8_plansAll_14 : decode cX8_plansAll 14 = .ok (.invokevirtual 144, 3) := by decide +kernel
theorem dX8_plansAll_17 : decode cX8_plansAll 17 = .ok (.iload_n 1, 1) := by decide +kernel
theorem dX8_plansAll_18 : decode cX8_plansAll 18 = .ok (.ifCond .eq 16, 3) := by decide +kernel
theorem dX8_plansAll_21 : decode cX8_plansAll 21 = .ok (.aload_n 0, 1) := by decide +kernel
theorem dX8_plansAll_22 : decode cX8_plansAll 22 = .ok (.getfield 37, 3) := by decide +kernel
theorem dX8_plansAll_25 : decode cX8_plansAll 25 = .ok (.iload_n 2, 1) := by decide +kernel
theorem dX8_plansAll_26 : decode cX8_plansAll 26 = .ok (.baload, 1) := by decide +kernel
theorem dX8_plansAll_27 : decode cX8_plansAll 27 = .ok (.ifCond .eq 7, 3) := by decide +kernel
theorem dX8_plansAll_30 : decode cX8_plansAll 30 = .ok (.iconst 1, 1) := by decide +kernel
theorem dX8_plansAll_31 : decode cX8_plansAll 31 = .ok (.goto 4, 3) := by decide +kernel
theorem dX8_plansAll_34 : decode cX8_plansAll 34 = .ok (.iconst 0, 1) := by decide +kernel
theorem dX8_plansAll_35 : decode cX8_plansAll 35 = .ok (.istore_n 1, 1) := by decide +kernel
theorem dX8_plansAll_36 : decode cX8_plansAll 36 = .ok (.iinc 2 1, 3) := by decide +kernel
theorem dX8_plansAll_39 : decode cX8_plansAll 39 = .ok (.goto (-35), 3) := by decide +kernel
theorem dX8_plansAll_42 : decode cX8_plansAll 42 = .ok (.iload_n 1, 1) := by decide +kernel
theorem dX8_plansAll_43 : decode cX8_plansAll 43 = .ok (.ireturn, 1) := by decide +kernel
theorem dX8_secondOf_0 : decode cX8_secondOf 0 = .ok (.iload_n 2, 1) := by decide +kernel
theorem dX8_secondOf_1 : decode cX8_secondOf 1 = .ok (.aload_n 0, 1) := by decide +kernel
theorem dX8_secondOf_2 : decode cX8_secondOf 2 = .ok (.getfield 22, 3) := by decide +kernel
theorem dX8_secondOf_5 : decode cX8_secondOf 5 = .ok (.iload_n 1, 1) := by decide +kernel
theorem dX8_secondOf_6 : decode cX8_secondOf 6 = .ok (.iaload, 1) := by decide +kernel
theorem dX8_secondOf_7 : decode cX8_secondOf 7 = .ok (.isub, 1) := by decide +kernel
theorem dX8_secondOf_8 : decode cX8_secondOf 8 = .ok (.aload_n 0, 1) := by decide +kernel
theorem dX8_secondOf_9 : decode cX8_secondOf 9 = .ok (.getfield 83, 3) := by decide +kernel
theorem dX8_secondOf_12 : decode cX8_secondOf 12 = .ok (.irem, 1) := by decide +kernel
theorem dX8_secondOf_13 : decode cX8_secondOf 13 = .ok (.aload_n 0, 1) := by decide +kernel
theorem dX8_secondOf_14 : decode cX8_secondOf 14 = .ok (.getfield 83, 3) := by decide +kernel
theorem dX8_secondOf_17 : decode cX8_secondOf 17 = .ok (.iadd, 1) := by decide +kernel
theorem dX8_secondOf_18 : decode cX8_secondOf 18 = .ok (.aload_n 0, 1) := by decide +kernel
theorem dX8_secondOf_19 : decode cX8_secondOf 19 = .ok (.getfield 83, 3) := by decide +kernel
theorem dX8_secondOf_22 : decode cX8_secondOf 22 = .ok (.irem, 1) := by decide +kernel
theorem dX8_secondOf_23 : decode cX8_secondOf 23 = .ok (.ireturn, 1) := by decide +kernel
theorem dX8_cycleOf_0 : decode cX8_cycleOf 0 = .ok (.iload_n 2, 1) := by decide +kernel
theorem dX8_cycleOf_1 : decode cX8_cycleOf 1 = .ok (.aload_n 0, 1) := by decide +kernel
theorem dX8_cycleOf_2 : decode cX8_cycleOf 2 = .ok (.getfield 22, 3) := by decide +kernel
theorem dX8_cycleOf_5 : decode cX8_cycleOf 5 = .ok (.iload_n 1, 1) := by decide +kernel
theorem dX8_cycleOf_6 : decode cX8_cycleOf 6 = .ok (.iaload, 1) := by decide +kernel
theorem dX8_cycleOf_7 : decode cX8_cycleOf 7 = .ok (.isub, 1) := by decide +kernel
theorem dX8_cycleOf_8 : decode cX8_cycleOf 8 = .ok (.aload_n 0, 1) := by decide +kernel
theorem dX8_cycleOf_9 : decode cX8_cycleOf 9 = .ok (.iload_n 1, 1) := by decide +kernel
theorem dX8_cycleOf_10 : decode cX8_cycleOf 10 = .ok (.iload_n 2, 1) := by decide +kernel
theorem dX8_cycleOf_11 : decode cX8_cycleOf 11 = .ok (.invokevirtual 148, 3) := by decide +kernel
theorem dX8_cycleOf_14 : decode cX8_cycleOf 14 = .ok (.isub, 1) := by decide +kernel
theorem dX8_cycleOf_15 : decode cX8_cycleOf 15 = .ok (.aload_n 0, 1) := by decide +kernel
theorem dX8_cycleOf_16 : decode cX8_cycleOf 16 = .ok (.getfield 83, 3) := by decide +kernel
theorem dX8_cycleOf_19 : decode cX8_cycleOf 19 = .ok (.idiv, 1) := by decide +kernel
theorem dX8_cycleOf_20 : decode cX8_cycleOf 20 = .ok (.ireturn, 1) := by decide +kernel
theorem dX8_phaseAt_0 : decode cX8_phaseAt 0 = .ok (.aload_n 0, 1) := by decide +kernel
theorem dX8_phaseAt_1 : decode cX8_phaseAt 1 = .ok (.iload_n 1, 1) := by decide +kernel
theorem dX8_phaseAt_2 : decode cX8_phaseAt 2 = .ok (.iload_n 2, 1) := by decide +kernel
theorem dX8_phaseAt_3 : decode cX8_phaseAt 3 = .ok (.invokevirtual 148, 3) := by decide +kernel
theorem dX8_phaseAt_6 : decode cX8_phaseAt 6 = .ok (.istore 4, 2) := by decide +kernel
theorem dX8_phaseAt_8 : decode cX8_phaseAt 8 = .ok (.iload_n 3, 1) := by decide +kernel
theorem dX8_phaseAt_9 : decode cX8_phaseAt 9 = .ok (.ifCond .eq 31, 3) := by decide +kernel
theorem dX8_phaseAt_12 : decode cX8_phaseAt 12 = .ok (.aload_n 0, 1) := by decide +kernel
theorem dX8_phaseAt_13 : decode cX8_phaseAt 13 = .ok (.getfield 53, 3) := by decide +kernel
theorem dX8_phaseAt_16 : decode cX8_phaseAt 16 = .ok (.iload_n 1, 1) := by decide +kernel
theorem dX8_phaseAt_17 : decode cX8_phaseAt 17 = .ok (.baload, 1) := by decide +kernel
theorem dX8_phaseAt_18 : decode cX8_phaseAt 18 = .ok (.ifCond .eq 22, 3) := by decide +kernel
theorem dX8_phaseAt_21 : decode cX8_phaseAt 21 = .ok (.aload_n 0, 1) := by decide +kernel
theorem dX8_phaseAt_22 : decode cX8_phaseAt 22 = .ok (.getfield 56, 3) := by decide +kernel
theorem dX8_phaseAt_25 : decode cX8_phaseAt 25 = .ok (.iload_n 1, 1) := by decide +kernel
theorem dX8_phaseAt_26 : decode cX8_phaseAt 26 = .ok (.iaload, 1) := by decide +kernel
theorem dX8_phaseAt_27 : decode cX8_phaseAt 27 = .ok (.aload_n 0, 1) := by decide +kernel
theorem dX8_phaseAt_28 : decode cX8_phaseAt 28 = .ok (.iload_n 1, 1) := by decide +kernel
theorem dX8_phaseAt_29 : decode cX8_phaseAt 29 = .ok (.iload_n 2, 1) := by decide +kernel
theorem dX8_phaseAt_30 : decode cX8_phaseAt 30 = .ok (.invokevirtual 151, 3) := by decide +kernel
theorem dX8_phaseAt_33 : decode cX8_phaseAt 33 = .ok (.if_icmp .ne 7, 3) := by decide +kernel
theorem dX8_phaseAt_36 : decode cX8_phaseAt 36 = .ok (.iconst 1, 1) := by decide +kernel
theorem dX8_phaseAt_37 : decode cX8_phaseAt 37 = .ok (.goto 4, 3) := by decide +kernel
theorem dX8_phaseAt_40 : decode cX8_phaseAt 40 = .ok (.iconst 0, 1) := by decide +kernel
theorem dX8_phaseAt_41 : decode cX8_phaseAt 41 = .ok (.istore 5, 2) := by decide +kernel
theorem dX8_phaseAt_43 : decode cX8_phaseAt 43 = .ok (.iconst 0, 1) := by decide +kernel
theorem dX8_phaseAt_44 : decode cX8_phaseAt 44 = .ok (.istore 6, 2) := by decide +kernel
theorem dX8_phaseAt_46 : decode cX8_phaseAt 46 = .ok (.iload 6, 2) := by decide +kernel
theorem dX8_phaseAt_48 : decode cX8_phaseAt 48 = .ok (.aload_n 0, 1) := by decide +kernel
theorem dX8_phaseAt_49 : decode cX8_phaseAt 49 = .ok (.getfield 16, 3) := by decide +kernel
theorem dX8_phaseAt_52 : decode cX8_phaseAt 52 = .ok (.iload_n 1, 1) := by decide +kernel
theorem dX8_phaseAt_53 : decode cX8_phaseAt 53 = .ok (.iaload, 1) := by decide +kernel
theorem dX8_phaseAt_54 : decode cX8_phaseAt 54 = .ok (.if_icmp .ge 122, 3) := by decide +kernel
theorem dX8_phaseAt_57 : decode cX8_phaseAt 57 = .ok (.aload_n 0, 1) := by decide +kernel
theorem dX8_phaseAt_58 : decode cX8_phaseAt 58 = .ok (.getfield 31, 3) := by decide +kernel
theorem dX8_phaseAt_61 : decode cX8_phaseAt 61 = .ok (.iconst 4, 1) := by decide +kernel
theorem dX8_phaseAt_62 : decode cX8_phaseAt 62 = .ok (.iload_n 1, 1) := by decide +kernel
theorem dX8_phaseAt_63 : decode cX8_phaseAt 63 = .ok (.imul, 1) := by decide +kernel
theorem dX8_phaseAt_64 : decode cX8_phaseAt 64 = .ok (.iload 6, 2) := by decide +kernel
theorem dX8_phaseAt_66 : decode cX8_phaseAt 66 = .ok (.iadd, 1) := by decide +kernel
theorem dX8_phaseAt_67 : decode cX8_phaseAt 67 = .ok (.iaload, 1) := by decide +kernel
theorem dX8_phaseAt_68 : decode cX8_phaseAt 68 = .ok (.istore 7, 2) := by decide +kernel
theorem dX8_phaseAt_70 : decode cX8_phaseAt 70 = .ok (.iload 7, 2) := by decide +kernel
theorem dX8_phaseAt_72 : decode cX8_phaseAt 72 = .ok (.iload 5, 2) := by decide +kernel
theorem dX8_phaseAt_74 : decode cX8_phaseAt 74 = .ok (.ifCond .eq 23, 3) := by decide +kernel
theorem dX8_phaseAt_77 : decode cX8_phaseAt 77 = .ok (.iload 6, 2) := by decide +kernel
theorem dX8_phaseAt_79 : decode cX8_phaseAt 79 = .ok (.aload_n 0, 1) := by decide +kernel
theorem dX8_phaseAt_80 : decode cX8_phaseAt 80 = .ok (.getfield 59, 3) := by decide +kernel
theorem dX8_phaseAt_83 : decode cX8_phaseAt 83 = .ok (.iload_n 1, 1) := by decide +kernel
theorem dX8_phaseAt_84 : decode cX8_phaseAt 84 = .ok (.iaload, 1) := by decide +kernel
theorem dX8_phaseAt_85 : decode cX8_phaseAt 85 = .ok (.if_icmp .ne 12, 3) := by decide +kernel
theorem dX8_phaseAt_88 : decode cX8_phaseAt 88 = .ok (.aload_n 0, 1) := by decide +kernel
theorem dX8_phaseAt_89 : decode cX8_phaseAt 89 = .ok (.getfield 65, 3) := by decide +kernel
theorem dX8_phaseAt_92 : decode cX8_phaseAt 92 = .ok (.iload_n 1, 1) := by decide +kernel
theorem dX8_phaseAt_93 : decode cX8_phaseAt 93 = .ok (.iaload, 1) := by decide +kernel
theorem dX8_phaseAt_94 : decode cX8_phaseAt 94 = .ok (.goto 4, 3) := by decide +kernel
theorem dX8_phaseAt_97 : decode cX8_phaseAt 97 = .ok (.iconst 0, 1) := by decide +kernel
theorem dX8_phaseAt_98 : decode cX8_phaseAt 98 = .ok (.iadd, 1) := by decide +kernel
theorem dX8_phaseAt_99 : decode cX8_phaseAt 99 = .ok (.istore 7, 2) := by decide +kernel
theorem dX8_phaseAt_101 : decode cX8_phaseAt 101 = .ok (.iload 7, 2) := by decide +kernel
theorem dX8_phaseAt_103 : decode cX8_phaseAt 103 = .ok (.iload 5, 2) := by decide +kernel
theorem dX8_phaseAt_105 : decode cX8_phaseAt 105 = .ok (.ifCond .eq 23, 3) := by decide +kernel
theorem dX8_phaseAt_108 : decode cX8_phaseAt 108 = .ok (.iload 6, 2) := by decide +kernel
theorem dX8_phaseAt_110 : decode cX8_phaseAt 110 = .ok (.aload_n 0, 1) := by decide +kernel
theorem dX8_phaseAt_111 : decode cX8_phaseAt 111 = .ok (.getfield 62, 3) := by decide +kernel
theorem dX8_phaseAt_114 : decode cX8_phaseAt 114 = .ok (.iload_n 1, 1) := by decide +kernel
theorem dX8_phaseAt_115 : decode cX8_phaseAt 115 = .ok (.iaload, 1) := by decide +kernel
theorem dX8_phaseAt_116 : decode cX8_phaseAt 116 = .ok (.if_icmp .ne 12, 3) := by decide +kernel
theorem dX8_phaseAt_119 : decode cX8_phaseAt 119 = .ok (.aload_n 0, 1) := by decide +kernel
theorem dX8_phaseAt_120 : decode cX8_phaseAt 120 = .ok (.getfield 65, 3) := by decide +kernel
theorem dX8_phaseAt_123 : decode cX8_phaseAt 123 = .ok (.iload_n 1, 1) := by decide +kernel
theorem dX8_phaseAt_124 : decode cX8_phaseAt 124 = .ok (.iaload, 1) := by decide +kernel
theorem dX8_phaseAt_125 : decode cX8_phaseAt 125 = .ok (.goto 4, 3) := by decide +kernel
theorem dX8_phaseAt_128 : decode cX8_phaseAt 128 = .ok (.iconst 0, 1) := by decide +kernel
theorem dX8_phaseAt_129 : decode cX8_phaseAt 129 = .ok (.isub, 1) := by decide +kernel
theorem dX8_phaseAt_130 : decode cX8_phaseAt 130 = .ok (.istore 7, 2) := by decide +kernel
theorem dX8_phaseAt_132 : decode cX8_phaseAt 132 = .ok (.iload 4, 2) := by decide +kernel
theorem dX8_phaseAt_134 : decode cX8_phaseAt 134 = .ok (.iload 7, 2) := by decide +kernel
theorem dX8_phaseAt_136 : decode cX8_phaseAt 136 = .ok (.if_icmp .ge 15, 3) := by decide +kernel
theorem dX8_phaseAt_139 : decode cX8_phaseAt 139 = .ok (.iload 4, 2) := by decide +kernel
theorem dX8_phaseAt_141 : decode cX8_phaseAt 141 = .ok (.ifCond .ge 7, 3) := by decide +kernel
theorem dX8_phaseAt_144 : decode cX8_phaseAt 144 = .ok (.iconst (-1), 1) := by decide +kernel
theorem dX8_phaseAt_145 : decode cX8_phaseAt 145 = .ok (.goto 5, 3) := by decide +kernel
theorem dX8_phaseAt_148 : decode cX8_phaseAt 148 = .ok (.iload 6, 2) := by decide +kernel
theorem dX8_phaseAt_150 : decode cX8_phaseAt 150 = .ok (.ireturn, 1) := by decide +kernel
theorem dX8_phaseAt_151 : decode cX8_phaseAt 151 = .ok (.iload 4, 2) := by decide +kernel
theorem dX8_phaseAt_153 : decode cX8_phaseAt 153 = .ok (.iload 7, 2) := by decide +kernel
theorem dX8_phaseAt_155 : decode cX8_phaseAt 155 = .ok (.aload_n 0, 1) := by decide +kernel
theorem dX8_phaseAt_156 : decode cX8_phaseAt 156 = .ok (.getfield 34, 3) := by decide +kernel
theorem dX8_phaseAt_159 : decode cX8_phaseAt 159 = .ok (.iconst 4, 1) := by decide +kernel
theorem dX8_phaseAt_160 : decode cX8_phaseAt 160 = .ok (.iload_n 1, 1) := by decide +kernel
theorem dX8_phaseAt_161 : decode cX8_phaseAt 161 = .ok (.imul, 1) := by decide +kernel
theorem dX8_phaseAt_162 : decode cX8_phaseAt 162 = .ok (.iload 6, 2) := by decide +kernel
theorem dX8_phaseAt_164 : decode cX8_phaseAt 164 = .ok (.iadd, 1) := by decide +kernel
theorem dX8_phaseAt_165 : decode cX8_phaseAt 165 = .ok (.iaload, 1) := by decide +kernel
theorem dX8_phaseAt_166 : decode cX8_phaseAt 166 = .ok (.iadd, 1) := by decide +kernel
theorem dX8_phaseAt_167 : decode cX8_phaseAt 167 = .ok (.isub, 1) := by decide +kernel
theorem dX8_phaseAt_168 : decode cX8_phaseAt 168 = .ok (.istore 4, 2) := by decide +kernel
theorem dX8_phaseAt_170 : decode cX8_phaseAt 170 = .ok (.iinc 6 1, 3) := by decide +kernel
theorem dX8_phaseAt_173 : decode cX8_phaseAt 173 = .ok (.goto (-127), 3) := by decide +kernel
theorem dX8_phaseAt_176 : decode cX8_phaseAt 176 = .ok (.iconst (-1), 1) := by decide +kernel
theorem dX8_phaseAt_177 : decode cX8_phaseAt 177 = .ok (.ireturn, 1) := by decide +kernel
theorem dX8_isGreenAt_0 : decode cX8_isGreenAt 0 = .ok (.aload_n 0, 1) := by decide +kernel
theorem dX8_isGreenAt_1 : decode cX8_isGreenAt 1 = .ok (.iload_n 1, 1) := by decide +kernel
theorem dX8_isGreenAt_2 : decode cX8_isGreenAt 2 = .ok (.iload_n 3, 1) := by decide +kernel
theorem dX8_isGreenAt_3 : decode cX8_isGreenAt 3 = .ok (.iload 4, 2) := by decide +kernel
theorem dX8_isGreenAt_5 : decode cX8_isGreenAt 5 = .ok (.invokevirtual 154, 3) := by decide +kernel
theorem dX8_isGreenAt_8 : decode cX8_isGreenAt 8 = .ok (.istore 5, 2) := by decide +kernel
theorem dX8_isGreenAt_10 : decode cX8_isGreenAt 10 = .ok (.iload 5, 2) := by decide +kernel
theorem dX8_isGreenAt_12 : decode cX8_isGreenAt 12 = .ok (.iconst (-1), 1) := by decide +kernel
theorem dX8_isGreenAt_13 : decode cX8_isGreenAt 13 = .ok (.if_icmp .eq 25, 3) := by decide +kernel
theorem dX8_isGreenAt_16 : decode cX8_isGreenAt 16 = .ok (.aload_n 0, 1) := by decide +kernel
theorem dX8_isGreenAt_17 : decode cX8_isGreenAt 17 = .ok (.getfield 13, 3) := by decide +kernel
theorem dX8_isGreenAt_20 : decode cX8_isGreenAt 20 = .ok (.iconst 4, 1) := by decide +kernel
theorem dX8_isGreenAt_21 : decode cX8_isGreenAt 21 = .ok (.iload_n 1, 1) := by decide +kernel
theorem dX8_isGreenAt_22 : decode cX8_isGreenAt 22 = .ok (.imul, 1) := by decide +kernel
theorem dX8_isGreenAt_23 : decode cX8_isGreenAt 23 = .ok (.iload 5, 2) := by decide +kernel
theorem dX8_isGreenAt_25 : decode cX8_isGreenAt 25 = .ok (.iadd, 1) := by decide +kernel
theorem dX8_isGreenAt_26 : decode cX8_isGreenAt 26 = .ok (.iaload, 1) := by decide +kernel
theorem dX8_isGreenAt_27 : decode cX8_isGreenAt 27 = .ok (.iload_n 2, 1) := by decide +kernel
theorem dX8_isGreenAt_28 : decode cX8_isGreenAt 28 = .ok (.invokestatic 106, 3) := by decide +kernel
theorem dX8_isGreenAt_31 : decode cX8_isGreenAt 31 = .ok (.ifCond .eq 7, 3) := by decide +kernel
theorem dX8_isGreenAt_34 : decode cX8_isGreenAt 34 = .ok (.iconst 1, 1) := by decide +kernel
theorem dX8_isGreenAt_35 : decode cX8_isGreenAt 35 = .ok (.goto 4, 3) := by decide +kernel
theorem dX8_isGreenAt_38 : decode cX8_isGreenAt 38 = .ok (.iconst 0, 1) := by decide +kernel
theorem dX8_isGreenAt_39 : decode cX8_isGreenAt 39 = .ok (.ireturn, 1) := by decide +kernel
theorem dX8_isFree_0 : decode cX8_isFree 0 = .ok (.iload_n 1, 1) := by decide +kernel
theorem dX8_isFree_1 : decode cX8_isFree 1 = .ok (.istore_n 3, 1) := by decide +kernel
theorem dX8_isFree_2 : decode cX8_isFree 2 = .ok (.iconst 0, 1) := by decide +kernel
theorem dX8_isFree_3 : decode cX8_isFree 3 = .ok (.istore 4, 2) := by decide +kernel
theorem dX8_isFree_5 : decode cX8_isFree 5 = .ok (.iload 4, 2) := by decide +kernel
theorem dX8_isFree_7 : decode cX8_isFree 7 = .ok (.aload_n 0, 1) := by decide +kernel
theorem dX8_isFree_8 : decode cX8_isFree 8 = .ok (.getfield 76, 3) := by decide +kernel
theorem dX8_isFree_11 : decode cX8_isFree 11 = .ok (.if_icmp .ge 101, 3) := by decide +kernel
theorem dX8_isFree_14 : decode cX8_isFree 14 = .ok (.iload_n 2, 1) := by decide +kernel
theorem dX8_isFree_15 : decode cX8_isFree 15 = .ok (.ifCond .eq 8, 3) := by decide +kernel
theorem dX8_isFree_18 : decode cX8_isFree 18 = .ok (.iload 4, 2) := by decide +kernel
theorem dX8_isFree_20 : decode cX8_isFree 20 = .ok (.goto 12, 3) := by decide +kernel
theorem dX8_isFree_23 : decode cX8_isFree 23 = .ok (.aload_n 0, 1) := by decide +kernel
theorem dX8_isFree_24 : decode cX8_isFree 24 = .ok (.getfield 76, 3) := by decide +kernel
theorem dX8_isFree_27 : decode cX8_isFree 27 = .ok (.iconst 1, 1) := by decide +kernel
theorem dX8_isFree_28 : decode cX8_isFree 28 = .ok (.isub, 1) := by decide +kernel
theorem dX8_isFree_29 : decode cX8_isFree 29 = .ok (.iload 4, 2) := by decide +kernel
theorem dX8_isFree_31 : decode cX8_isFree 31 = .ok (.isub, 1) := by decide +kernel
theorem dX8_isFree_32 : decode cX8_isFree 32 = .ok (.istore 5, 2) := by decide +kernel
theorem dX8_isFree_34 : decode cX8_isFree 34 = .ok (.aload_n 0, 1) := by decide +kernel
theorem dX8_isFree_35 : decode cX8_isFree 35 = .ok (.iload 5, 2) := by decide +kernel
theorem dX8_isFree_37 : decode cX8_isFree 37 = .ok (.iload_n 2, 1) := by decide +kernel
theorem dX8_isFree_38 : decode cX8_isFree 38 = .ok (.ifCond .eq 7, 3) := by decide +kernel
theorem dX8_isFree_41 : decode cX8_isFree 41 = .ok (.iconst 0, 1) := by decide +kernel
theorem dX8_isFree_42 : decode cX8_isFree 42 = .ok (.goto 4, 3) := by decide +kernel
theorem dX8_isFree_45 : decode cX8_isFree 45 = .ok (.iconst 1, 1) := by decide +kernel
theorem dX8_isFree_46 : decode cX8_isFree 46 = .ok (.iload_n 3, 1) := by decide +kernel
theorem dX8_isFree_47 : decode cX8_isFree 47 = .ok (.iconst 0, 1) := by decide +kernel
theorem dX8_isFree_48 : decode cX8_isFree 48 = .ok (.invokevirtual 158, 3) := by decide +kernel
theorem dX8_isFree_51 : decode cX8_isFree 51 = .ok (.ifCond .ne 5, 3) := by decide +kernel
theorem dX8_isFree_54 : decode cX8_isFree 54 = .ok (.iconst 0, 1) := by decide +kernel
theorem dX8_isFree_55 : decode cX8_isFree 55 = .ok (.ireturn, 1) := by decide +kernel
theorem dX8_isFree_56 : decode cX8_isFree 56 = .ok (.iload_n 3, 1) := by decide +kernel
theorem dX8_isFree_57 : decode cX8_isFree 57 = .ok (.iload_n 2, 1) := by decide +kernel
theorem dX8_isFree_58 : decode cX8_isFree 58 = .ok (.ifCond .eq 24, 3) := by decide +kernel
theorem dX8_isFree_61 : decode cX8_isFree 61 = .ok (.iload 4, 2) := by decide +kernel
theorem dX8_isFree_63 : decode cX8_isFree 63 = .ok (.aload_n 0, 1) := by decide +kernel
theorem dX8_isFree_64 : decode cX8_isFree 64 = .ok (.getfield 76, 3) := by decide +kernel
theorem dX8_isFree_67 : decode cX8_isFree 67 = .ok (.iconst 1, 1) := by decide +kernel
theorem dX8_isFree_68 : decode cX8_isFree 68 = .ok (.isub, 1) := by decide +kernel
theorem dX8_isFree_69 : decode cX8_isFree 69 = .ok (.if_icmp .ge 13, 3) := by decide +kernel
theorem dX8_isFree_72 : decode cX8_isFree 72 = .ok (.aload_n 0, 1) := by decide +kernel
theorem dX8_isFree_73 : decode cX8_isFree 73 = .ok (.getfield 25, 3) := by decide +kernel
theorem dX8_isFree_76 : decode cX8_isFree 76 = .ok (.iload 4, 2) := by decide +kernel
theorem dX8_isFree_78 : decode cX8_isFree 78 = .ok (.iaload, 1) := by decide +kernel
theorem dX8_isFree_79 : decode cX8_isFree 79 = .ok (.goto 25, 3) := by decide +kernel
theorem dX8_isFree_82 : decode cX8_isFree 82 = .ok (.iload_n 2, 1) := by decide +kernel
theorem dX8_isFree_83 : decode cX8_isFree 83 = .ok (.ifCond .ne 20, 3) := by decide +kernel
theorem dX8_isFree_86 : decode cX8_isFree 86 = .ok (.iload 5, 2) := by decide +kernel
theorem dX8_isFree_88 : decode cX8_isFree 88 = .ok (.ifCond .le 15, 3) := by decide +kernel
theorem dX8_isFree_91 : decode cX8_isFree 91 = .ok (.aload_n 0, 1) := by decide +kernel
theorem dX8_isFree_92 : decode cX8_isFree 92 = .ok (.getfield 25, 3) := by decide +kernel
theorem dX8_isFree_95 : decode cX8_isFree 95 = .ok (.iload 5, 2) := by decide +kernel
theorem dX8_isFree_97 : decode cX8_isFree 97 = .ok (.iconst 1, 1) := by decide +kernel
theorem dX8_isFree_98 : decode cX8_isFree 98 = .ok (.isub, 1) := by decide +kernel
theorem dX8_isFree_99 : decode cX8_isFree 99 = .ok (.iaload, 1) := by decide +kernel
theorem dX8_isFree_100 : decode cX8_isFree 100 = .ok (.goto 4, 3) := by decide +kernel
theorem dX8_isFree_103 : decode cX8_isFree 103 = .ok (.iconst 0, 1) := by decide +kernel
theorem dX8_isFree_104 : decode cX8_isFree 104 = .ok (.iadd, 1) := by decide +kernel
theorem dX8_isFree_105 : decode cX8_isFree 105 = .ok (.istore_n 3, 1) := by decide +kernel
theorem dX8_isFree_106 : decode cX8_isFree 106 = .ok (.iinc 4 1, 3) := by decide +kernel
theorem dX8_isFree_109 : decode cX8_isFree 109 = .ok (.goto (-104), 3) := by decide +kernel
theorem dX8_isFree_112 : decode cX8_isFree 112 = .ok (.iconst 1, 1) := by decide +kernel
theorem dX8_isFree_113 : decode cX8_isFree 113 = .ok (.ireturn, 1) := by decide +kernel
theorem dX8_bandOf_0 : decode cX8_bandOf 0 = .ok (.iconst 0, 1) := by decide +kernel
theorem dX8_bandOf_1 : decode cX8_bandOf 1 = .ok (.istore_n 2, 1) := by decide +kernel
theorem dX8_bandOf_2 : decode cX8_bandOf 2 = .ok (.iconst 0, 1) := by decide +kernel
theorem dX8_bandOf_3 : decode cX8_bandOf 3 = .ok (.istore_n 3, 1) := by decide +kernel
theorem dX8_bandOf_4 : decode cX8_bandOf 4 = .ok (.iload_n 3, 1) := by decide +kernel
theorem dX8_bandOf_5 : decode cX8_bandOf 5 = .ok (.aload_n 0, 1) := by decide +kernel
theorem dX8_bandOf_6 : decode cX8_bandOf 6 = .ok (.getfield 83, 3) := by decide +kernel
theorem dX8_bandOf_9 : decode cX8_bandOf 9 = .ok (.if_icmp .ge 26, 3) := by decide +kernel
theorem dX8_bandOf_12 : decode cX8_bandOf 12 = .ok (.iload_n 2, 1) := by decide +kernel
theorem dX8_bandOf_13 : decode cX8_bandOf 13 = .ok (.aload_n 0, 1) := by decide +kernel
theorem dX8_bandOf_14 : decode cX8_bandOf 14 = .ok (.iload_n 3, 1) := by decide +kernel
theorem dX8_bandOf_15 : decode cX8_bandOf 15 = .ok (.iload_n 1, 1) := by decide +kernel
theorem dX8_bandOf_16 : decode cX8_bandOf 16 = .ok (.invokevirtual 162, 3) := by decide +kernel
theorem dX8_bandOf_19 : decode cX8_bandOf 19 = .ok (.ifCond .eq 7, 3) := by decide +kernel
theorem dX8_bandOf_22 : decode cX8_bandOf 22 = .ok (.iconst 1, 1) := by decide +kernel
theorem dX8_bandOf_23 : decode cX8_bandOf 23 = .ok (.goto 4, 3) := by decide +kernel
theorem dX8_bandOf_26 : decode cX8_bandOf 26 = .ok (.iconst 0, 1) := by decide +kernel
theorem dX8_bandOf_27 : decode cX8_bandOf 27 = .ok (.iadd, 1) := by decide +kernel
theorem dX8_bandOf_28 : decode cX8_bandOf 28 = .ok (.istore_n 2, 1) := by decide +kernel
theorem dX8_bandOf_29 : decode cX8_bandOf 29 = .ok (.iinc 3 1, 3) := by decide +kernel
theorem dX8_bandOf_32 : decode cX8_bandOf 32 = .ok (.goto (-28), 3) := by decide +kernel
theorem dX8_bandOf_35 : decode cX8_bandOf 35 = .ok (.iload_n 2, 1) := by decide +kernel
theorem dX8_bandOf_36 : decode cX8_bandOf 36 = .ok (.ireturn, 1) := by decide +kernel
theorem dX8_bands_0 : decode cX8_bands 0 = .ok (.aload_n 0, 1) := by decide +kernel
theorem dX8_bands_1 : decode cX8_bands 1 = .ok (.iconst 1, 1) := by decide +kernel
theorem dX8_bands_2 : decode cX8_bands 2 = .ok (.invokevirtual 166, 3) := by decide +kernel
theorem dX8_bands_5 : decode cX8_bands 5 = .ok (.aload_n 0, 1) := by decide +kernel
theorem dX8_bands_6 : decode cX8_bands 6 = .ok (.iconst 0, 1) := by decide +kernel
theorem dX8_bands_7 : decode cX8_bands 7 = .ok (.invokevirtual 166, 3) := by decide +kernel
theorem dX8_bands_10 : decode cX8_bands 10 = .ok (.iadd, 1) := by decide +kernel
theorem dX8_bands_11 : decode cX8_bands 11 = .ok (.ireturn, 1) := by decide +kernel
theorem dX8_betters_0 : decode cX8_betters 0 = .ok (.aload_n 0, 1) := by decide +kernel
theorem dX8_betters_1 : decode cX8_betters 1 = .ok (.getfield 22, 3) := by decide +kernel
theorem dX8_betters_4 : decode cX8_betters 4 = .ok (.iload_n 1, 1) := by decide +kernel
theorem dX8_betters_5 : decode cX8_betters 5 = .ok (.iaload, 1) := by decide +kernel
theorem dX8_betters_6 : decode cX8_betters 6 = .ok (.istore_n 2, 1) := by decide +kernel
theorem dX8_betters_7 : decode cX8_betters 7 = .ok (.iconst (-1), 1) := by decide +kernel
theorem dX8_betters_8 : decode cX8_betters 8 = .ok (.istore_n 3, 1) := by decide +kernel
theorem dX8_betters_9 : decode cX8_betters 9 = .ok (.iconst 0, 1) := by decide +kernel
theorem dX8_betters_10 : decode cX8_betters 10 = .ok (.istore 4, 2) := by decide +kernel
theorem dX8_betters_12 : decode cX8_betters 12 = .ok (.iconst 0, 1) := by decide +kernel
theorem dX8_betters_13 : decode cX8_betters 13 = .ok (.istore 5, 2) := by decide +kernel
theorem dX8_betters_15 : decode cX8_betters 15 = .ok (.iload 5, 2) := by decide +kernel
theorem dX8_betters_17 : decode cX8_betters 17 = .ok (.aload_n 0, 1) := by decide +kernel
theorem dX8_betters_18 : decode cX8_betters 18 = .ok (.getfield 83, 3) := by decide +kernel
theorem dX8_betters_21 : decode cX8_betters 21 = .ok (.if_icmp .ge 51, 3) := by decide +kernel
theorem dX8_betters_24 : decode cX8_betters 24 = .ok (.aload_n 0, 1) := by decide +kernel
theorem dX8_betters_25 : decode cX8_betters 25 = .ok (.getfield 22, 3) := by decide +kernel
theorem dX8_betters_28 : decode cX8_betters 28 = .ok (.iload_n 1, 1) := by decide +kernel
theorem dX8_betters_29 : decode cX8_betters 29 = .ok (.iload 5, 2) := by decide +kernel
theorem dX8_betters_31 : decode cX8_betters 31 = .ok (.iastore, 1) := by decide +kernel
theorem dX8_betters_32 : decode cX8_betters 32 = .ok (.aload_n 0, 1) := by decide +kernel
theorem dX8_betters_33 : decode cX8_betters 33 = .ok (.invokevirtual 170, 3) := by decide +kernel
theorem dX8_betters_36 : decode cX8_betters 36 = .ok (.istore 6, 2) := by decide +kernel
theorem dX8_betters_38 : decode cX8_betters 38 = .ok (.iload 6, 2) := by decide +kernel
theorem dX8_betters_40 : decode cX8_betters 40 = .ok (.iload_n 3, 1) := by decide +kernel
theorem dX8_betters_41 : decode cX8_betters 41 = .ok (.if_icmp .le 8, 3) := by decide +kernel
theorem dX8_betters_44 : decode cX8_betters 44 = .ok (.iload 5, 2) := by decide +kernel
theorem dX8_betters_46 : decode cX8_betters 46 = .ok (.goto 5, 3) := by decide +kernel
theorem dX8_betters_49 : decode cX8_betters 49 = .ok (.iload 4, 2) := by decide +kernel
theorem dX8_betters_51 : decode cX8_betters 51 = .ok (.istore 4, 2) := by decide +kernel
theorem dX8_betters_53 : decode cX8_betters 53 = .ok (.iload 6, 2) := by decide +kernel
theorem dX8_betters_55 : decode cX8_betters 55 = .ok (.iload_n 3, 1) := by decide +kernel
theorem dX8_betters_56 : decode cX8_betters 56 = .ok (.if_icmp .le 8, 3) := by decide +kernel
theorem dX8_betters_59 : decode cX8_betters 59 = .ok (.iload 6, 2) := by decide +kernel
theorem dX8_betters_61 : decode cX8_betters 61 = .ok (.goto 4, 3) := by decide +kernel
theorem dX8_betters_64 : decode cX8_betters 64 = .ok (.iload_n 3, 1) := by decide +kernel
theorem dX8_betters_65 : decode cX8_betters 65 = .ok (.istore_n 3, 1) := by decide +kernel
theorem dX8_betters_66 : decode cX8_betters 66 = .ok (.iinc 5 1, 3) := by decide +kernel
theorem dX8_betters_69 : decode cX8_betters 69 = .ok (.goto (-54), 3) := by decide +kernel
theorem dX8_betters_72 : decode cX8_betters 72 = .ok (.aload_n 0, 1) := by decide +kernel
theorem dX8_betters_73 : decode cX8_betters 73 = .ok (.getfield 22, 3) := by decide +kernel
theorem dX8_betters_76 : decode cX8_betters 76 = .ok (.iload_n 1, 1) := by decide +kernel
theorem dX8_betters_77 : decode cX8_betters 77 = .ok (.iload 4, 2) := by decide +kernel
theorem dX8_betters_79 : decode cX8_betters 79 = .ok (.iastore, 1) := by decide +kernel
theorem dX8_betters_80 : decode cX8_betters 80 = .ok (.iload 4, 2) := by decide +kernel
theorem dX8_betters_82 : decode cX8_betters 82 = .ok (.iload_n 2, 1) := by decide +kernel
theorem dX8_betters_83 : decode cX8_betters 83 = .ok (.if_icmp .eq 7, 3) := by decide +kernel
theorem dX8_betters_86 : decode cX8_betters 86 = .ok (.iconst 1, 1) := by decide +kernel
theorem dX8_betters_87 : decode cX8_betters 87 = .ok (.goto 4, 3) := by decide +kernel
theorem dX8_betters_90 : decode cX8_betters 90 = .ok (.iconst 0, 1) := by decide +kernel
theorem dX8_betters_91 : decode cX8_betters 91 = .ok (.ireturn, 1) := by decide +kernel
theorem dX8_improve_0 : decode cX8_improve 0 = .ok (.aload_n 0, 1) := by decide +kernel
theorem dX8_improve_1 : decode cX8_improve 1 = .ok (.aload_n 0, 1) := by decide +kernel
theorem dX8_improve_2 : decode cX8_improve 2 = .ok (.invokevirtual 174, 3) := by decide +kernel
theorem dX8_improve_5 : decode cX8_improve 5 = .ok (.ifCond .eq 10, 3) := by decide +kernel
theorem dX8_improve_8 : decode cX8_improve 8 = .ok (.aload_n 0, 1) := by decide +kernel
theorem dX8_improve_9 : decode cX8_improve 9 = .ok (.getfield 86, 3) := by decide +kernel
theorem dX8_improve_12 : decode cX8_improve 12 = .ok (.ifCond .eq 7, 3) := by decide +kernel
theorem dX8_improve_15 : decode cX8_improve 15 = .ok (.iconst 1, 1) := by decide +kernel
theorem dX8_improve_16 : decode cX8_improve 16 = .ok (.goto 4, 3) := by decide +kernel
theorem dX8_improve_19 : decode cX8_improve 19 = .ok (.iconst 0, 1) := by decide +kernel
theorem dX8_improve_20 : decode cX8_improve 20 = .ok (.invokevirtual 102, 3) := by decide +kernel
theorem dX8_improve_23 : decode cX8_improve 23 = .ok (.ifCond .ne 5, 3) := by decide +kernel
theorem dX8_improve_26 : decode cX8_improve 26 = .ok (.iconst 0, 1) := by decide +kernel
theorem dX8_improve_27 : decode cX8_improve 27 = .ok (.ireturn, 1) := by decide +kernel
theorem dX8_improve_28 : decode cX8_improve 28 = .ok (.iconst 1, 1) := by decide +kernel
theorem dX8_improve_29 : decode cX8_improve 29 = .ok (.istore_n 1, 1) := by decide +kernel
theorem dX8_improve_30 : decode cX8_improve 30 = .ok (.iconst 0, 1) := by decide +kernel
theorem dX8_improve_31 : decode cX8_improve 31 = .ok (.istore_n 2, 1) := by decide +kernel
theorem dX8_improve_32 : decode cX8_improve 32 = .ok (.iload_n 2, 1) := by decide +kernel
theorem dX8_improve_33 : decode cX8_improve 33 = .ok (.bipush 10, 2) := by decide +kernel
theorem dX8_improve_35 : decode cX8_improve 35 = .ok (.if_icmp .ge 49, 3) := by decide +kernel
theorem dX8_improve_38 : decode cX8_improve 38 = .ok (.iload_n 1, 1) := by decide +kernel
theorem dX8_improve_39 : decode cX8_improve 39 = .ok (.ifCond .eq 45, 3) := by decide +kernel
theorem dX8_improve_42 : decode cX8_improve 42 = .ok (.iconst 0, 1) := by decide +kernel
theorem dX8_improve_43 : decode cX8_improve 43 = .ok (.istore_n 1, 1) := by decide +kernel
theorem dX8_improve_44 : decode cX8_improve 44 = .ok (.iconst 1, 1) := by decide +kernel
theorem dX8_improve_45 : decode cX8_improve 45 = .ok (.istore_n 3, 1) := by decide +kernel
theorem dX8_improve_46 : decode cX8_improve 46 = .ok (.iload_n 3, 1) := by decide +kernel
theorem dX8_improve_47 : decode cX8_improve 47 = .ok (.aload_n 0, 1) := by decide +kernel
theorem dX8_improve_48 : decode cX8_improve 48 = .ok (.getfield 76, 3) := by decide +kernel
theorem dX8_improve_51 : decode cX8_improve 51 = .ok (.if_icmp .ge 27, 3) := by decide +kernel
theorem dX8_improve_54 : decode cX8_improve 54 = .ok (.aload_n 0, 1) := by decide +kernel
theorem dX8_improve_55 : decode cX8_improve 55 = .ok (.iload_n 3, 1) := by decide +kernel
theorem dX8_improve_56 : decode cX8_improve 56 = .ok (.invokevirtual 178, 3) := by decide +kernel
theorem dX8_improve_59 : decode cX8_improve 59 = .ok (.ifCond .ne 7, 3) := by decide +kernel
theorem dX8_improve_62 : decode cX8_improve 62 = .ok (.iload_n 1, 1) := by decide +kernel
theorem dX8_improve_63 : decode cX8_improve 63 = .ok (.ifCond .eq 7, 3) := by decide +kernel
theorem dX8_improve_66 : decode cX8_improve 66 = .ok (.iconst 1, 1) := by decide +kernel
theorem dX8_improve_67 : decode cX8_improve 67 = .ok (.goto 4, 3) := by decide +kernel
theorem dX8_improve_70 : decode cX8_improve 70 = .ok (.iconst 0, 1) := by decide +kernel
theorem dX8_improve_71 : decode cX8_improve 71 = .ok (.istore_n 1, 1) := by decide +kernel
theorem dX8_improve_72 : decode cX8_improve 72 = .ok (.iinc 3 1, 3) := by decide +kernel
theorem dX8_improve_75 : decode cX8_improve 75 = .ok (.goto (-29), 3) := by decide +kernel
theorem dX8_improve_78 : decode cX8_improve 78 = .ok (.iinc 2 1, 3) := by decide +kernel
theorem dX8_improve_81 : decode cX8_improve 81 = .ok (.goto (-49), 3) := by decide +kernel
theorem dX8_improve_84 : decode cX8_improve 84 = .ok (.aload_n 0, 1) := by decide +kernel
theorem dX8_improve_85 : decode cX8_improve 85 = .ok (.invokevirtual 170, 3) := by decide +kernel
theorem dX8_improve_88 : decode cX8_improve 88 = .ok (.ireturn, 1) := by decide +kernel
theorem dX8_junctions_0 : decode cX8_junctions 0 = .ok (.aload_n 0, 1) := by decide +kernel
theorem dX8_junctions_1 : decode cX8_junctions 1 = .ok (.iconst 0, 1) := by decide +kernel
theorem dX8_junctions_2 : decode cX8_junctions 2 = .ok (.putfield 72, 3) := by decide +kernel
theorem dX8_junctions_5 : decode cX8_junctions 5 = .ok (.aload_n 0, 1) := by decide +kernel
theorem dX8_junctions_6 : decode cX8_junctions 6 = .ok (.getfield 76, 3) := by decide +kernel
theorem dX8_junctions_9 : decode cX8_junctions 9 = .ok (.ireturn, 1) := by decide +kernel
theorem dX8_isPlanned_0 : decode cX8_isPlanned 0 = .ok (.aload_n 0, 1) := by decide +kernel
theorem dX8_isPlanned_1 : decode cX8_isPlanned 1 = .ok (.iload_n 1, 1) := by decide +kernel
theorem dX8_isPlanned_2 : decode cX8_isPlanned 2 = .ok (.invokevirtual 144, 3) := by decide +kernel
theorem dX8_isPlanned_5 : decode cX8_isPlanned 5 = .ok (.aload_n 0, 1) := by decide +kernel
theorem dX8_isPlanned_6 : decode cX8_isPlanned 6 = .ok (.getfield 37, 3) := by decide +kernel
theorem dX8_isPlanned_9 : decode cX8_isPlanned 9 = .ok (.iload_n 1, 1) := by decide +kernel
theorem dX8_isPlanned_10 : decode cX8_isPlanned 10 = .ok (.baload, 1) := by decide +kernel
theorem dX8_isPlanned_11 : decode cX8_isPlanned 11 = .ok (.ireturn, 1) := by decide +kernel
theorem dX8_hasPlan_0 : decode cX8_hasPlan 0 = .ok (.aload_n 0, 1) := by decide +kernel
theorem dX8_hasPlan_1 : decode cX8_hasPlan 1 = .ok (.aload_n 0, 1) := by decide +kernel
theorem dX8_hasPlan_2 : decode cX8_hasPlan 2 = .ok (.iload_n 1, 1) := by decide +kernel
theorem dX8_hasPlan_3 : decode cX8_hasPlan 3 = .ok (.invokevirtual 118, 3) := by decide +kernel
theorem dX8_hasPlan_6 : decode cX8_hasPlan 6 = .ok (.ifCond .eq 7, 3) := by decide +kernel
theorem dX8_hasPlan_9 : decode cX8_hasPlan 9 = .ok (.iconst 0, 1) := by decide +kernel
theorem dX8_hasPlan_10 : decode cX8_hasPlan 10 = .ok (.goto 4, 3) := by decide +kernel
theorem dX8_hasPlan_13 : decode cX8_hasPlan 13 = .ok (.iconst 1, 1) := by decide +kernel
theorem dX8_hasPlan_14 : decode cX8_hasPlan 14 = .ok (.invokevirtual 102, 3) := by decide +kernel
theorem dX8_hasPlan_17 : decode cX8_hasPlan 17 = .ok (.ifCond .eq 15, 3) := by decide +kernel
theorem dX8_hasPlan_20 : decode cX8_hasPlan 20 = .ok (.aload_n 0, 1) := by decide +kernel
theorem dX8_hasPlan_21 : decode cX8_hasPlan 21 = .ok (.iload_n 1, 1) := by decide +kernel
theorem dX8_hasPlan_22 : decode cX8_hasPlan 22 = .ok (.invokevirtual 181, 3) := by decide +kernel
theorem dX8_hasPlan_25 : decode cX8_hasPlan 25 = .ok (.ifCond .eq 7, 3) := by decide +kernel
theorem dX8_hasPlan_28 : decode cX8_hasPlan 28 = .ok (.iconst 1, 1) := by decide +kernel
theorem dX8_hasPlan_29 : decode cX8_hasPlan 29 = .ok (.goto 4, 3) := by decide +kernel
theorem dX8_hasPlan_32 : decode cX8_hasPlan 32 = .ok (.iconst 0, 1) := by decide +kernel
theorem dX8_hasPlan_33 : decode cX8_hasPlan 33 = .ok (.ireturn, 1) := by decide +kernel
theorem dX8_isPhase_0 : decode cX8_isPhase 0 = .ok (.aload_n 0, 1) := by decide +kernel
theorem dX8_isPhase_1 : decode cX8_isPhase 1 = .ok (.iload_n 1, 1) := by decide +kernel
theorem dX8_isPhase_2 : decode cX8_isPhase 2 = .ok (.invokevirtual 118, 3) := by decide +kernel
theorem dX8_isPhase_5 : decode cX8_isPhase 5 = .ok (.ifCond .eq 23, 3) := by decide +kernel
theorem dX8_isPhase_8 : decode cX8_isPhase 8 = .ok (.iload_n 2, 1) := by decide +kernel
theorem dX8_isPhase_9 : decode cX8_isPhase 9 = .ok (.iconst 0, 1) := by decide +kernel
theorem dX8_isPhase_10 : decode cX8_isPhase 10 = .ok (.aload_n 0, 1) := by decide +kernel
theorem dX8_isPhase_11 : decode cX8_isPhase 11 = .ok (.getfield 16, 3) := by decide +kernel
theorem dX8_isPhase_14 : decode cX8_isPhase 14 = .ok (.iload_n 1, 1) := by decide +kernel
theorem dX8_isPhase_15 : decode cX8_isPhase 15 = .ok (.iaload, 1) := by decide +kernel
theorem dX8_isPhase_16 : decode cX8_isPhase 16 = .ok (.iconst 1, 1) := by decide +kernel
theorem dX8_isPhase_17 : decode cX8_isPhase 17 = .ok (.isub, 1) := by decide +kernel
theorem dX8_isPhase_18 : decode cX8_isPhase 18 = .ok (.invokestatic 79, 3) := by decide +kernel
theorem dX8_isPhase_21 : decode cX8_isPhase 21 = .ok (.ifCond .eq 7, 3) := by decide +kernel
theorem dX8_isPhase_24 : decode cX8_isPhase 24 = .ok (.iconst 1, 1) := by decide +kernel
theorem dX8_isPhase_25 : decode cX8_isPhase 25 = .ok (.goto 4, 3) := by decide +kernel
theorem dX8_isPhase_28 : decode cX8_isPhase 28 = .ok (.iconst 0, 1) := by decide +kernel
theorem dX8_isPhase_29 : decode cX8_isPhase 29 = .ok (.ireturn, 1) := by decide +kernel
theorem dX8_green_0 : decode cX8_green 0 = .ok (.aload_n 0, 1) := by decide +kernel
theorem dX8_green_1 : decode cX8_green 1 = .ok (.aload_n 0, 1) := by decide +kernel
theorem dX8_green_2 : decode cX8_green 2 = .ok (.iload_n 1, 1) := by decide +kernel
theorem dX8_green_3 : decode cX8_green 3 = .ok (.iload_n 2, 1) := by decide +kernel
theorem dX8_green_4 : decode cX8_green 4 = .ok (.invokevirtual 184, 3) := by decide +kernel
theorem dX8_green_7 : decode cX8_green 7 = .ok (.ifCond .ne 7, 3) := by decide +kernel
theorem dX8_green_10 : decode cX8_green 10 = .ok (.iconst 1, 1) := by decide +kernel
theorem dX8_green_11 : decode cX8_green 11 = .ok (.goto 16, 3) := by decide +kernel
theorem dX8_green_14 : decode cX8_green 14 = .ok (.aload_n 0, 1) := by decide +kernel
theorem dX8_green_15 : decode cX8_green 15 = .ok (.iload_n 1, 1) := by decide +kernel
theorem dX8_green_16 : decode cX8_green 16 = .ok (.invokevirtual 181, 3) := by decide +kernel
theorem dX8_green_19 : decode cX8_green 19 = .ok (.ifCond .eq 7, 3) := by decide +kernel
theorem dX8_green_22 : decode cX8_green 22 = .ok (.iconst 0, 1) := by decide +kernel
theorem dX8_green_23 : decode cX8_green 23 = .ok (.goto 4, 3) := by decide +kernel
theorem dX8_green_26 : decode cX8_green 26 = .ok (.iconst 2, 1) := by decide +kernel
theorem dX8_green_27 : decode cX8_green 27 = .ok (.invokevirtual 102, 3) := by decide +kernel
theorem dX8_green_30 : decode cX8_green 30 = .ok (.ifCond .eq 16, 3) := by decide +kernel
theorem dX8_green_33 : decode cX8_green 33 = .ok (.aload_n 0, 1) := by decide +kernel
theorem dX8_green_34 : decode cX8_green 34 = .ok (.getfield 31, 3) := by decide +kernel
theorem dX8_green_37 : decode cX8_green 37 = .ok (.iconst 4, 1) := by decide +kernel
theorem dX8_green_38 : decode cX8_green 38 = .ok (.iload_n 1, 1) := by decide +kernel
theorem dX8_green_39 : decode cX8_green 39 = .ok (.imul, 1) := by decide +kernel
theorem dX8_green_40 : decode cX8_green 40 = .ok (.iload_n 2, 1) := by decide +kernel
theorem dX8_green_41 : decode cX8_green 41 = .ok (.iadd, 1) := by decide +kernel
theorem dX8_green_42 : decode cX8_green 42 = .ok (.iaload, 1) := by decide +kernel
theorem dX8_green_43 : decode cX8_green 43 = .ok (.goto 4, 3) := by decide +kernel
theorem dX8_green_46 : decode cX8_green 46 = .ok (.iconst 0, 1) := by decide +kernel
theorem dX8_green_47 : decode cX8_green 47 = .ok (.ireturn, 1) := by decide +kernel
theorem dX8_clearing_0 : decode cX8_clearing 0 = .ok (.aload_n 0, 1) := by decide +kernel
theorem dX8_clearing_1 : decode cX8_clearing 1 = .ok (.aload_n 0, 1) := by decide +kernel
theorem dX8_clearing_2 : decode cX8_clearing 2 = .ok (.iload_n 1, 1) := by decide +kernel
theorem dX8_clearing_3 : decode cX8_clearing 3 = .ok (.iload_n 2, 1) := by decide +kernel
theorem dX8_clearing_4 : decode cX8_clearing 4 = .ok (.invokevirtual 184, 3) := by decide +kernel
theorem dX8_clearing_7 : decode cX8_clearing 7 = .ok (.ifCond .eq 7, 3) := by decide +kernel
theorem dX8_clearing_10 : decode cX8_clearing 10 = .ok (.iconst 0, 1) := by decide +kernel
theorem dX8_clearing_11 : decode cX8_clearing 11 = .ok (.goto 4, 3) := by decide +kernel
theorem dX8_clearing_14 : decode cX8_clearing 14 = .ok (.iconst 1, 1) := by decide +kernel
theorem dX8_clearing_15 : decode cX8_clearing 15 = .ok (.invokevirtual 102, 3) := by decide +kernel
theorem dX8_clearing_18 : decode cX8_clearing 18 = .ok (.ifCond .eq 12, 3) := by decide +kernel
theorem dX8_clearing_21 : decode cX8_clearing 21 = .ok (.aload_n 0, 1) := by decide +kernel
theorem dX8_clearing_22 : decode cX8_clearing 22 = .ok (.iload_n 1, 1) := by decide +kernel
theorem dX8_clearing_23 : decode cX8_clearing 23 = .ok (.iload_n 2, 1) := by decide +kernel
theorem dX8_clearing_24 : decode cX8_clearing 24 = .ok (.invokevirtual 134, 3) := by decide +kernel
theorem dX8_clearing_27 : decode cX8_clearing 27 = .ok (.goto 4, 3) := by decide +kernel
theorem dX8_clearing_30 : decode cX8_clearing 30 = .ok (.iconst 0, 1) := by decide +kernel
theorem dX8_clearing_31 : decode cX8_clearing 31 = .ok (.ireturn, 1) := by decide +kernel
theorem dX8_offset_0 : decode cX8_offset 0 = .ok (.aload_n 0, 1) := by decide +kernel
theorem dX8_offset_1 : decode cX8_offset 1 = .ok (.aload_n 0, 1) := by decide +kernel
theorem dX8_offset_2 : decode cX8_offset 2 = .ok (.iload_n 1, 1) := by decide +kernel
theorem dX8_offset_3 : decode cX8_offset 3 = .ok (.invokevirtual 118, 3) := by decide +kernel
theorem dX8_offset_6 : decode cX8_offset 6 = .ok (.ifCond .eq 7, 3) := by decide +kernel
theorem dX8_offset_9 : decode cX8_offset 9 = .ok (.iconst 0, 1) := by decide +kernel
theorem dX8_offset_10 : decode cX8_offset 10 = .ok (.goto 4, 3) := by decide +kernel
theorem dX8_offset_13 : decode cX8_offset 13 = .ok (.iconst 1, 1) := by decide +kernel
theorem dX8_offset_14 : decode cX8_offset 14 = .ok (.invokevirtual 102, 3) := by decide +kernel
theorem dX8_offset_17 : decode cX8_offset 17 = .ok (.ifCond .eq 12, 3) := by decide +kernel
theorem dX8_offset_20 : decode cX8_offset 20 = .ok (.aload_n 0, 1) := by decide +kernel
theorem dX8_offset_21 : decode cX8_offset 21 = .ok (.getfield 22, 3) := by decide +kernel
theorem dX8_offset_24 : decode cX8_offset 24 = .ok (.iload_n 1, 1) := by decide +kernel
theorem dX8_offset_25 : decode cX8_offset 25 = .ok (.iaload, 1) := by decide +kernel
theorem dX8_offset_26 : decode cX8_offset 26 = .ok (.goto 4, 3) := by decide +kernel
theorem dX8_offset_29 : decode cX8_offset 29 = .ok (.iconst 0, 1) := by decide +kernel
theorem dX8_offset_30 : decode cX8_offset 30 = .ok (.ireturn, 1) := by decide +kernel
theorem dX8_isGreen_0 : decode cX8_isGreen 0 = .ok (.aload_n 0, 1) := by decide +kernel
theorem dX8_isGreen_1 : decode cX8_isGreen 1 = .ok (.iload_n 1, 1) := by decide +kernel
theorem dX8_isGreen_2 : decode cX8_isGreen 2 = .ok (.invokevirtual 118, 3) := by decide +kernel
theorem dX8_isGreen_5 : decode cX8_isGreen 5 = .ok (.ifCond .eq 14, 3) := by decide +kernel
theorem dX8_isGreen_8 : decode cX8_isGreen 8 = .ok (.iload_n 2, 1) := by decide +kernel
theorem dX8_isGreen_9 : decode cX8_isGreen 9 = .ok (.invokestatic 121, 3) := by decide +kernel
theorem dX8_isGreen_12 : decode cX8_isGreen 12 = .ok (.ifCond .eq 7, 3) := by decide +kernel
theorem dX8_isGreen_15 : decode cX8_isGreen 15 = .ok (.iconst 1, 1) := by decide +kernel
theorem dX8_isGreen_16 : decode cX8_isGreen 16 = .ok (.goto 4, 3) := by decide +kernel
theorem dX8_isGreen_19 : decode cX8_isGreen 19 = .ok (.iconst 0, 1) := by decide +kernel
theorem dX8_isGreen_20 : decode cX8_isGreen 20 = .ok (.istore 4, 2) := by decide +kernel
theorem dX8_isGreen_22 : decode cX8_isGreen 22 = .ok (.aload_n 0, 1) := by decide +kernel
theorem dX8_isGreen_23 : decode cX8_isGreen 23 = .ok (.iload 4, 2) := by decide +kernel
theorem dX8_isGreen_25 : decode cX8_isGreen 25 = .ok (.ifCond .ne 7, 3) := by decide +kernel
theorem dX8_isGreen_28 : decode cX8_isGreen 28 = .ok (.iconst 1, 1) := by decide +kernel
theorem dX8_isGreen_29 : decode cX8_isGreen 29 = .ok (.goto 30, 3) := by decide +kernel
theorem dX8_isGreen_32 : decode cX8_isGreen 32 = .ok (.iload_n 3, 1) := by decide +kernel
theorem dX8_isGreen_33 : decode cX8_isGreen 33 = .ok (.iconst 0, 1) := by decide +kernel
theorem dX8_isGreen_34 : decode cX8_isGreen 34 = .ok (.ldc 187, 2) := by decide +kernel
theorem dX8_isGreen_36 : decode cX8_isGreen 36 = .ok (.invokestatic 79, 3) := by decide +kernel
theorem dX8_isGreen_39 : decode cX8_isGreen 39 = .ok (.ifCond .ne 7, 3) := by decide +kernel
theorem dX8_isGreen_42 : decode cX8_isGreen 42 = .ok (.iconst 2, 1) := by decide +kernel
theorem dX8_isGreen_43 : decode cX8_isGreen 43 = .ok (.goto 16, 3) := by decide +kernel
theorem dX8_isGreen_46 : decode cX8_isGreen 46 = .ok (.aload_n 0, 1) := by decide +kernel
theorem dX8_isGreen_47 : decode cX8_isGreen 47 = .ok (.iload_n 1, 1) := by decide +kernel
theorem dX8_isGreen_48 : decode cX8_isGreen 48 = .ok (.invokevirtual 181, 3) := by decide +kernel
theorem dX8_isGreen_51 : decode cX8_isGreen 51 = .ok (.ifCond .eq 7, 3) := by decide +kernel
theorem dX8_isGreen_54 : decode cX8_isGreen 54 = .ok (.iconst 0, 1) := by decide +kernel
theorem dX8_isGreen_55 : decode cX8_isGreen 55 = .ok (.goto 4, 3) := by decide +kernel
theorem dX8_isGreen_58 : decode cX8_isGreen 58 = .ok (.iconst 3, 1) := by decide +kernel
theorem dX8_isGreen_59 : decode cX8_isGreen 59 = .ok (.invokevirtual 102, 3) := by decide +kernel
theorem dX8_isGreen_62 : decode cX8_isGreen 62 = .ok (.ifCond .eq 18, 3) := by decide +kernel
theorem dX8_isGreen_65 : decode cX8_isGreen 65 = .ok (.aload_n 0, 1) := by decide +kernel
theorem dX8_isGreen_66 : decode cX8_isGreen 66 = .ok (.iload_n 1, 1) := by decide +kernel
theorem dX8_isGreen_67 : decode cX8_isGreen 67 = .ok (.iload_n 2, 1) := by decide +kernel
theorem dX8_isGreen_68 : decode cX8_isGreen 68 = .ok (.iload_n 3, 1) := by decide +kernel
theorem dX8_isGreen_69 : decode cX8_isGreen 69 = .ok (.iconst 0, 1) := by decide +kernel
theorem dX8_isGreen_70 : decode cX8_isGreen 70 = .ok (.invokevirtual 158, 3) := by decide +kernel
theorem dX8_isGreen_73 : decode cX8_isGreen 73 = .ok (.ifCond .eq 7, 3) := by decide +kernel
theorem dX8_isGreen_76 : decode cX8_isGreen 76 = .ok (.iconst 1, 1) := by decide +kernel
theorem dX8_isGreen_77 : decode cX8_isGreen 77 = .ok (.goto 4, 3) := by decide +kernel
theorem dX8_isGreen_80 : decode cX8_isGreen 80 = .ok (.iconst 0, 1) := by decide +kernel
theorem dX8_isGreen_81 : decode cX8_isGreen 81 = .ok (.ireturn, 1) := by decide +kernel
theorem dX8_isBreach_0 : decode cX8_isBreach 0 = .ok (.iconst 0, 1) := by decide +kernel
theorem dX8_isBreach_1 : decode cX8_isBreach 1 = .ok (.istore_n 3, 1) := by decide +kernel
theorem dX8_isBreach_2 : decode cX8_isBreach 2 = .ok (.iload_n 3, 1) := by decide +kernel
theorem dX8_isBreach_3 : decode cX8_isBreach 3 = .ok (.bipush 16, 2) := by decide +kernel
theorem dX8_isBreach_5 : decode cX8_isBreach 5 = .ok (.if_icmp .ge 69, 3) := by decide +kernel
theorem dX8_isBreach_8 : decode cX8_isBreach 8 = .ok (.aload_n 0, 1) := by decide +kernel
theorem dX8_isBreach_9 : decode cX8_isBreach 9 = .ok (.getfield 7, 3) := by decide +kernel
theorem dX8_isBreach_12 : decode cX8_isBreach 12 = .ok (.bipush 16, 2) := by decide +kernel
theorem dX8_isBreach_14 : decode cX8_isBreach 14 = .ok (.iload_n 1, 1) := by decide +kernel
theorem dX8_isBreach_15 : decode cX8_isBreach 15 = .ok (.imul, 1) := by decide +kernel
theorem dX8_isBreach_16 : decode cX8_isBreach 16 = .ok (.iload_n 3, 1) := by decide +kernel
theorem dX8_isBreach_17 : decode cX8_isBreach 17 = .ok (.iadd, 1) := by decide +kernel
theorem dX8_isBreach_18 : decode cX8_isBreach 18 = .ok (.iaload, 1) := by decide +kernel
theorem dX8_isBreach_19 : decode cX8_isBreach 19 = .ok (.istore 4, 2) := by decide +kernel
theorem dX8_isBreach_21 : decode cX8_isBreach 21 = .ok (.iconst 0, 1) := by decide +kernel
theorem dX8_isBreach_22 : decode cX8_isBreach 22 = .ok (.istore 5, 2) := by decide +kernel
theorem dX8_isBreach_24 : decode cX8_isBreach 24 = .ok (.iload 5, 2) := by decide +kernel
theorem dX8_isBreach_26 : decode cX8_isBreach 26 = .ok (.iload 4, 2) := by decide +kernel
theorem dX8_isBreach_28 : decode cX8_isBreach 28 = .ok (.if_icmp .gt 40, 3) := by decide +kernel
theorem dX8_isBreach_31 : decode cX8_isBreach 31 = .ok (.aload_n 0, 1) := by decide +kernel
theorem dX8_isBreach_32 : decode cX8_isBreach 32 = .ok (.iload_n 1, 1) := by decide +kernel
theorem dX8_isBreach_33 : decode cX8_isBreach 33 = .ok (.iload_n 3, 1) := by decide +kernel
theorem dX8_isBreach_34 : decode cX8_isBreach 34 = .ok (.iconst 4, 1) := by decide +kernel
theorem dX8_isBreach_35 : decode cX8_isBreach 35 = .ok (.idiv, 1) := by decide +kernel
theorem dX8_isBreach_36 : decode cX8_isBreach 36 = .ok (.iload_n 2, 1) := by decide +kernel
theorem dX8_isBreach_37 : decode cX8_isBreach 37 = .ok (.iconst 0, 1) := by decide +kernel
theorem dX8_isBreach_38 : decode cX8_isBreach 38 = .ok (.invokevirtual 158, 3) := by decide +kernel
theorem dX8_isBreach_41 : decode cX8_isBreach 41 = .ok (.ifCond .eq 27, 3) := by decide +kernel
theorem dX8_isBreach_44 : decode cX8_isBreach 44 = .ok (.aload_n 0, 1) := by decide +kernel
theorem dX8_isBreach_45 : decode cX8_isBreach 45 = .ok (.iload_n 1, 1) := by decide +kernel
theorem dX8_isBreach_46 : decode cX8_isBreach 46 = .ok (.iload_n 3, 1) := by decide +kernel
theorem dX8_isBreach_47 : decode cX8_isBreach 47 = .ok (.iconst 4, 1) := by decide +kernel
theorem dX8_isBreach_48 : decode cX8_isBreach 48 = .ok (.irem, 1) := by decide +kernel
theorem dX8_isBreach_49 : decode cX8_isBreach 49 = .ok (.iload_n 2, 1) := by decide +kernel
theorem dX8_isBreach_50 : decode cX8_isBreach 50 = .ok (.iload 5, 2) := by decide +kernel
theorem dX8_isBreach_52 : decode cX8_isBreach 52 = .ok (.iadd, 1) := by decide +kernel
theorem dX8_isBreach_53 : decode cX8_isBreach 53 = .ok (.iconst 0, 1) := by decide +kernel
theorem dX8_isBreach_54 : decode cX8_isBreach 54 = .ok (.invokevirtual 158, 3) := by decide +kernel
theorem dX8_isBreach_57 : decode cX8_isBreach 57 = .ok (.ifCond .eq 5, 3) := by decide +kernel
theorem dX8_isBreach_60 : decode cX8_isBreach 60 = .ok (.iconst 1, 1) := by decide +kernel
theorem dX8_isBreach_61 : decode cX8_isBreach 61 = .ok (.ireturn, 1) := by decide +kernel
theorem dX8_isBreach_62 : decode cX8_isBreach 62 = .ok (.iinc 5 1, 3) := by decide +kernel
theorem dX8_isBreach_65 : decode cX8_isBreach 65 = .ok (.goto (-41), 3) := by decide +kernel
theorem dX8_isBreach_68 : decode cX8_isBreach 68 = .ok (.iinc 3 1, 3) := by decide +kernel
theorem dX8_isBreach_71 : decode cX8_isBreach 71 = .ok (.goto (-69), 3) := by decide +kernel
theorem dX8_isBreach_74 : decode cX8_isBreach 74 = .ok (.iconst 0, 1) := by decide +kernel
theorem dX8_isBreach_75 : decode cX8_isBreach 75 = .ok (.ireturn, 1) := by decide +kernel
theorem dX8_breaches_0 : decode cX8_breaches 0 = .ok (.aload_n 0, 1) := by decide +kernel
theorem dX8_breaches_1 : decode cX8_breaches 1 = .ok (.aload_n 0, 1) := by decide +kernel
theorem dX8_breaches_2 : decode cX8_breaches 2 = .ok (.iload_n 1, 1) := by decide +kernel
theorem dX8_breaches_3 : decode cX8_breaches 3 = .ok (.invokevirtual 118, 3) := by decide +kernel
theorem dX8_breaches_6 : decode cX8_breaches 6 = .ok (.ifCond .ne 7, 3) := by decide +kernel
theorem dX8_breaches_9 : decode cX8_breaches 9 = .ok (.iconst 1, 1) := by decide +kernel
theorem dX8_breaches_10 : decode cX8_breaches 10 = .ok (.goto 16, 3) := by decide +kernel
theorem dX8_breaches_13 : decode cX8_breaches 13 = .ok (.aload_n 0, 1) := by decide +kernel
theorem dX8_breaches_14 : decode cX8_breaches 14 = .ok (.iload_n 1, 1) := by decide +kernel
theorem dX8_breaches_15 : decode cX8_breaches 15 = .ok (.invokevirtual 181, 3) := by decide +kernel
theorem dX8_breaches_18 : decode cX8_breaches 18 = .ok (.ifCond .eq 7, 3) := by decide +kernel
theorem dX8_breaches_21 : decode cX8_breaches 21 = .ok (.iconst 0, 1) := by decide +kernel
theorem dX8_breaches_22 : decode cX8_breaches 22 = .ok (.goto 4, 3) := by decide +kernel
theorem dX8_breaches_25 : decode cX8_breaches 25 = .ok (.iconst 2, 1) := by decide +kernel
theorem dX8_breaches_26 : decode cX8_breaches 26 = .ok (.invokevirtual 102, 3) := by decide +kernel
theorem dX8_breaches_29 : decode cX8_breaches 29 = .ok (.ifCond .ne 5, 3) := by decide +kernel
theorem dX8_breaches_32 : decode cX8_breaches 32 = .ok (.iconst 0, 1) := by decide +kernel
theorem dX8_breaches_33 : decode cX8_breaches 33 = .ok (.ireturn, 1) := by decide +kernel
theorem dX8_breaches_34 : decode cX8_breaches 34 = .ok (.iconst 0, 1) := by decide +kernel
theorem dX8_breaches_35 : decode cX8_breaches 35 = .ok (.istore_n 2, 1) := by decide +kernel
theorem dX8_breaches_36 : decode cX8_breaches 36 = .ok (.iconst 0, 1) := by decide +kernel
theorem dX8_breaches_37 : decode cX8_breaches 37 = .ok (.istore_n 3, 1) := by decide +kernel
theorem dX8_breaches_38 : decode cX8_breaches 38 = .ok (.iload_n 3, 1) := by decide +kernel
theorem dX8_breaches_39 : decode cX8_breaches 39 = .ok (.aload_n 0, 1) := by decide +kernel
theorem dX8_breaches_40 : decode cX8_breaches 40 = .ok (.getfield 83, 3) := by decide +kernel
theorem dX8_breaches_43 : decode cX8_breaches 43 = .ok (.if_icmp .ge 26, 3) := by decide +kernel
theorem dX8_breaches_46 : decode cX8_breaches 46 = .ok (.iload_n 2, 1) := by decide +kernel
theorem dX8_breaches_47 : decode cX8_breaches 47 = .ok (.aload_n 0, 1) := by decide +kernel
theorem dX8_breaches_48 : decode cX8_breaches 48 = .ok (.iload_n 1, 1) := by decide +kernel
theorem dX8_breaches_49 : decode cX8_breaches 49 = .ok (.iload_n 3, 1) := by decide +kernel
theorem dX8_breaches_50 : decode cX8_breaches 50 = .ok (.invokevirtual 188, 3) := by decide +kernel
theorem dX8_breaches_53 : decode cX8_breaches 53 = .ok (.ifCond .eq 7, 3) := by decide +kernel
theorem dX8_breaches_56 : decode cX8_breaches 56 = .ok (.iconst 1, 1) := by decide +kernel
theorem dX8_breaches_57 : decode cX8_breaches 57 = .ok (.goto 4, 3) := by decide +kernel
theorem dX8_breaches_60 : decode cX8_breaches 60 = .ok (.iconst 0, 1) := by decide +kernel
theorem dX8_breaches_61 : decode cX8_breaches 61 = .ok (.iadd, 1) := by decide +kernel
theorem dX8_breaches_62 : decode cX8_breaches 62 = .ok (.istore_n 2, 1) := by decide +kernel
theorem dX8_breaches_63 : decode cX8_breaches 63 = .ok (.iinc 3 1, 3) := by decide +kernel
theorem dX8_breaches_66 : decode cX8_breaches 66 = .ok (.goto (-28), 3) := by decide +kernel
theorem dX8_breaches_69 : decode cX8_breaches 69 = .ok (.iload_n 2, 1) := by decide +kernel
theorem dX8_breaches_70 : decode cX8_breaches 70 = .ok (.ireturn, 1) := by decide +kernel
theorem dX8_band_0 : decode cX8_band 0 = .ok (.aload_n 0, 1) := by decide +kernel
theorem dX8_band_1 : decode cX8_band 1 = .ok (.aload_n 0, 1) := by decide +kernel
theorem dX8_band_2 : decode cX8_band 2 = .ok (.invokevirtual 174, 3) := by decide +kernel
theorem dX8_band_5 : decode cX8_band 5 = .ok (.ifCond .eq 7, 3) := by decide +kernel
theorem dX8_band_8 : decode cX8_band 8 = .ok (.iconst 0, 1) := by decide +kernel
theorem dX8_band_9 : decode cX8_band 9 = .ok (.goto 4, 3) := by decide +kernel
theorem dX8_band_12 : decode cX8_band 12 = .ok (.iconst 1, 1) := by decide +kernel
theorem dX8_band_13 : decode cX8_band 13 = .ok (.invokevirtual 102, 3) := by decide +kernel
theorem dX8_band_16 : decode cX8_band 16 = .ok (.ifCond .eq 11, 3) := by decide +kernel
theorem dX8_band_19 : decode cX8_band 19 = .ok (.aload_n 0, 1) := by decide +kernel
theorem dX8_band_20 : decode cX8_band 20 = .ok (.iload_n 1, 1) := by decide +kernel
theorem dX8_band_21 : decode cX8_band 21 = .ok (.invokevirtual 166, 3) := by decide +kernel
theorem dX8_band_24 : decode cX8_band 24 = .ok (.goto 4, 3) := by decide +kernel
theorem dX8_band_27 : decode cX8_band 27 = .ok (.iconst 0, 1) := by decide +kernel
theorem dX8_band_28 : decode cX8_band 28 = .ok (.ireturn, 1) := by decide +kernel
theorem dX8_bestByAll_0 : decode cX8_bestByAll 0 = .ok (.aload_n 0, 1) := by decide +kernel
theorem dX8_bestByAll_1 : decode cX8_bestByAll 1 = .ok (.aload_n 0, 1) := by decide +kernel
theorem dX8_bestByAll_2 : decode cX8_bestByAll 2 = .ok (.invokevirtual 174, 3) := by decide +kernel
theorem dX8_bestByAll_5 : decode cX8_bestByAll 5 = .ok (.ifCond .eq 11, 3) := by decide +kernel
theorem dX8_bestByAll_8 : decode cX8_bestByAll 8 = .ok (.aload_n 0, 1) := by decide +kernel
theorem dX8_bestByAll_9 : decode cX8_bestByAll 9 = .ok (.getfield 76, 3) := by decide +kernel
theorem dX8_bestByAll_12 : decode cX8_bestByAll 12 = .ok (.iconst 3, 1) := by decide +kernel
theorem dX8_bestByAll_13 : decode cX8_bestByAll 13 = .ok (.if_icmp .le 7, 3) := by decide +kernel
theorem dX8_bestByAll_16 : decode cX8_bestByAll 16 = .ok (.iconst 1, 1) := by decide +kernel
theorem dX8_bestByAll_17 : decode cX8_bestByAll 17 = .ok (.goto 4, 3) := by decide +kernel
theorem dX8_bestByAll_20 : decode cX8_bestByAll 20 = .ok (.iconst 0, 1) := by decide +kernel
theorem dX8_bestByAll_21 : decode cX8_bestByAll 21 = .ok (.invokevirtual 102, 3) := by decide +kernel
theorem dX8_bestByAll_24 : decode cX8_bestByAll 24 = .ok (.ifCond .ne 5, 3) := by decide +kernel
theorem dX8_bestByAll_27 : decode cX8_bestByAll 27 = .ok (.iconst 0, 1) := by decide +kernel
theorem dX8_bestByAll_28 : decode cX8_bestByAll 28 = .ok (.ireturn, 1) := by decide +kernel
theorem dX8_bestByAll_29 : decode cX8_bestByAll 29 = .ok (.aload_n 0, 1) := by decide +kernel
theorem dX8_bestByAll_30 : decode cX8_bestByAll 30 = .ok (.getfield 22, 3) := by decide +kernel
theorem dX8_bestByAll_33 : decode cX8_bestByAll 33 = .ok (.iconst 1, 1) := by decide +kernel
theorem dX8_bestByAll_34 : decode cX8_bestByAll 34 = .ok (.iaload, 1) := by decide +kernel
theorem dX8_bestByAll_35 : decode cX8_bestByAll 35 = .ok (.istore_n 1, 1) := by decide +kernel
theorem dX8_bestByAll_36 : decode cX8_bestByAll 36 = .ok (.aload_n 0, 1) := by decide +kernel
theorem dX8_bestByAll_37 : decode cX8_bestByAll 37 = .ok (.getfield 22, 3) := by decide +kernel
theorem dX8_bestByAll_40 : decode cX8_bestByAll 40 = .ok (.iconst 2, 1) := by decide +kernel
theorem dX8_bestByAll_41 : decode cX8_bestByAll 41 = .ok (.iaload, 1) := by decide +kernel
theorem dX8_bestByAll_42 : decode cX8_bestByAll 42 = .ok (.istore_n 2, 1) := by decide +kernel
theorem dX8_bestByAll_43 : decode cX8_bestByAll 43 = .ok (.iconst 0, 1) := by decide +kernel
theorem dX8_bestByAll_44 : decode cX8_bestByAll 44 = .ok (.istore_n 3, 1) := by decide +kernel
theorem dX8_bestByAll_45 : decode cX8_bestByAll 45 = .ok (.iconst 0, 1) := by decide +kernel
theorem dX8_bestByAll_46 : decode cX8_bestByAll 46 = .ok (.istore 4, 2) := by decide +kernel
theorem dX8_bestByAll_48 : decode cX8_bestByAll 48 = .ok (.iload 4, 2) := by decide +kernel
theorem dX8_bestByAll_50 : decode cX8_bestByAll 50 = .ok (.aload_n 0, 1) := by decide +kernel
theorem dX8_bestByAll_51 : decode cX8_bestByAll 51 = .ok (.getfield 83, 3) := by decide +kernel
theorem dX8_bestByAll_54 : decode cX8_bestByAll 54 = .ok (.aload_n 0, 1) := by decide +kernel
theorem dX8_bestByAll_55 : decode cX8_bestByAll 55 = .ok (.getfield 76, 3) := by decide +kernel
theorem dX8_bestByAll_58 : decode cX8_bestByAll 58 = .ok (.iconst 3, 1) := by decide +kernel
theorem dX8_bestByAll_59 : decode cX8_bestByAll 59 = .ok (.if_icmp .ne 10, 3) := by decide +kernel
theorem dX8_bestByAll_62 : decode cX8_bestByAll 62 = .ok (.aload_n 0, 1) := by decide +kernel
theorem dX8_bestByAll_63 : decode cX8_bestByAll 63 = .ok (.getfield 83, 3) := by decide +kernel
theorem dX8_bestByAll_66 : decode cX8_bestByAll 66 = .ok (.goto 4, 3) := by decide +kernel
theorem dX8_bestByAll_69 : decode cX8_bestByAll 69 = .ok (.iconst 1, 1) := by decide +kernel
theorem dX8_bestByAll_70 : decode cX8_bestByAll 70 = .ok (.imul, 1) := by decide +kernel
theorem dX8_bestByAll_71 : decode cX8_bestByAll 71 = .ok (.if_icmp .ge 54, 3) := by decide +kernel
theorem dX8_bestByAll_74 : decode cX8_bestByAll 74 = .ok (.aload_n 0, 1) := by decide +kernel
theorem dX8_bestByAll_75 : decode cX8_bestByAll 75 = .ok (.getfield 22, 3) := by decide +kernel
theorem dX8_bestByAll_78 : decode cX8_bestByAll 78 = .ok (.iconst 1, 1) := by decide +kernel
theorem dX8_bestByAll_79 : decode cX8_bestByAll 79 = .ok (.iload 4, 2) := by decide +kernel
theorem dX8_bestByAll_81 : decode cX8_bestByAll 81 = .ok (.aload_n 0, 1) := by decide +kernel
theorem dX8_bestByAll_82 : decode cX8_bestByAll 82 = .ok (.getfield 83, 3) := by decide +kernel
theorem dX8_bestByAll_85 : decode cX8_bestByAll 85 = .ok (.irem, 1) := by decide +kernel
theorem dX8_bestByAll_86 : decode cX8_bestByAll 86 = .ok (.iastore, 1) := by decide +kernel
theorem dX8_bestByAll_87 : decode cX8_bestByAll 87 = .ok (.aload_n 0, 1) := by decide +kernel
theorem dX8_bestByAll_88 : decode cX8_bestByAll 88 = .ok (.getfield 22, 3) := by decide +kernel
theorem dX8_bestByAll_91 : decode cX8_bestByAll 91 = .ok (.iconst 2, 1) := by decide +kernel
theorem dX8_bestByAll_92 : decode cX8_bestByAll 92 = .ok (.iload 4, 2) := by decide +kernel
theorem dX8_bestByAll_94 : decode cX8_bestByAll 94 = .ok (.aload_n 0, 1) := by decide +kernel
theorem dX8_bestByAll_95 : decode cX8_bestByAll 95 = .ok (.getfield 83, 3) := by decide +kernel
theorem dX8_bestByAll_98 : decode cX8_bestByAll 98 = .ok (.idiv, 1) := by decide +kernel
theorem dX8_bestByAll_99 : decode cX8_bestByAll 99 = .ok (.iastore, 1) := by decide +kernel
theorem dX8_bestByAll_100 : decode cX8_bestByAll 100 = .ok (.aload_n 0, 1) := by decide +kernel
theorem dX8_bestByAll_101 : decode cX8_bestByAll 101 = .ok (.invokevirtual 170, 3) := by decide +kernel
theorem dX8_bestByAll_104 : decode cX8_bestByAll 104 = .ok (.istore 5, 2) := by decide +kernel
theorem dX8_bestByAll_106 : decode cX8_bestByAll 106 = .ok (.iload 5, 2) := by decide +kernel
theorem dX8_bestByAll_108 : decode cX8_bestByAll 108 = .ok (.iload_n 3, 1) := by decide +kernel
theorem dX8_bestByAll_109 : decode cX8_bestByAll 109 = .ok (.if_icmp .le 8, 3) := by decide +kernel
theorem dX8_bestByAll_112 : decode cX8_bestByAll 112 = .ok (.iload 5, 2) := by decide +kernel
theorem dX8_bestByAll_114 : decode cX8_bestByAll 114 = .ok (.goto 4, 3) := by decide +kernel
theorem dX8_bestByAll_117 : decode cX8_bestByAll 117 = .ok (.iload_n 3, 1) := by decide +kernel
theorem dX8_bestByAll_118 : decode cX8_bestByAll 118 = .ok (.istore_n 3, 1) := by decide +kernel
theorem dX8_bestByAll_119 : decode cX8_bestByAll 119 = .ok (.iinc 4 1, 3) := by decide +kernel
theorem dX8_bestByAll_122 : decode cX8_bestByAll 122 = .ok (.goto (-74), 3) := by decide +kernel
theorem dX8_bestByAll_125 : decode cX8_bestByAll 125 = .ok (.aload_n 0, 1) := by decide +kernel
theorem dX8_bestByAll_126 : decode cX8_bestByAll 126 = .ok (.getfield 22, 3) := by decide +kernel
theorem dX8_bestByAll_129 : decode cX8_bestByAll 129 = .ok (.iconst 1, 1) := by decide +kernel
theorem dX8_bestByAll_130 : decode cX8_bestByAll 130 = .ok (.iload_n 1, 1) := by decide +kernel
theorem dX8_bestByAll_131 : decode cX8_bestByAll 131 = .ok (.iastore, 1) := by decide +kernel
theorem dX8_bestByAll_132 : decode cX8_bestByAll 132 = .ok (.aload_n 0, 1) := by decide +kernel
theorem dX8_bestByAll_133 : decode cX8_bestByAll 133 = .ok (.getfield 22, 3) := by decide +kernel
theorem dX8_bestByAll_136 : decode cX8_bestByAll 136 = .ok (.iconst 2, 1) := by decide +kernel
theorem dX8_bestByAll_137 : decode cX8_bestByAll 137 = .ok (.iload_n 2, 1) := by decide +kernel
theorem dX8_bestByAll_138 : decode cX8_bestByAll 138 = .ok (.iastore, 1) := by decide +kernel
theorem dX8_bestByAll_139 : decode cX8_bestByAll 139 = .ok (.iload_n 3, 1) := by decide +kernel
theorem dX8_bestByAll_140 : decode cX8_bestByAll 140 = .ok (.ireturn, 1) := by decide +kernel
theorem dX8_joins_0 : decode cX8_joins 0 = .ok (.iload_n 1, 1) := by decide +kernel
theorem dX8_joins_1 : decode cX8_joins 1 = .ok (.iconst 1, 1) := by decide +kernel
theorem dX8_joins_2 : decode cX8_joins 2 = .ok (.isub, 1) := by decide +kernel
theorem dX8_joins_3 : decode cX8_joins 3 = .ok (.istore_n 2, 1) := by decide +kernel
theorem dX8_joins_4 : decode cX8_joins 4 = .ok (.aload_n 0, 1) := by decide +kernel
theorem dX8_joins_5 : decode cX8_joins 5 = .ok (.getfield 47, 3) := by decide +kernel
theorem dX8_joins_8 : decode cX8_joins 8 = .ok (.iload_n 2, 1) := by decide +kernel
theorem dX8_joins_9 : decode cX8_joins 9 = .ok (.iaload, 1) := by decide +kernel
theorem dX8_joins_10 : decode cX8_joins 10 = .ok (.ifCond .le 84, 3) := by decide +kernel
theorem dX8_joins_13 : decode cX8_joins 13 = .ok (.aload_n 0, 1) := by decide +kernel
theorem dX8_joins_14 : decode cX8_joins 14 = .ok (.getfield 50, 3) := by decide +kernel
theorem dX8_joins_17 : decode cX8_joins 17 = .ok (.bipush 40, 2) := by decide +kernel
theorem dX8_joins_19 : decode cX8_joins 19 = .ok (.iload_n 2, 1) := by decide +kernel
theorem dX8_joins_20 : decode cX8_joins 20 = .ok (.imul, 1) := by decide +kernel
theorem dX8_joins_21 : decode cX8_joins 21 = .ok (.iaload, 1) := by decide +kernel
theorem dX8_joins_22 : decode cX8_joins 22 = .ok (.aload_n 0, 1) := by decide +kernel
theorem dX8_joins_23 : decode cX8_joins 23 = .ok (.getfield 90, 3) := by decide +kernel
theorem dX8_joins_26 : decode cX8_joins 26 = .ok (.if_icmp .ne 68, 3) := by decide +kernel
theorem dX8_joins_29 : decode cX8_joins 29 = .ok (.aload_n 0, 1) := by decide +kernel
theorem dX8_joins_30 : decode cX8_joins 30 = .ok (.getfield 47, 3) := by decide +kernel
theorem dX8_joins_33 : decode cX8_joins 33 = .ok (.iload_n 2, 1) := by decide +kernel
theorem dX8_joins_34 : decode cX8_joins 34 = .ok (.dup2, 1) := by decide +kernel
theorem dX8_joins_35 : decode cX8_joins 35 = .ok (.iaload, 1) := by decide +kernel
theorem dX8_joins_36 : decode cX8_joins 36 = .ok (.iconst 1, 1) := by decide +kernel
theorem dX8_joins_37 : decode cX8_joins 37 = .ok (.isub, 1) := by decide +kernel
theorem dX8_joins_38 : decode cX8_joins 38 = .ok (.iastore, 1) := by decide +kernel
theorem dX8_joins_39 : decode cX8_joins 39 = .ok (.iconst 0, 1) := by decide +kernel
theorem dX8_joins_40 : decode cX8_joins 40 = .ok (.istore_n 3, 1) := by decide +kernel
theorem dX8_joins_41 : decode cX8_joins 41 = .ok (.iload_n 3, 1) := by decide +kernel
theorem dX8_joins_42 : decode cX8_joins 42 = .ok (.aload_n 0, 1) := by decide +kernel
theorem dX8_joins_43 : decode cX8_joins 43 = .ok (.getfield 47, 3) := by decide +kernel
theorem dX8_joins_46 : decode cX8_joins 46 = .ok (.iload_n 2, 1) := by decide +kernel
theorem dX8_joins_47 : decode cX8_joins 47 = .ok (.iaload, 1) := by decide +kernel
theorem dX8_joins_48 : decode cX8_joins 48 = .ok (.if_icmp .ge 33, 3) := by decide +kernel
theorem dX8_joins_51 : decode cX8_joins 51 = .ok (.aload_n 0, 1) := by decide +kernel
theorem dX8_joins_52 : decode cX8_joins 52 = .ok (.getfield 50, 3) := by decide +kernel
theorem dX8_joins_55 : decode cX8_joins 55 = .ok (.bipush 40, 2) := by decide +kernel
theorem dX8_joins_57 : decode cX8_joins 57 = .ok (.iload_n 2, 1) := by decide +kernel
theorem dX8_joins_58 : decode cX8_joins 58 = .ok (.imul, 1) := by decide +kernel
theorem dX8_joins_59 : decode cX8_joins 59 = .ok (.iload_n 3, 1) := by decide +kernel
theorem dX8_joins_60 : decode cX8_joins 60 = .ok (.iadd, 1) := by decide +kernel
theorem dX8_joins_61 : decode cX8_joins 61 = .ok (.aload_n 0, 1) := by decide +kernel
theorem dX8_joins_62 : decode cX8_joins 62 = .ok (.getfield 50, 3) := by decide +kernel
theorem dX8_joins_65 : decode cX8_joins 65 = .ok (.bipush 40, 2) := by decide +kernel
theorem dX8_joins_67 : decode cX8_joins 67 = .ok (.iload_n 2, 1) := by decide +kernel
theorem dX8_joins_68 : decode cX8_joins 68 = .ok (.imul, 1) := by decide +kernel
theorem dX8_joins_69 : decode cX8_joins 69 = .ok (.iload_n 3, 1) := by decide +kernel
theorem dX8_joins_70 : decode cX8_joins 70 = .ok (.iadd, 1) := by decide +kernel
theorem dX8_joins_71 : decode cX8_joins 71 = .ok (.iconst 1, 1) := by decide +kernel
theorem dX8_joins_72 : decode cX8_joins 72 = .ok (.iadd, 1) := by decide +kernel
theorem dX8_joins_73 : decode cX8_joins 73 = .ok (.iaload, 1) := by decide +kernel
theorem dX8_joins_74 : decode cX8_joins 74 = .ok (.iastore, 1) := by decide +kernel
theorem dX8_joins_75 : decode cX8_joins 75 = .ok (.iinc 3 1, 3) := by decide +kernel
theorem dX8_joins_78 : decode cX8_joins 78 = .ok (.goto (-37), 3) := by decide +kernel
theorem dX8_joins_81 : decode cX8_joins 81 = .ok (.aload_n 0, 1) := by decide +kernel
theorem dX8_joins_82 : decode cX8_joins 82 = .ok (.getfield 41, 3) := by decide +kernel
theorem dX8_joins_85 : decode cX8_joins 85 = .ok (.iload_n 1, 1) := by decide +kernel
theorem dX8_joins_86 : decode cX8_joins 86 = .ok (.dup2, 1) := by decide +kernel
theorem dX8_joins_87 : decode cX8_joins 87 = .ok (.iaload, 1) := by decide +kernel
theorem dX8_joins_88 : decode cX8_joins 88 = .ok (.iconst 1, 1) := by decide +kernel
theorem dX8_joins_89 : decode cX8_joins 89 = .ok (.iadd, 1) := by decide +kernel
theorem dX8_joins_90 : decode cX8_joins 90 = .ok (.iastore, 1) := by decide +kernel
theorem dX8_joins_91 : decode cX8_joins 91 = .ok (.goto (-87), 3) := by decide +kernel
theorem dX8_joins_94 : decode cX8_joins 94 = .ok (.return_, 1) := by decide +kernel
theorem dX8_arrives_0 : decode cX8_arrives 0 = .ok (.aload_n 0, 1) := by decide +kernel
theorem dX8_arrives_1 : decode cX8_arrives 1 = .ok (.dup, 1) := by decide +kernel
theorem dX8_arrives_2 : decode cX8_arrives 2 = .ok (.getfield 93, 3) := by decide +kernel
theorem dX8_arrives_5 : decode cX8_arrives 5 = .ok (.aload_n 0, 1) := by decide +kernel
theorem dX8_arrives_6 : decode cX8_arrives 6 = .ok (.getfield 19, 3) := by decide +kernel
theorem dX8_arrives_9 : decode cX8_arrives 9 = .ok (.iconst 0, 1) := by decide +kernel
theorem dX8_arrives_10 : decode cX8_arrives 10 = .ok (.iaload, 1) := by decide +kernel
theorem dX8_arrives_11 : decode cX8_arrives 11 = .ok (.iadd, 1) := by decide +kernel
theorem dX8_arrives_12 : decode cX8_arrives 12 = .ok (.putfield 93, 3) := by decide +kernel
theorem dX8_arrives_15 : decode cX8_arrives 15 = .ok (.aload_n 0, 1) := by decide +kernel
theorem dX8_arrives_16 : decode cX8_arrives 16 = .ok (.getfield 93, 3) := by decide +kernel
theorem dX8_arrives_19 : decode cX8_arrives 19 = .ok (.sipush 3600, 3) := by decide +kernel
theorem dX8_arrives_22 : decode cX8_arrives 22 = .ok (.if_icmp .lt 35, 3) := by decide +kernel
theorem dX8_arrives_25 : decode cX8_arrives 25 = .ok (.aload_n 0, 1) := by decide +kernel
theorem dX8_arrives_26 : decode cX8_arrives 26 = .ok (.dup, 1) := by decide +kernel
theorem dX8_arrives_27 : decode cX8_arrives 27 = .ok (.getfield 93, 3) := by decide +kernel
theorem dX8_arrives_30 : decode cX8_arrives 30 = .ok (.sipush 3600, 3) := by decide +kernel
theorem dX8_arrives_33 : decode cX8_arrives 33 = .ok (.isub, 1) := by decide +kernel
theorem dX8_arrives_34 : decode cX8_arrives 34 = .ok (.putfield 93, 3) := by decide +kernel
theorem dX8_arrives_37 : decode cX8_arrives 37 = .ok (.aload_n 0, 1) := by decide +kernel
theorem dX8_arrives_38 : decode cX8_arrives 38 = .ok (.dup, 1) := by decide +kernel
theorem dX8_arrives_39 : decode cX8_arrives 39 = .ok (.getfield 96, 3) := by decide +kernel
theorem dX8_arrives_42 : decode cX8_arrives 42 = .ok (.iconst 1, 1) := by decide +kernel
theorem dX8_arrives_43 : decode cX8_arrives 43 = .ok (.iadd, 1) := by decide +kernel
theorem dX8_arrives_44 : decode cX8_arrives 44 = .ok (.putfield 96, 3) := by decide +kernel
theorem dX8_arrives_47 : decode cX8_arrives 47 = .ok (.aload_n 0, 1) := by decide +kernel
theorem dX8_arrives_48 : decode cX8_arrives 48 = .ok (.getfield 41, 3) := by decide +kernel
theorem dX8_arrives_51 : decode cX8_arrives 51 = .ok (.iconst 0, 1) := by decide +kernel
theorem dX8_arrives_52 : decode cX8_arrives 52 = .ok (.dup2, 1) := by decide +kernel
theorem dX8_arrives_53 : decode cX8_arrives 53 = .ok (.iaload, 1) := by decide +kernel
theorem dX8_arrives_54 : decode cX8_arrives 54 = .ok (.iconst 1, 1) := by decide +kernel
theorem dX8_arrives_55 : decode cX8_arrives 55 = .ok (.iadd, 1) := by decide +kernel
theorem dX8_arrives_56 : decode cX8_arrives 56 = .ok (.iastore, 1) := by decide +kernel
theorem dX8_arrives_57 : decode cX8_arrives 57 = .ok (.return_, 1) := by decide +kernel
theorem dX8_heldOf_0 : decode cX8_heldOf 0 = .ok (.aload_n 0, 1) := by decide +kernel
theorem dX8_heldOf_1 : decode cX8_heldOf 1 = .ok (.getfield 47, 3) := by decide +kernel
theorem dX8_heldOf_4 : decode cX8_heldOf 4 = .ok (.iload_n 1, 1) := by decide +kernel
theorem dX8_heldOf_5 : decode cX8_heldOf 5 = .ok (.iaload, 1) := by decide +kernel
theorem dX8_heldOf_6 : decode cX8_heldOf 6 = .ok (.aload_n 0, 1) := by decide +kernel
theorem dX8_heldOf_7 : decode cX8_heldOf 7 = .ok (.getfield 41, 3) := by decide +kernel
theorem dX8_heldOf_10 : decode cX8_heldOf 10 = .ok (.iload_n 1, 1) := by decide +kernel
theorem dX8_heldOf_11 : decode cX8_heldOf 11 = .ok (.iconst 1, 1) := by decide +kernel
theorem dX8_heldOf_12 : decode cX8_heldOf 12 = .ok (.iadd, 1) := by decide +kernel
theorem dX8_heldOf_13 : decode cX8_heldOf 13 = .ok (.iaload, 1) := by decide +kernel
theorem dX8_heldOf_14 : decode cX8_heldOf 14 = .ok (.iadd, 1) := by decide +kernel
theorem dX8_heldOf_15 : decode cX8_heldOf 15 = .ok (.ireturn, 1) := by decide +kernel
theorem dX8_leaves_0 : decode cX8_leaves 0 = .ok (.aload_n 0, 1) := by decide +kernel
theorem dX8_leaves_1 : decode cX8_leaves 1 = .ok (.iload_n 1, 1) := by decide +kernel
theorem dX8_leaves_2 : decode cX8_leaves 2 = .ok (.iconst 0, 1) := by decide +kernel
theorem dX8_leaves_3 : decode cX8_leaves 3 = .ok (.aload_n 0, 1) := by decide +kernel
theorem dX8_leaves_4 : decode cX8_leaves 4 = .ok (.getfield 90, 3) := by decide +kernel
theorem dX8_leaves_7 : decode cX8_leaves 7 = .ok (.iconst 1, 1) := by decide +kernel
theorem dX8_leaves_8 : decode cX8_leaves 8 = .ok (.invokevirtual 158, 3) := by decide +kernel
theorem dX8_leaves_11 : decode cX8_leaves 11 = .ok (.istore_n 2, 1) := by decide +kernel
theorem dX8_leaves_12 : decode cX8_leaves 12 = .ok (.aload_n 0, 1) := by decide +kernel
theorem dX8_leaves_13 : decode cX8_leaves 13 = .ok (.getfield 44, 3) := by decide +kernel
theorem dX8_leaves_16 : decode cX8_leaves 16 = .ok (.iload_n 1, 1) := by decide +kernel
theorem dX8_leaves_17 : decode cX8_leaves 17 = .ok (.iload_n 2, 1) := by decide +kernel
theorem dX8_leaves_18 : decode cX8_leaves 18 = .ok (.ifCond .ne 7, 3) := by decide +kernel
theorem dX8_leaves_21 : decode cX8_leaves 21 = .ok (.iconst 0, 1) := by decide +kernel
theorem dX8_leaves_22 : decode cX8_leaves 22 = .ok (.goto 25, 3) := by decide +kernel
theorem dX8_leaves_25 : decode cX8_leaves 25 = .ok (.aload_n 0, 1) := by decide +kernel
theorem dX8_leaves_26 : decode cX8_leaves 26 = .ok (.getfield 44, 3) := by decide +kernel
theorem dX8_leaves_29 : decode cX8_leaves 29 = .ok (.iload_n 1, 1) := by decide +kernel
theorem dX8_leaves_30 : decode cX8_leaves 30 = .ok (.iaload, 1) := by decide +kernel
theorem dX8_leaves_31 : decode cX8_leaves 31 = .ok (.iconst 2, 1) := by decide +kernel
theorem dX8_leaves_32 : decode cX8_leaves 32 = .ok (.if_icmp .ge 14, 3) := by decide +kernel
theorem dX8_leaves_35 : decode cX8_leaves 35 = .ok (.aload_n 0, 1) := by decide +kernel
theorem dX8_leaves_36 : decode cX8_leaves 36 = .ok (.getfield 44, 3) := by decide +kernel
theorem dX8_leaves_39 : decode cX8_leaves 39 = .ok (.iload_n 1, 1) := by decide +kernel
theorem dX8_leaves_40 : decode cX8_leaves 40 = .ok (.iaload, 1) := by decide +kernel
theorem dX8_leaves_41 : decode cX8_leaves 41 = .ok (.iconst 1, 1) := by decide +kernel
theorem dX8_leaves_42 : decode cX8_leaves 42 = .ok (.iadd, 1) := by decide +kernel
theorem dX8_leaves_43 : decode cX8_leaves 43 = .ok (.goto 4, 3) := by decide +kernel
theorem dX8_leaves_46 : decode cX8_leaves 46 = .ok (.iconst 2, 1) := by decide +kernel
theorem dX8_leaves_47 : decode cX8_leaves 47 = .ok (.iastore, 1) := by decide +kernel
theorem dX8_leaves_48 : decode cX8_leaves 48 = .ok (.iload_n 1, 1) := by decide +kernel
theorem dX8_leaves_49 : decode cX8_leaves 49 = .ok (.aload_n 0, 1) := by decide +kernel
theorem dX8_leaves_50 : decode cX8_leaves 50 = .ok (.getfield 76, 3) := by decide +kernel
theorem dX8_leaves_53 : decode cX8_leaves 53 = .ok (.iconst 1, 1) := by decide +kernel
theorem dX8_leaves_54 : decode cX8_leaves 54 = .ok (.isub, 1) := by decide +kernel
theorem dX8_leaves_55 : decode cX8_leaves 55 = .ok (.if_icmp .ne 7, 3) := by decide +kernel
theorem dX8_leaves_58 : decode cX8_leaves 58 = .ok (.iconst 1, 1) := by decide +kernel
theorem dX8_leaves_59 : decode cX8_leaves 59 = .ok (.goto 4, 3) := by decide +kernel
theorem dX8_leaves_62 : decode cX8_leaves 62 = .ok (.iconst 0, 1) := by decide +kernel
theorem dX8_leaves_63 : decode cX8_leaves 63 = .ok (.istore_n 3, 1) := by decide +kernel
theorem dX8_leaves_64 : decode cX8_leaves 64 = .ok (.aload_n 0, 1) := by decide +kernel
theorem dX8_leaves_65 : decode cX8_leaves 65 = .ok (.getfield 44, 3) := by decide +kernel
theorem dX8_leaves_68 : decode cX8_leaves 68 = .ok (.iload_n 1, 1) := by decide +kernel
theorem dX8_leaves_69 : decode cX8_leaves 69 = .ok (.iaload, 1) := by decide +kernel
theorem dX8_leaves_70 : decode cX8_leaves 70 = .ok (.iconst 2, 1) := by decide +kernel
theorem dX8_leaves_71 : decode cX8_leaves 71 = .ok (.if_icmp .lt 30, 3) := by decide +kernel
theorem dX8_leaves_74 : decode cX8_leaves 74 = .ok (.aload_n 0, 1) := by decide +kernel
theorem dX8_leaves_75 : decode cX8_leaves 75 = .ok (.getfield 41, 3) := by decide +kernel
theorem dX8_leaves_78 : decode cX8_leaves 78 = .ok (.iload_n 1, 1) := by decide +kernel
theorem dX8_leaves_79 : decode cX8_leaves 79 = .ok (.iaload, 1) := by decide +kernel
theorem dX8_leaves_80 : decode cX8_leaves 80 = .ok (.ifCond .eq 21, 3) := by decide +kernel
theorem dX8_leaves_83 : decode cX8_leaves 83 = .ok (.iload_n 3, 1) := by decide +kernel
theorem dX8_leaves_84 : decode cX8_leaves 84 = .ok (.ifCond .ne 18, 3) := by decide +kernel
theorem dX8_leaves_87 : decode cX8_leaves 87 = .ok (.aload_n 0, 1) := by decide +kernel
theorem dX8_leaves_88 : decode cX8_leaves 88 = .ok (.iload_n 1, 1) := by decide +kernel
theorem dX8_leaves_89 : decode cX8_leaves 89 = .ok (.invokevirtual 191, 3) := by decide +kernel
theorem dX8_leaves_92 : decode cX8_leaves 92 = .ok (.aload_n 0, 1) := by decide +kernel
theorem dX8_leaves_93 : decode cX8_leaves 93 = .ok (.getfield 28, 3) := by decide +kernel
theorem dX8_leaves_96 : decode cX8_leaves 96 = .ok (.iload_n 1, 1) := by decide +kernel
theorem dX8_leaves_97 : decode cX8_leaves 97 = .ok (.iaload, 1) := by decide +kernel
theorem dX8_leaves_98 : decode cX8_leaves 98 = .ok (.if_icmp .lt 4, 3) := by decide +kernel
theorem dX8_leaves_101 : decode cX8_leaves 101 = .ok (.return_, 1) := by decide +kernel
theorem dX8_leaves_102 : decode cX8_leaves 102 = .ok (.aload_n 0, 1) := by decide +kernel
theorem dX8_leaves_103 : decode cX8_leaves 103 = .ok (.getfield 41, 3) := by decide +kernel
theorem dX8_leaves_106 : decode cX8_leaves 106 = .ok (.iload_n 1, 1) := by decide +kernel
theorem dX8_leaves_107 : decode cX8_leaves 107 = .ok (.dup2, 1) := by decide +kernel
theorem dX8_leaves_108 : decode cX8_leaves 108 = .ok (.iaload, 1) := by decide +kernel
theorem dX8_leaves_109 : decode cX8_leaves 109 = .ok (.iconst 1, 1) := by decide +kernel
theorem dX8_leaves_110 : decode cX8_leaves 110 = .ok (.isub, 1) := by decide +kernel
theorem dX8_leaves_111 : decode cX8_leaves 111 = .ok (.iastore, 1) := by decide +kernel
theorem dX8_leaves_112 : decode cX8_leaves 112 = .ok (.aload_n 0, 1) := by decide +kernel
theorem dX8_leaves_113 : decode cX8_leaves 113 = .ok (.getfield 44, 3) := by decide +kernel
theorem dX8_leaves_116 : decode cX8_leaves 116 = .ok (.iload_n 1, 1) := by decide +kernel
theorem dX8_leaves_117 : decode cX8_leaves 117 = .ok (.iconst 0, 1) := by decide +kernel
theorem dX8_leaves_118 : decode cX8_leaves 118 = .ok (.iastore, 1) := by decide +kernel
theorem dX8_leaves_119 : decode cX8_leaves 119 = .ok (.iload_n 3, 1) := by decide +kernel
theorem dX8_leaves_120 : decode cX8_leaves 120 = .ok (.ifCond .eq 16, 3) := by decide +kernel
theorem dX8_leaves_123 : decode cX8_leaves 123 = .ok (.aload_n 0, 1) := by decide +kernel
theorem dX8_leaves_124 : decode cX8_leaves 124 = .ok (.dup, 1) := by decide +kernel
theorem dX8_leaves_125 : decode cX8_leaves 125 = .ok (.getfield 99, 3) := by decide +kernel
theorem dX8_leaves_128 : decode cX8_leaves 128 = .ok (.iconst 1, 1) := by decide +kernel
theorem dX8_leaves_129 : decode cX8_leaves 129 = .ok (.iadd, 1) := by decide +kernel
theorem dX8_leaves_130 : decode cX8_leaves 130 = .ok (.putfield 99, 3) := by decide +kernel
theorem dX8_leaves_133 : decode cX8_leaves 133 = .ok (.goto 40, 3) := by decide +kernel
theorem dX8_leaves_136 : decode cX8_leaves 136 = .ok (.aload_n 0, 1) := by decide +kernel
theorem dX8_leaves_137 : decode cX8_leaves 137 = .ok (.getfield 50, 3) := by decide +kernel
theorem dX8_leaves_140 : decode cX8_leaves 140 = .ok (.bipush 40, 2) := by decide +kernel
theorem dX8_leaves_142 : decode cX8_leaves 142 = .ok (.iload_n 1, 1) := by decide +kernel
theorem dX8_leaves_143 : decode cX8_leaves 143 = .ok (.imul, 1) := by decide +kernel
theorem dX8_leaves_144 : decode cX8_leaves 144 = .ok (.aload_n 0, 1) := by decide +kernel
theorem dX8_leaves_145 : decode cX8_leaves 145 = .ok (.getfield 47, 3) := by decide +kernel
theorem dX8_leaves_148 : decode cX8_leaves 148 = .ok (.iload_n 1, 1) := by decide +kernel
theorem dX8_leaves_149 : decode cX8_leaves 149 = .ok (.iaload, 1) := by decide +kernel
theorem dX8_leaves_150 : decode cX8_leaves 150 = .ok (.iadd, 1) := by decide +kernel
theorem dX8_leaves_151 : decode cX8_leaves 151 = .ok (.aload_n 0, 1) := by decide +kernel
theorem dX8_leaves_152 : decode cX8_leaves 152 = .ok (.getfield 90, 3) := by decide +kernel
theorem dX8_leaves_155 : decode cX8_leaves 155 = .ok (.aload_n 0, 1) := by decide +kernel
theorem dX8_leaves_156 : decode cX8_leaves 156 = .ok (.getfield 25, 3) := by decide +kernel
theorem dX8_leaves_159 : decode cX8_leaves 159 = .ok (.iload_n 1, 1) := by decide +kernel
theorem dX8_leaves_160 : decode cX8_leaves 160 = .ok (.iaload, 1) := by decide +kernel
theorem dX8_leaves_161 : decode cX8_leaves 161 = .ok (.iadd, 1) := by decide +kernel
theorem dX8_leaves_162 : decode cX8_leaves 162 = .ok (.iastore, 1) := by decide +kernel
theorem dX8_leaves_163 : decode cX8_leaves 163 = .ok (.aload_n 0, 1) := by decide +kernel
theorem dX8_leaves_164 : decode cX8_leaves 164 = .ok (.getfield 47, 3) := by decide +kernel
theorem dX8_leaves_167 : decode cX8_leaves 167 = .ok (.iload_n 1, 1) := by decide +kernel
theorem dX8_leaves_168 : decode cX8_leaves 168 = .ok (.dup2, 1) := by decide +kernel
theorem dX8_leaves_169 : decode cX8_leaves 169 = .ok (.iaload, 1) := by decide +kernel
theorem dX8_leaves_170 : decode cX8_leaves 170 = .ok (.iconst 1, 1) := by decide +kernel
theorem dX8_leaves_171 : decode cX8_leaves 171 = .ok (.iadd, 1) := by decide +kernel
theorem dX8_leaves_172 : decode cX8_leaves 172 = .ok (.iastore, 1) := by decide +kernel
theorem dX8_leaves_173 : decode cX8_leaves 173 = .ok (.return_, 1) := by decide +kernel
theorem dX8_run_0 : decode cX8_run 0 = .ok (.aload_n 0, 1) := by decide +kernel
theorem dX8_run_1 : decode cX8_run 1 = .ok (.iload_n 1, 1) := by decide +kernel
theorem dX8_run_2 : decode cX8_run 2 = .ok (.iconst 1, 1) := by decide +kernel
theorem dX8_run_3 : decode cX8_run 3 = .ok (.sipush 600, 3) := by decide +kernel
theorem dX8_run_6 : decode cX8_run 6 = .ok (.invokestatic 79, 3) := by decide +kernel
theorem dX8_run_9 : decode cX8_run 9 = .ok (.ifCond .ne 7, 3) := by decide +kernel
theorem dX8_run_12 : decode cX8_run 12 = .ok (.iconst 1, 1) := by decide +kernel
theorem dX8_run_13 : decode cX8_run 13 = .ok (.goto 27, 3) := by decide +kernel
theorem dX8_run_16 : decode cX8_run 16 = .ok (.aload_n 0, 1) := by decide +kernel
theorem dX8_run_17 : decode cX8_run 17 = .ok (.invokevirtual 174, 3) := by decide +kernel
theorem dX8_run_20 : decode cX8_run 20 = .ok (.ifCond .eq 15, 3) := by decide +kernel
theorem dX8_run_23 : decode cX8_run 23 = .ok (.aload_n 0, 1) := by decide +kernel
theorem dX8_run_24 : decode cX8_run 24 = .ok (.getfield 90, 3) := by decide +kernel
theorem dX8_run_27 : decode cX8_run 27 = .ok (.iload_n 1, 1) := by decide +kernel
theorem dX8_run_28 : decode cX8_run 28 = .ok (.iadd, 1) := by decide +kernel
theorem dX8_run_29 : decode cX8_run 29 = .ok (.sipush 7200, 3) := by decide +kernel
theorem dX8_run_32 : decode cX8_run 32 = .ok (.if_icmp .le 7, 3) := by decide +kernel
theorem dX8_run_35 : decode cX8_run 35 = .ok (.iconst 2, 1) := by decide +kernel
theorem dX8_run_36 : decode cX8_run 36 = .ok (.goto 4, 3) := by decide +kernel
theorem dX8_run_39 : decode cX8_run 39 = .ok (.iconst 0, 1) := by decide +kernel
theorem dX8_run_40 : decode cX8_run 40 = .ok (.invokevirtual 102, 3) := by decide +kernel
theorem dX8_run_43 : decode cX8_run 43 = .ok (.ifCond .ne 5, 3) := by decide +kernel
theorem dX8_run_46 : decode cX8_run 46 = .ok (.iconst 0, 1) := by decide +kernel
theorem dX8_run_47 : decode cX8_run 47 = .ok (.ireturn, 1) := by decide +kernel
theorem dX8_run_48 : decode cX8_run 48 = .ok (.aload_n 0, 1) := by decide +kernel
theorem dX8_run_49 : decode cX8_run 49 = .ok (.iconst 1, 1) := by decide +kernel
theorem dX8_run_50 : decode cX8_run 50 = .ok (.putfield 86, 3) := by decide +kernel
theorem dX8_run_53 : decode cX8_run 53 = .ok (.aload_n 0, 1) := by decide +kernel
theorem dX8_run_54 : decode cX8_run 54 = .ok (.getfield 99, 3) := by decide +kernel
theorem dX8_run_57 : decode cX8_run 57 = .ok (.istore_n 2, 1) := by decide +kernel
theorem dX8_run_58 : decode cX8_run 58 = .ok (.iconst 0, 1) := by decide +kernel
theorem dX8_run_59 : decode cX8_run 59 = .ok (.istore_n 3, 1) := by decide +kernel
theorem dX8_run_60 : decode cX8_run 60 = .ok (.iload_n 3, 1) := by decide +kernel
theorem dX8_run_61 : decode cX8_run 61 = .ok (.iload_n 1, 1) := by decide +kernel
theorem dX8_run_62 : decode cX8_run 62 = .ok (.if_icmp .ge 61, 3) := by decide +kernel
theorem dX8_run_65 : decode cX8_run 65 = .ok (.iconst 0, 1) := by decide +kernel
theorem dX8_run_66 : decode cX8_run 66 = .ok (.istore 4, 2) := by decide +kernel
theorem dX8_run_68 : decode cX8_run 68 = .ok (.iload 4, 2) := by decide +kernel
theorem dX8_run_70 : decode cX8_run 70 = .ok (.aload_n 0, 1) := by decide +kernel
theorem dX8_run_71 : decode cX8_run 71 = .ok (.getfield 76, 3) := by decide +kernel
theorem dX8_run_74 : decode cX8_run 74 = .ok (.if_icmp .ge 33, 3) := by decide +kernel
theorem dX8_run_77 : decode cX8_run 77 = .ok (.iload 4, 2) := by decide +kernel
theorem dX8_run_79 : decode cX8_run 79 = .ok (.ifCond .ne 10, 3) := by decide +kernel
theorem dX8_run_82 : decode cX8_run 82 = .ok (.aload_n 0, 1) := by decide +kernel
theorem dX8_run_83 : decode cX8_run 83 = .ok (.invokevirtual 195, 3) := by decide +kernel
theorem dX8_run_86 : decode cX8_run 86 = .ok (.goto 9, 3) := by decide +kernel
theorem dX8_run_89 : decode cX8_run 89 = .ok (.aload_n 0, 1) := by decide +kernel
theorem dX8_run_90 : decode cX8_run 90 = .ok (.iload 4, 2) := by decide +kernel
theorem dX8_run_92 : decode cX8_run 92 = .ok (.invokevirtual 198, 3) := by decide +kernel
theorem dX8_run_95 : decode cX8_run 95 = .ok (.aload_n 0, 1) := by decide +kernel
theorem dX8_run_96 : decode cX8_run 96 = .ok (.iload 4, 2) := by decide +kernel
theorem dX8_run_98 : decode cX8_run 98 = .ok (.invokevirtual 201, 3) := by decide +kernel
theorem dX8_run_101 : decode cX8_run 101 = .ok (.iinc 4 1, 3) := by decide +kernel
theorem dX8_run_104 : decode cX8_run 104 = .ok (.goto (-36), 3) := by decide +kernel
theorem dX8_run_107 : decode cX8_run 107 = .ok (.aload_n 0, 1) := by decide +kernel
theorem dX8_run_108 : decode cX8_run 108 = .ok (.dup, 1) := by decide +kernel
theorem dX8_run_109 : decode cX8_run 109 = .ok (.getfield 90, 3) := by decide +kernel
theorem dX8_run_112 : decode cX8_run 112 = .ok (.iconst 1, 1) := by decide +kernel
theorem dX8_run_113 : decode cX8_run 113 = .ok (.iadd, 1) := by decide +kernel
theorem dX8_run_114 : decode cX8_run 114 = .ok (.putfield 90, 3) := by decide +kernel
theorem dX8_run_117 : decode cX8_run 117 = .ok (.iinc 3 1, 3) := by decide +kernel
theorem dX8_run_120 : decode cX8_run 120 = .ok (.goto (-60), 3) := by decide +kernel
theorem dX8_run_123 : decode cX8_run 123 = .ok (.aload_n 0, 1) := by decide +kernel
theorem dX8_run_124 : decode cX8_run 124 = .ok (.getfield 99, 3) := by decide +kernel
theorem dX8_run_127 : decode cX8_run 127 = .ok (.iload_n 2, 1) := by decide +kernel
theorem dX8_run_128 : decode cX8_run 128 = .ok (.isub, 1) := by decide +kernel
theorem dX8_run_129 : decode cX8_run 129 = .ok (.ireturn, 1) := by decide +kernel
theorem dX8_phaseOf_0 : decode cX8_phaseOf 0 = .ok (.iconst 0, 1) := by decide +kernel
theorem dX8_phaseOf_1 : decode cX8_phaseOf 1 = .ok (.istore_n 3, 1) := by decide +kernel
theorem dX8_phaseOf_2 : decode cX8_phaseOf 2 = .ok (.iload_n 3, 1) := by decide +kernel
theorem dX8_phaseOf_3 : decode cX8_phaseOf 3 = .ok (.aload_n 0, 1) := by decide +kernel
theorem dX8_phaseOf_4 : decode cX8_phaseOf 4 = .ok (.getfield 16, 3) := by decide +kernel
theorem dX8_phaseOf_7 : decode cX8_phaseOf 7 = .ok (.iload_n 1, 1) := by decide +kernel
theorem dX8_phaseOf_8 : decode cX8_phaseOf 8 = .ok (.iaload, 1) := by decide +kernel
theorem dX8_phaseOf_9 : decode cX8_phaseOf 9 = .ok (.if_icmp .ge 28, 3) := by decide +kernel
theorem dX8_phaseOf_12 : decode cX8_phaseOf 12 = .ok (.aload_n 0, 1) := by decide +kernel
theorem dX8_phaseOf_13 : decode cX8_phaseOf 13 = .ok (.getfield 13, 3) := by decide +kernel
theorem dX8_phaseOf_16 : decode cX8_phaseOf 16 = .ok (.iconst 4, 1) := by decide +kernel
theorem dX8_phaseOf_17 : decode cX8_phaseOf 17 = .ok (.iload_n 1, 1) := by decide +kernel
theorem dX8_phaseOf_18 : decode cX8_phaseOf 18 = .ok (.imul, 1) := by decide +kernel
theorem dX8_phaseOf_19 : decode cX8_phaseOf 19 = .ok (.iload_n 3, 1) := by decide +kernel
theorem dX8_phaseOf_20 : decode cX8_phaseOf 20 = .ok (.iadd, 1) := by decide +kernel
theorem dX8_phaseOf_21 : decode cX8_phaseOf 21 = .ok (.iaload, 1) := by decide +kernel
theorem dX8_phaseOf_22 : decode cX8_phaseOf 22 = .ok (.iload_n 2, 1) := by decide +kernel
theorem dX8_phaseOf_23 : decode cX8_phaseOf 23 = .ok (.invokestatic 106, 3) := by decide +kernel
theorem dX8_phaseOf_26 : decode cX8_phaseOf 26 = .ok (.ifCond .eq 5, 3) := by decide +kernel
theorem dX8_phaseOf_29 : decode cX8_phaseOf 29 = .ok (.iload_n 3, 1) := by decide +kernel
theorem dX8_phaseOf_30 : decode cX8_phaseOf 30 = .ok (.ireturn, 1) := by decide +kernel
theorem dX8_phaseOf_31 : decode cX8_phaseOf 31 = .ok (.iinc 3 1, 3) := by decide +kernel
theorem dX8_phaseOf_34 : decode cX8_phaseOf 34 = .ok (.goto (-32), 3) := by decide +kernel
theorem dX8_phaseOf_37 : decode cX8_phaseOf 37 = .ok (.iconst (-1), 1) := by decide +kernel
theorem dX8_phaseOf_38 : decode cX8_phaseOf 38 = .ok (.ireturn, 1) := by decide +kernel
theorem dX8_errorOfCall_0 : decode cX8_errorOfCall 0 = .ok (.aload_n 0, 1) := by decide +kernel
theorem dX8_errorOfCall_1 : decode cX8_errorOfCall 1 = .ok (.iload_n 1, 1) := by decide +kernel
theorem dX8_errorOfCall_2 : decode cX8_errorOfCall 2 = .ok (.invokevirtual 118, 3) := by decide +kernel
theorem dX8_errorOfCall_5 : decode cX8_errorOfCall 5 = .ok (.ifCond .eq 10, 3) := by decide +kernel
theorem dX8_errorOfCall_8 : decode cX8_errorOfCall 8 = .ok (.iload_n 2, 1) := by decide +kernel
theorem dX8_errorOfCall_9 : decode cX8_errorOfCall 9 = .ok (.invokestatic 121, 3) := by decide +kernel
theorem dX8_errorOfCall_12 : decode cX8_errorOfCall 12 = .ok (.ifCond .ne 5, 3) := by decide +kernel
theorem dX8_errorOfCall_15 : decode cX8_errorOfCall 15 = .ok (.iconst 1, 1) := by decide +kernel
theorem dX8_errorOfCall_16 : decode cX8_errorOfCall 16 = .ok (.ireturn, 1) := by decide +kernel
theorem dX8_errorOfCall_17 : decode cX8_errorOfCall 17 = .ok (.aload_n 0, 1) := by decide +kernel
theorem dX8_errorOfCall_18 : decode cX8_errorOfCall 18 = .ok (.getfield 53, 3) := by decide +kernel
theorem dX8_errorOfCall_21 : decode cX8_errorOfCall 21 = .ok (.iload_n 1, 1) := by decide +kernel
theorem dX8_errorOfCall_22 : decode cX8_errorOfCall 22 = .ok (.baload, 1) := by decide +kernel
theorem dX8_errorOfCall_23 : decode cX8_errorOfCall 23 = .ok (.ifCond .eq 25, 3) := by decide +kernel
theorem dX8_errorOfCall_26 : decode cX8_errorOfCall 26 = .ok (.aload_n 0, 1) := by decide +kernel
theorem dX8_errorOfCall_27 : decode cX8_errorOfCall 27 = .ok (.getfield 56, 3) := by decide +kernel
theorem dX8_errorOfCall_30 : decode cX8_errorOfCall 30 = .ok (.iload_n 1, 1) := by decide +kernel
theorem dX8_errorOfCall_31 : decode cX8_errorOfCall 31 = .ok (.iaload, 1) := by decide +kernel
theorem dX8_errorOfCall_32 : decode cX8_errorOfCall 32 = .ok (.aload_n 0, 1) := by decide +kernel
theorem dX8_errorOfCall_33 : decode cX8_errorOfCall 33 = .ok (.iload_n 1, 1) := by decide +kernel
theorem dX8_errorOfCall_34 : decode cX8_errorOfCall 34 = .ok (.aload_n 0, 1) := by decide +kernel
theorem dX8_errorOfCall_35 : decode cX8_errorOfCall 35 = .ok (.getfield 90, 3) := by decide +kernel
theorem dX8_errorOfCall_38 : decode cX8_errorOfCall 38 = .ok (.invokevirtual 151, 3) := by decide +kernel
theorem dX8_errorOfCall_41 : decode cX8_errorOfCall 41 = .ok (.if_icmp .ne 7, 3) := by decide +kernel
theorem dX8_errorOfCall_44 : decode cX8_errorOfCall 44 = .ok (.iconst 1, 1) := by decide +kernel
theorem dX8_errorOfCall_45 : decode cX8_errorOfCall 45 = .ok (.goto 4, 3) := by decide +kernel
theorem dX8_errorOfCall_48 : decode cX8_errorOfCall 48 = .ok (.iconst 0, 1) := by decide +kernel
theorem dX8_errorOfCall_49 : decode cX8_errorOfCall 49 = .ok (.istore_n 3, 1) := by decide +kernel
theorem dX8_errorOfCall_50 : decode cX8_errorOfCall 50 = .ok (.aload_n 0, 1) := by decide +kernel
theorem dX8_errorOfCall_51 : decode cX8_errorOfCall 51 = .ok (.invokevirtual 174, 3) := by decide +kernel
theorem dX8_errorOfCall_54 : decode cX8_errorOfCall 54 = .ok (.ifCond .eq 17, 3) := by decide +kernel
theorem dX8_errorOfCall_57 : decode cX8_errorOfCall 57 = .ok (.aload_n 0, 1) := by decide +kernel
theorem dX8_errorOfCall_58 : decode cX8_errorOfCall 58 = .ok (.iload_n 1, 1) := by decide +kernel
theorem dX8_errorOfCall_59 : decode cX8_errorOfCall 59 = .ok (.iload_n 2, 1) := by decide +kernel
theorem dX8_errorOfCall_60 : decode cX8_errorOfCall 60 = .ok (.invokevirtual 204, 3) := by decide +kernel
theorem dX8_errorOfCall_63 : decode cX8_errorOfCall 63 = .ok (.iconst (-1), 1) := by decide +kernel
theorem dX8_errorOfCall_64 : decode cX8_errorOfCall 64 = .ok (.if_icmp .eq 7, 3) := by decide +kernel
theorem dX8_errorOfCall_67 : decode cX8_errorOfCall 67 = .ok (.iload_n 3, 1) := by decide +kernel
theorem dX8_errorOfCall_68 : decode cX8_errorOfCall 68 = .ok (.ifCond .eq 7, 3) := by decide +kernel
theorem dX8_errorOfCall_71 : decode cX8_errorOfCall 71 = .ok (.iconst 2, 1) := by decide +kernel
theorem dX8_errorOfCall_72 : decode cX8_errorOfCall 72 = .ok (.goto 4, 3) := by decide +kernel
theorem dX8_errorOfCall_75 : decode cX8_errorOfCall 75 = .ok (.iconst 0, 1) := by decide +kernel
theorem dX8_errorOfCall_76 : decode cX8_errorOfCall 76 = .ok (.ireturn, 1) := by decide +kernel
theorem dX8_least_0 : decode cX8_least 0 = .ok (.iload_n 0, 1) := by decide +kernel
theorem dX8_least_1 : decode cX8_least 1 = .ok (.iload_n 1, 1) := by decide +kernel
theorem dX8_least_2 : decode cX8_least 2 = .ok (.if_icmp .ge 7, 3) := by decide +kernel
theorem dX8_least_5 : decode cX8_least 5 = .ok (.iload_n 0, 1) := by decide +kernel
theorem dX8_least_6 : decode cX8_least 6 = .ok (.goto 4, 3) := by decide +kernel
theorem dX8_least_9 : decode cX8_least 9 = .ok (.iload_n 1, 1) := by decide +kernel
theorem dX8_least_10 : decode cX8_least 10 = .ok (.ireturn, 1) := by decide +kernel
theorem dX8_above_0 : decode cX8_above 0 = .ok (.aload_n 0, 1) := by decide +kernel
theorem dX8_above_1 : decode cX8_above 1 = .ok (.getfield 31, 3) := by decide +kernel
theorem dX8_above_4 : decode cX8_above 4 = .ok (.iconst 4, 1) := by decide +kernel
theorem dX8_above_5 : decode cX8_above 5 = .ok (.iload_n 1, 1) := by decide +kernel
theorem dX8_above_6 : decode cX8_above 6 = .ok (.imul, 1) := by decide +kernel
theorem dX8_above_7 : decode cX8_above 7 = .ok (.iload_n 2, 1) := by decide +kernel
theorem dX8_above_8 : decode cX8_above 8 = .ok (.iadd, 1) := by decide +kernel
theorem dX8_above_9 : decode cX8_above 9 = .ok (.iaload, 1) := by decide +kernel
theorem dX8_above_10 : decode cX8_above 10 = .ok (.aload_n 0, 1) := by decide +kernel
theorem dX8_above_11 : decode cX8_above 11 = .ok (.iload_n 1, 1) := by decide +kernel
theorem dX8_above_12 : decode cX8_above 12 = .ok (.iload_n 2, 1) := by decide +kernel
theorem dX8_above_13 : decode cX8_above 13 = .ok (.invokevirtual 138, 3) := by decide +kernel
theorem dX8_above_16 : decode cX8_above 16 = .ok (.isub, 1) := by decide +kernel
theorem dX8_above_17 : decode cX8_above 17 = .ok (.ireturn, 1) := by decide +kernel
theorem dX8_behind_0 : decode cX8_behind 0 = .ok (.iconst 0, 1) := by decide +kernel
theorem dX8_behind_1 : decode cX8_behind 1 = .ok (.istore_n 3, 1) := by decide +kernel
theorem dX8_behind_2 : decode cX8_behind 2 = .ok (.aload_n 0, 1) := by decide +kernel
theorem dX8_behind_3 : decode cX8_behind 3 = .ok (.iload_n 1, 1) := by decide +kernel
theorem dX8_behind_4 : decode cX8_behind 4 = .ok (.aload_n 0, 1) := by decide +kernel
theorem dX8_behind_5 : decode cX8_behind 5 = .ok (.getfield 90, 3) := by decide +kernel
theorem dX8_behind_8 : decode cX8_behind 8 = .ok (.iload_n 3, 1) := by decide +kernel
theorem dX8_behind_9 : decode cX8_behind 9 = .ok (.iadd, 1) := by decide +kernel
theorem dX8_behind_10 : decode cX8_behind 10 = .ok (.iconst 1, 1) := by decide +kernel
theorem dX8_behind_11 : decode cX8_behind 11 = .ok (.iadd, 1) := by decide +kernel
theorem dX8_behind_12 : decode cX8_behind 12 = .ok (.iconst 0, 1) := by decide +kernel
theorem dX8_behind_13 : decode cX8_behind 13 = .ok (.invokevirtual 154, 3) := by decide +kernel
theorem dX8_behind_16 : decode cX8_behind 16 = .ok (.iload_n 2, 1) := by decide +kernel
theorem dX8_behind_17 : decode cX8_behind 17 = .ok (.if_icmp .ne 50, 3) := by decide +kernel
theorem dX8_behind_20 : decode cX8_behind 20 = .ok (.iload_n 3, 1) := by decide +kernel
theorem dX8_behind_21 : decode cX8_behind 21 = .ok (.aload_n 0, 1) := by decide +kernel
theorem dX8_behind_22 : decode cX8_behind 22 = .ok (.getfield 31, 3) := by decide +kernel
theorem dX8_behind_25 : decode cX8_behind 25 = .ok (.iconst 4, 1) := by decide +kernel
theorem dX8_behind_26 : decode cX8_behind 26 = .ok (.iload_n 1, 1) := by decide +kernel
theorem dX8_behind_27 : decode cX8_behind 27 = .ok (.imul, 1) := by decide +kernel
theorem dX8_behind_28 : decode cX8_behind 28 = .ok (.iload_n 2, 1) := by decide +kernel
theorem dX8_behind_29 : decode cX8_behind 29 = .ok (.iadd, 1) := by decide +kernel
theorem dX8_behind_30 : decode cX8_behind 30 = .ok (.iaload, 1) := by decide +kernel
theorem dX8_behind_31 : decode cX8_behind 31 = .ok (.iconst 1, 1) := by decide +kernel
theorem dX8_behind_32 : decode cX8_behind 32 = .ok (.isub, 1) := by decide +kernel
theorem dX8_behind_33 : decode cX8_behind 33 = .ok (.if_icmp .ge 34, 3) := by decide +kernel
theorem dX8_behind_36 : decode cX8_behind 36 = .ok (.aload_n 0, 1) := by decide +kernel
theorem dX8_behind_37 : decode cX8_behind 37 = .ok (.iload_n 1, 1) := by decide +kernel
theorem dX8_behind_38 : decode cX8_behind 38 = .ok (.aload_n 0, 1) := by decide +kernel
theorem dX8_behind_39 : decode cX8_behind 39 = .ok (.getfield 90, 3) := by decide +kernel
theorem dX8_behind_42 : decode cX8_behind 42 = .ok (.iload_n 3, 1) := by decide +kernel
theorem dX8_behind_43 : decode cX8_behind 43 = .ok (.iadd, 1) := by decide +kernel
theorem dX8_behind_44 : decode cX8_behind 44 = .ok (.iconst 1, 1) := by decide +kernel
theorem dX8_behind_45 : decode cX8_behind 45 = .ok (.iadd, 1) := by decide +kernel
theorem dX8_behind_46 : decode cX8_behind 46 = .ok (.invokevirtual 151, 3) := by decide +kernel
theorem dX8_behind_49 : decode cX8_behind 49 = .ok (.aload_n 0, 1) := by decide +kernel
theorem dX8_behind_50 : decode cX8_behind 50 = .ok (.iload_n 1, 1) := by decide +kernel
theorem dX8_behind_51 : decode cX8_behind 51 = .ok (.aload_n 0, 1) := by decide +kernel
theorem dX8_behind_52 : decode cX8_behind 52 = .ok (.getfield 90, 3) := by decide +kernel
theorem dX8_behind_55 : decode cX8_behind 55 = .ok (.invokevirtual 151, 3) := by decide +kernel
theorem dX8_behind_58 : decode cX8_behind 58 = .ok (.if_icmp .ne 9, 3) := by decide +kernel
theorem dX8_behind_61 : decode cX8_behind 61 = .ok (.iinc 3 1, 3) := by decide +kernel
theorem dX8_behind_64 : decode cX8_behind 64 = .ok (.goto (-62), 3) := by decide +kernel
theorem dX8_behind_67 : decode cX8_behind 67 = .ok (.iload_n 3, 1) := by decide +kernel
theorem dX8_behind_68 : decode cX8_behind 68 = .ok (.ireturn, 1) := by decide +kernel
theorem dX8_callBus_0 : decode cX8_callBus 0 = .ok (.aload_n 0, 1) := by decide +kernel
theorem dX8_callBus_1 : decode cX8_callBus 1 = .ok (.aload_n 0, 1) := by decide +kernel
theorem dX8_callBus_2 : decode cX8_callBus 2 = .ok (.iload_n 1, 1) := by decide +kernel
theorem dX8_callBus_3 : decode cX8_callBus 3 = .ok (.iload_n 2, 1) := by decide +kernel
theorem dX8_callBus_4 : decode cX8_callBus 4 = .ok (.invokevirtual 207, 3) := by decide +kernel
theorem dX8_callBus_7 : decode cX8_callBus 7 = .ok (.invokevirtual 102, 3) := by decide +kernel
theorem dX8_callBus_10 : decode cX8_callBus 10 = .ok (.ifCond .ne 5, 3) := by decide +kernel
theorem dX8_callBus_13 : decode cX8_callBus 13 = .ok (.iconst 0, 1) := by decide +kernel
theorem dX8_callBus_14 : decode cX8_callBus 14 = .ok (.ireturn, 1) := by decide +kernel
theorem dX8_callBus_15 : decode cX8_callBus 15 = .ok (.aload_n 0, 1) := by decide +kernel
theorem dX8_callBus_16 : decode cX8_callBus 16 = .ok (.iload_n 1, 1) := by decide +kernel
theorem dX8_callBus_17 : decode cX8_callBus 17 = .ok (.aload_n 0, 1) := by decide +kernel
theorem dX8_callBus_18 : decode cX8_callBus 18 = .ok (.getfield 90, 3) := by decide +kernel
theorem dX8_callBus_21 : decode cX8_callBus 21 = .ok (.iconst 0, 1) := by decide +kernel
theorem dX8_callBus_22 : decode cX8_callBus 22 = .ok (.invokevirtual 154, 3) := by decide +kernel
theorem dX8_callBus_25 : decode cX8_callBus 25 = .ok (.istore_n 3, 1) := by decide +kernel
theorem dX8_callBus_26 : decode cX8_callBus 26 = .ok (.aload_n 0, 1) := by decide +kernel
theorem dX8_callBus_27 : decode cX8_callBus 27 = .ok (.iload_n 1, 1) := by decide +kernel
theorem dX8_callBus_28 : decode cX8_callBus 28 = .ok (.iload_n 2, 1) := by decide +kernel
theorem dX8_callBus_29 : decode cX8_callBus 29 = .ok (.invokevirtual 204, 3) := by decide +kernel
theorem dX8_callBus_32 : decode cX8_callBus 32 = .ok (.istore 4, 2) := by decide +kernel
theorem dX8_callBus_34 : decode cX8_callBus 34 = .ok (.aload_n 0, 1) := by decide +kernel
theorem dX8_callBus_35 : decode cX8_callBus 35 = .ok (.iconst 1, 1) := by decide +kernel
theorem dX8_callBus_36 : decode cX8_callBus 36 = .ok (.putfield 86, 3) := by decide +kernel
theorem dX8_callBus_39 : decode cX8_callBus 39 = .ok (.aload_n 0, 1) := by decide +kernel
theorem dX8_callBus_40 : decode cX8_callBus 40 = .ok (.getfield 53, 3) := by decide +kernel
theorem dX8_callBus_43 : decode cX8_callBus 43 = .ok (.iload_n 1, 1) := by decide +kernel
theorem dX8_callBus_44 : decode cX8_callBus 44 = .ok (.iconst 1, 1) := by decide +kernel
theorem dX8_callBus_45 : decode cX8_callBus 45 = .ok (.bastore, 1) := by decide +kernel
theorem dX8_callBus_46 : decode cX8_callBus 46 = .ok (.aload_n 0, 1) := by decide +kernel
theorem dX8_callBus_47 : decode cX8_callBus 47 = .ok (.getfield 56, 3) := by decide +kernel
theorem dX8_callBus_50 : decode cX8_callBus 50 = .ok (.iload_n 1, 1) := by decide +kernel
theorem dX8_callBus_51 : decode cX8_callBus 51 = .ok (.aload_n 0, 1) := by decide +kernel
theorem dX8_callBus_52 : decode cX8_callBus 52 = .ok (.iload_n 1, 1) := by decide +kernel
theorem dX8_callBus_53 : decode cX8_callBus 53 = .ok (.aload_n 0, 1) := by decide +kernel
theorem dX8_callBus_54 : decode cX8_callBus 54 = .ok (.getfield 90, 3) := by decide +kernel
theorem dX8_callBus_57 : decode cX8_callBus 57 = .ok (.invokevirtual 151, 3) := by decide +kernel
theorem dX8_callBus_60 : decode cX8_callBus 60 = .ok (.iastore, 1) := by decide +kernel
theorem dX8_callBus_61 : decode cX8_callBus 61 = .ok (.aload_n 0, 1) := by decide +kernel
theorem dX8_callBus_62 : decode cX8_callBus 62 = .ok (.getfield 59, 3) := by decide +kernel
theorem dX8_callBus_65 : decode cX8_callBus 65 = .ok (.iload_n 1, 1) := by decide +kernel
theorem dX8_callBus_66 : decode cX8_callBus 66 = .ok (.iload 4, 2) := by decide +kernel
theorem dX8_callBus_68 : decode cX8_callBus 68 = .ok (.iastore, 1) := by decide +kernel
theorem dX8_callBus_69 : decode cX8_callBus 69 = .ok (.aload_n 0, 1) := by decide +kernel
theorem dX8_callBus_70 : decode cX8_callBus 70 = .ok (.getfield 62, 3) := by decide +kernel
theorem dX8_callBus_73 : decode cX8_callBus 73 = .ok (.iload_n 1, 1) := by decide +kernel
theorem dX8_callBus_74 : decode cX8_callBus 74 = .ok (.iload 4, 2) := by decide +kernel
theorem dX8_callBus_76 : decode cX8_callBus 76 = .ok (.iastore, 1) := by decide +kernel
theorem dX8_callBus_77 : decode cX8_callBus 77 = .ok (.aload_n 0, 1) := by decide +kernel
theorem dX8_callBus_78 : decode cX8_callBus 78 = .ok (.getfield 65, 3) := by decide +kernel
theorem dX8_callBus_81 : decode cX8_callBus 81 = .ok (.iload_n 1, 1) := by decide +kernel
theorem dX8_callBus_82 : decode cX8_callBus 82 = .ok (.iconst 0, 1) := by decide +kernel
theorem dX8_callBus_83 : decode cX8_callBus 83 = .ok (.iastore, 1) := by decide +kernel
theorem dX8_callBus_84 : decode cX8_callBus 84 = .ok (.iload_n 3, 1) := by decide +kernel
theorem dX8_callBus_85 : decode cX8_callBus 85 = .ok (.iload 4, 2) := by decide +kernel
theorem dX8_callBus_87 : decode cX8_callBus 87 = .ok (.if_icmp .ne 48, 3) := by decide +kernel
theorem dX8_callBus_90 : decode cX8_callBus 90 = .ok (.iload 4, 2) := by decide +kernel
theorem dX8_callBus_92 : decode cX8_callBus 92 = .ok (.aload_n 0, 1) := by decide +kernel
theorem dX8_callBus_93 : decode cX8_callBus 93 = .ok (.getfield 16, 3) := by decide +kernel
theorem dX8_callBus_96 : decode cX8_callBus 96 = .ok (.iload_n 1, 1) := by decide +kernel
theorem dX8_callBus_97 : decode cX8_callBus 97 = .ok (.iaload, 1) := by decide +kernel
theorem dX8_callBus_98 : decode cX8_callBus 98 = .ok (.iconst 1, 1) := by decide +kernel
theorem dX8_callBus_99 : decode cX8_callBus 99 = .ok (.isub, 1) := by decide +kernel
theorem dX8_callBus_100 : decode cX8_callBus 100 = .ok (.if_icmp .ge 35, 3) := by decide +kernel
theorem dX8_callBus_103 : decode cX8_callBus 103 = .ok (.aload_n 0, 1) := by decide +kernel
theorem dX8_callBus_104 : decode cX8_callBus 104 = .ok (.getfield 62, 3) := by decide +kernel
theorem dX8_callBus_107 : decode cX8_callBus 107 = .ok (.iload_n 1, 1) := by decide +kernel
theorem dX8_callBus_108 : decode cX8_callBus 108 = .ok (.iload 4, 2) := by decide +kernel
theorem dX8_callBus_110 : decode cX8_callBus 110 = .ok (.iconst 1, 1) := by decide +kernel
theorem dX8_callBus_111 : decode cX8_callBus 111 = .ok (.iadd, 1) := by decide +kernel
theorem dX8_callBus_112 : decode cX8_callBus 112 = .ok (.iastore, 1) := by decide +kernel
theorem dX8_callBus_113 : decode cX8_callBus 113 = .ok (.aload_n 0, 1) := by decide +kernel
theorem dX8_callBus_114 : decode cX8_callBus 114 = .ok (.getfield 65, 3) := by decide +kernel
theorem dX8_callBus_117 : decode cX8_callBus 117 = .ok (.iload_n 1, 1) := by decide +kernel
theorem dX8_callBus_118 : decode cX8_callBus 118 = .ok (.iconst 5, 1) := by decide +kernel
theorem dX8_callBus_119 : decode cX8_callBus 119 = .ok (.aload_n 0, 1) := by decide +kernel
theorem dX8_callBus_120 : decode cX8_callBus 120 = .ok (.iload_n 1, 1) := by decide +kernel
theorem dX8_callBus_121 : decode cX8_callBus 121 = .ok (.iload 4, 2) := by decide +kernel
theorem dX8_callBus_123 : decode cX8_callBus 123 = .ok (.iconst 1, 1) := by decide +kernel
theorem dX8_callBus_124 : decode cX8_callBus 124 = .ok (.iadd, 1) := by decide +kernel
theorem dX8_callBus_125 : decode cX8_callBus 125 = .ok (.invokevirtual 210, 3) := by decide +kernel
theorem dX8_callBus_128 : decode cX8_callBus 128 = .ok (.invokestatic 213, 3) := by decide +kernel
theorem dX8_callBus_131 : decode cX8_callBus 131 = .ok (.iastore, 1) := by decide +kernel
theorem dX8_callBus_132 : decode cX8_callBus 132 = .ok (.goto 46, 3) := by decide +kernel
theorem dX8_callBus_135 : decode cX8_callBus 135 = .ok (.iload_n 3, 1) := by decide +kernel
theorem dX8_callBus_136 : decode cX8_callBus 136 = .ok (.iconst (-1), 1) := by decide +kernel
theorem dX8_callBus_137 : decode cX8_callBus 137 = .ok (.if_icmp .eq 41, 3) := by decide +kernel
theorem dX8_callBus_140 : decode cX8_callBus 140 = .ok (.iload 4, 2) := by decide +kernel
theorem dX8_callBus_142 : decode cX8_callBus 142 = .ok (.iload_n 3, 1) := by decide +kernel
theorem dX8_callBus_143 : decode cX8_callBus 143 = .ok (.if_icmp .le 35, 3) := by decide +kernel
theorem dX8_callBus_146 : decode cX8_callBus 146 = .ok (.aload_n 0, 1) := by decide +kernel
theorem dX8_callBus_147 : decode cX8_callBus 147 = .ok (.getfield 62, 3) := by decide +kernel
theorem dX8_callBus_150 : decode cX8_callBus 150 = .ok (.iload_n 1, 1) := by decide +kernel
theorem dX8_callBus_151 : decode cX8_callBus 151 = .ok (.iload_n 3, 1) := by decide +kernel
theorem dX8_callBus_152 : decode cX8_callBus 152 = .ok (.iastore, 1) := by decide +kernel
theorem dX8_callBus_153 : decode cX8_callBus 153 = .ok (.aload_n 0, 1) := by decide +kernel
theorem dX8_callBus_154 : decode cX8_callBus 154 = .ok (.getfield 65, 3) := by decide +kernel
theorem dX8_callBus_157 : decode cX8_callBus 157 = .ok (.iload_n 1, 1) := by decide +kernel
theorem dX8_callBus_158 : decode cX8_callBus 158 = .ok (.iconst 5, 1) := by decide +kernel
theorem dX8_callBus_159 : decode cX8_callBus 159 = .ok (.aload_n 0, 1) := by decide +kernel
theorem dX8_callBus_160 : decode cX8_callBus 160 = .ok (.iload_n 1, 1) := by decide +kernel
theorem dX8_callBus_161 : decode cX8_callBus 161 = .ok (.iload_n 3, 1) := by decide +kernel
theorem dX8_callBus_162 : decode cX8_callBus 162 = .ok (.invokevirtual 216, 3) := by decide +kernel
theorem dX8_callBus_165 : decode cX8_callBus 165 = .ok (.invokestatic 213, 3) := by decide +kernel
theorem dX8_callBus_168 : decode cX8_callBus 168 = .ok (.aload_n 0, 1) := by decide +kernel
theorem dX8_callBus_169 : decode cX8_callBus 169 = .ok (.iload_n 1, 1) := by decide +kernel
theorem dX8_callBus_170 : decode cX8_callBus 170 = .ok (.iload_n 3, 1) := by decide +kernel
theorem dX8_callBus_171 : decode cX8_callBus 171 = .ok (.invokevirtual 210, 3) := by decide +kernel
theorem dX8_callBus_174 : decode cX8_callBus 174 = .ok (.invokestatic 213, 3) := by decide +kernel
theorem dX8_callBus_177 : decode cX8_callBus 177 = .ok (.iastore, 1) := by decide +kernel
theorem dX8_callBus_178 : decode cX8_callBus 178 = .ok (.aload_n 0, 1) := by decide +kernel
theorem dX8_callBus_179 : decode cX8_callBus 179 = .ok (.getfield 65, 3) := by decide +kernel
theorem dX8_callBus_182 : decode cX8_callBus 182 = .ok (.iload_n 1, 1) := by decide +kernel
theorem dX8_callBus_183 : decode cX8_callBus 183 = .ok (.iaload, 1) := by decide +kernel
theorem dX8_callBus_184 : decode cX8_callBus 184 = .ok (.ireturn, 1) := by decide +kernel
theorem dX8_clock_0 : decode cX8_clock 0 = .ok (.aload_n 0, 1) := by decide +kernel
theorem dX8_clock_1 : decode cX8_clock 1 = .ok (.iconst 0, 1) := by decide +kernel
theorem dX8_clock_2 : decode cX8_clock 2 = .ok (.putfield 72, 3) := by decide +kernel
theorem dX8_clock_5 : decode cX8_clock 5 = .ok (.aload_n 0, 1) := by decide +kernel
theorem dX8_clock_6 : decode cX8_clock 6 = .ok (.getfield 90, 3) := by decide +kernel
theorem dX8_clock_9 : decode cX8_clock 9 = .ok (.ireturn, 1) := by decide +kernel
theorem dX8_phaseNow_0 : decode cX8_phaseNow 0 = .ok (.aload_n 0, 1) := by decide +kernel
theorem dX8_phaseNow_1 : decode cX8_phaseNow 1 = .ok (.aload_n 0, 1) := by decide +kernel
theorem dX8_phaseNow_2 : decode cX8_phaseNow 2 = .ok (.iload_n 1, 1) := by decide +kernel
theorem dX8_phaseNow_3 : decode cX8_phaseNow 3 = .ok (.invokevirtual 118, 3) := by decide +kernel
theorem dX8_phaseNow_6 : decode cX8_phaseNow 6 = .ok (.ifCond .ne 7, 3) := by decide +kernel
theorem dX8_phaseNow_9 : decode cX8_phaseNow 9 = .ok (.iconst 1, 1) := by decide +kernel
theorem dX8_phaseNow_10 : decode cX8_phaseNow 10 = .ok (.goto 16, 3) := by decide +kernel
theorem dX8_phaseNow_13 : decode cX8_phaseNow 13 = .ok (.aload_n 0, 1) := by decide +kernel
theorem dX8_phaseNow_14 : decode cX8_phaseNow 14 = .ok (.iload_n 1, 1) := by decide +kernel
theorem dX8_phaseNow_15 : decode cX8_phaseNow 15 = .ok (.invokevirtual 181, 3) := by decide +kernel
theorem dX8_phaseNow_18 : decode cX8_phaseNow 18 = .ok (.ifCond .eq 7, 3) := by decide +kernel
theorem dX8_phaseNow_21 : decode cX8_phaseNow 21 = .ok (.iconst 0, 1) := by decide +kernel
theorem dX8_phaseNow_22 : decode cX8_phaseNow 22 = .ok (.goto 4, 3) := by decide +kernel
theorem dX8_phaseNow_25 : decode cX8_phaseNow 25 = .ok (.iconst 2, 1) := by decide +kernel
theorem dX8_phaseNow_26 : decode cX8_phaseNow 26 = .ok (.invokevirtual 102, 3) := by decide +kernel
theorem dX8_phaseNow_29 : decode cX8_phaseNow 29 = .ok (.ifCond .eq 16, 3) := by decide +kernel
theorem dX8_phaseNow_32 : decode cX8_phaseNow 32 = .ok (.aload_n 0, 1) := by decide +kernel
theorem dX8_phaseNow_33 : decode cX8_phaseNow 33 = .ok (.iload_n 1, 1) := by decide +kernel
theorem dX8_phaseNow_34 : decode cX8_phaseNow 34 = .ok (.aload_n 0, 1) := by decide +kernel
theorem dX8_phaseNow_35 : decode cX8_phaseNow 35 = .ok (.getfield 90, 3) := by decide +kernel
theorem dX8_phaseNow_38 : decode cX8_phaseNow 38 = .ok (.iconst 1, 1) := by decide +kernel
theorem dX8_phaseNow_39 : decode cX8_phaseNow 39 = .ok (.invokevirtual 154, 3) := by decide +kernel
theorem dX8_phaseNow_42 : decode cX8_phaseNow 42 = .ok (.goto 4, 3) := by decide +kernel
theorem dX8_phaseNow_45 : decode cX8_phaseNow 45 = .ok (.iconst 0, 1) := by decide +kernel
theorem dX8_phaseNow_46 : decode cX8_phaseNow 46 = .ok (.ireturn, 1) := by decide +kernel
theorem dX8_queue_0 : decode cX8_queue 0 = .ok (.aload_n 0, 1) := by decide +kernel
theorem dX8_queue_1 : decode cX8_queue 1 = .ok (.aload_n 0, 1) := by decide +kernel
theorem dX8_queue_2 : decode cX8_queue 2 = .ok (.iload_n 1, 1) := by decide +kernel
theorem dX8_queue_3 : decode cX8_queue 3 = .ok (.invokevirtual 118, 3) := by decide +kernel
theorem dX8_queue_6 : decode cX8_queue 6 = .ok (.ifCond .eq 7, 3) := by decide +kernel
theorem dX8_queue_9 : decode cX8_queue 9 = .ok (.iconst 0, 1) := by decide +kernel
theorem dX8_queue_10 : decode cX8_queue 10 = .ok (.goto 4, 3) := by decide +kernel
theorem dX8_queue_13 : decode cX8_queue 13 = .ok (.iconst 1, 1) := by decide +kernel
theorem dX8_queue_14 : decode cX8_queue 14 = .ok (.invokevirtual 102, 3) := by decide +kernel
theorem dX8_queue_17 : decode cX8_queue 17 = .ok (.ifCond .eq 12, 3) := by decide +kernel
theorem dX8_queue_20 : decode cX8_queue 20 = .ok (.aload_n 0, 1) := by decide +kernel
theorem dX8_queue_21 : decode cX8_queue 21 = .ok (.getfield 41, 3) := by decide +kernel
theorem dX8_queue_24 : decode cX8_queue 24 = .ok (.iload_n 1, 1) := by decide +kernel
theorem dX8_queue_25 : decode cX8_queue 25 = .ok (.iaload, 1) := by decide +kernel
theorem dX8_queue_26 : decode cX8_queue 26 = .ok (.goto 4, 3) := by decide +kernel
theorem dX8_queue_29 : decode cX8_queue 29 = .ok (.iconst 0, 1) := by decide +kernel
theorem dX8_queue_30 : decode cX8_queue 30 = .ok (.ireturn, 1) := by decide +kernel
theorem dX8_held_0 : decode cX8_held 0 = .ok (.aload_n 0, 1) := by decide +kernel
theorem dX8_held_1 : decode cX8_held 1 = .ok (.aload_n 0, 1) := by decide +kernel
theorem dX8_held_2 : decode cX8_held 2 = .ok (.iload_n 1, 1) := by decide +kernel
theorem dX8_held_3 : decode cX8_held 3 = .ok (.invokevirtual 131, 3) := by decide +kernel
theorem dX8_held_6 : decode cX8_held 6 = .ok (.ifCond .eq 7, 3) := by decide +kernel
theorem dX8_held_9 : decode cX8_held 9 = .ok (.iconst 0, 1) := by decide +kernel
theorem dX8_held_10 : decode cX8_held 10 = .ok (.goto 4, 3) := by decide +kernel
theorem dX8_held_13 : decode cX8_held 13 = .ok (.iconst 1, 1) := by decide +kernel
theorem dX8_held_14 : decode cX8_held 14 = .ok (.invokevirtual 102, 3) := by decide +kernel
theorem dX8_held_17 : decode cX8_held 17 = .ok (.ifCond .eq 11, 3) := by decide +kernel
theorem dX8_held_20 : decode cX8_held 20 = .ok (.aload_n 0, 1) := by decide +kernel
theorem dX8_held_21 : decode cX8_held 21 = .ok (.iload_n 1, 1) := by decide +kernel
theorem dX8_held_22 : decode cX8_held 22 = .ok (.invokevirtual 191, 3) := by decide +kernel
theorem dX8_held_25 : decode cX8_held 25 = .ok (.goto 4, 3) := by decide +kernel
theorem dX8_held_28 : decode cX8_held 28 = .ok (.iconst 0, 1) := by decide +kernel
theorem dX8_held_29 : decode cX8_held 29 = .ok (.ireturn, 1) := by decide +kernel
theorem dX8_come_0 : decode cX8_come 0 = .ok (.aload_n 0, 1) := by decide +kernel
theorem dX8_come_1 : decode cX8_come 1 = .ok (.iconst 0, 1) := by decide +kernel
theorem dX8_come_2 : decode cX8_come 2 = .ok (.putfield 72, 3) := by decide +kernel
theorem dX8_come_5 : decode cX8_come 5 = .ok (.aload_n 0, 1) := by decide +kernel
theorem dX8_come_6 : decode cX8_come 6 = .ok (.getfield 96, 3) := by decide +kernel
theorem dX8_come_9 : decode cX8_come 9 = .ok (.ireturn, 1) := by decide +kernel
theorem dX8_through_0 : decode cX8_through 0 = .ok (.aload_n 0, 1) := by decide +kernel
theorem dX8_through_1 : decode cX8_through 1 = .ok (.iconst 0, 1) := by decide +kernel
theorem dX8_through_2 : decode cX8_through 2 = .ok (.putfield 72, 3) := by decide +kernel
theorem dX8_through_5 : decode cX8_through 5 = .ok (.aload_n 0, 1) := by decide +kernel
theorem dX8_through_6 : decode cX8_through 6 = .ok (.getfield 99, 3) := by decide +kernel
theorem dX8_through_9 : decode cX8_through 9 = .ok (.ireturn, 1) := by decide +kernel
theorem dJ13_bitCount_95d88_0 : decode cJ13_bitCount_95d88 0 = .ok (.lload_n 0, 1) := by decide +kernel
theorem dJ13_bitCount_95d88_1 : decode cJ13_bitCount_95d88 1 = .ok (.lload_n 0, 1) := by decide +kernel
theorem dJ13_bitCount_95d88_2 : decode cJ13_bitCount_95d88 2 = .ok (.iconst 1, 1) := by decide +kernel
theorem dJ13_bitCount_95d88_3 : decode cJ13_bitCount_95d88 3 = .ok (.lushr, 1) := by decide +kernel
theorem dJ13_bitCount_95d88_4 : decode cJ13_bitCount_95d88 4 = .ok (.ldc2_w 314, 3) := by decide +kernel
theorem dJ13_bitCount_95d88_7 : decode cJ13_bitCount_95d88 7 = .ok (.land, 1) := by decide +kernel
theorem dJ13_bitCount_95d88_8 : decode cJ13_bitCount_95d88 8 = .ok (.lsub, 1) := by decide +kernel
theorem dJ13_bitCount_95d88_9 : decode cJ13_bitCount_95d88 9 = .ok (.lstore_n 0, 1) := by decide +kernel
theorem dJ13_bitCount_95d88_10 : decode cJ13_bitCount_95d88 10 = .ok (.lload_n 0, 1) := by decide +kernel
theorem dJ13_bitCount_95d88_11 : decode cJ13_bitCount_95d88 11 = .ok (.ldc2_w 316, 3) := by decide +kernel
theorem dJ13_bitCount_95d88_14 : decode cJ13_bitCount_95d88 14 = .ok (.land, 1) := by decide +kernel
theorem dJ13_bitCount_95d88_15 : decode cJ13_bitCount_95d88 15 = .ok (.lload_n 0, 1) := by decide +kernel
theorem dJ13_bitCount_95d88_16 : decode cJ13_bitCount_95d88 16 = .ok (.iconst 2, 1) := by decide +kernel
theorem dJ13_bitCount_95d88_17 : decode cJ13_bitCount_95d88 17 = .ok (.lushr, 1) := by decide +kernel
theorem dJ13_bitCount_95d88_18 : decode cJ13_bitCount_95d88 18 = .ok (.ldc2_w 316, 3) := by decide +kernel
theorem dJ13_bitCount_95d88_21 : decode cJ13_bitCount_95d88 21 = .ok (.land, 1) := by decide +kernel
theorem dJ13_bitCount_95d88_22 : decode cJ13_bitCount_95d88 22 = .ok (.ladd, 1) := by decide +kernel
theorem dJ13_bitCount_95d88_23 : decode cJ13_bitCount_95d88 23 = .ok (.lstore_n 0, 1) := by decide +kernel
theorem dJ13_bitCount_95d88_24 : decode cJ13_bitCount_95d88 24 = .ok (.lload_n 0, 1) := by decide +kernel
theorem dJ13_bitCount_95d88_25 : decode cJ13_bitCount_95d88 25 = .ok (.lload_n 0, 1) := by decide +kernel
theorem dJ13_bitCount_95d88_26 : decode cJ13_bitCount_95d88 26 = .ok (.iconst 4, 1) := by decide +kernel
theorem dJ13_bitCount_95d88_27 : decode cJ13_bitCount_95d88 27 = .ok (.lushr, 1) := by decide +kernel
theorem dJ13_bitCount_95d88_28 : decode cJ13_bitCount_95d88 28 = .ok (.ladd, 1) := by decide +kernel
theorem dJ13_bitCount_95d88_29 : decode cJ13_bitCount_95d88 29 = .ok (.ldc2_w 318, 3) := by decide +kernel
theorem dJ13_bitCount_95d88_32 : decode cJ13_bitCount_95d88 32 = .ok (.land, 1) := by decide +kernel
theorem dJ13_bitCount_95d88_33 : decode cJ13_bitCount_95d88 33 = .ok (.lstore_n 0, 1) := by decide +kernel
theorem dJ13_bitCount_95d88_34 : decode cJ13_bitCount_95d88 34 = .ok (.lload_n 0, 1) := by decide +kernel
theorem dJ13_bitCount_95d88_35 : decode cJ13_bitCount_95d88 35 = .ok (.lload_n 0, 1) := by decide +kernel
theorem dJ13_bitCount_95d88_36 : decode cJ13_bitCount_95d88 36 = .ok (.bipush 8, 2) := by decide +kernel
theorem dJ13_bitCount_95d88_38 : decode cJ13_bitCount_95d88 38 = .ok (.lushr, 1) := by decide +kernel
theorem dJ13_bitCount_95d88_39 : decode cJ13_bitCount_95d88 39 = .ok (.ladd, 1) := by decide +kernel
theorem dJ13_bitCount_95d88_40 : decode cJ13_bitCount_95d88 40 = .ok (.lstore_n 0, 1) := by decide +kernel
theorem dJ13_bitCount_95d88_41 : decode cJ13_bitCount_95d88 41 = .ok (.lload_n 0, 1) := by decide +kernel
theorem dJ13_bitCount_95d88_42 : decode cJ13_bitCount_95d88 42 = .ok (.lload_n 0, 1) := by decide +kernel
theorem dJ13_bitCount_95d88_43 : decode cJ13_bitCount_95d88 43 = .ok (.bipush 16, 2) := by decide +kernel
theorem dJ13_bitCount_95d88_45 : decode cJ13_bitCount_95d88 45 = .ok (.lushr, 1) := by decide +kernel
theorem dJ13_bitCount_95d88_46 : decode cJ13_bitCount_95d88 46 = .ok (.ladd, 1) := by decide +kernel
theorem dJ13_bitCount_95d88_47 : decode cJ13_bitCount_95d88 47 = .ok (.lstore_n 0, 1) := by decide +kernel
theorem dJ13_bitCount_95d88_48 : decode cJ13_bitCount_95d88 48 = .ok (.lload_n 0, 1) := by decide +kernel
theorem dJ13_bitCount_95d88_49 : decode cJ13_bitCount_95d88 49 = .ok (.lload_n 0, 1) := by decide +kernel
theorem dJ13_bitCount_95d88_50 : decode cJ13_bitCount_95d88 50 = .ok (.bipush 32, 2) := by decide +kernel
theorem dJ13_bitCount_95d88_52 : decode cJ13_bitCount_95d88 52 = .ok (.lushr, 1) := by decide +kernel
theorem dJ13_bitCount_95d88_53 : decode cJ13_bitCount_95d88 53 = .ok (.ladd, 1) := by decide +kernel
theorem dJ13_bitCount_95d88_54 : decode cJ13_bitCount_95d88 54 = .ok (.lstore_n 0, 1) := by decide +kernel
theorem dJ13_bitCount_95d88_55 : decode cJ13_bitCount_95d88 55 = .ok (.lload_n 0, 1) := by decide +kernel
theorem dJ13_bitCount_95d88_56 : decode cJ13_bitCount_95d88 56 = .ok (.l2i, 1) := by decide +kernel
theorem dJ13_bitCount_95d88_57 : decode cJ13_bitCount_95d88 57 = .ok (.bipush 127, 2) := by decide +kernel
theorem dJ13_bitCount_95d88_59 : decode cJ13_bitCount_95d88 59 = .ok (.iand, 1) := by decide +kernel
theorem dJ13_bitCount_95d88_60 : decode cJ13_bitCount_95d88 60 = .ok (.ireturn, 1) := by decide +kernel
theorem dJ9_max_7cf53_0 : decode cJ9_max_7cf53 0 = .ok (.iload_n 0, 1) := by decide +kernel
theorem dJ9_max_7cf53_1 : decode cJ9_max_7cf53 1 = .ok (.iload_n 1, 1) := by decide +kernel
theorem dJ9_max_7cf53_2 : decode cJ9_max_7cf53 2 = .ok (.if_icmp .lt 7, 3) := by decide +kernel
theorem dJ9_max_7cf53_5 : decode cJ9_max_7cf53 5 = .ok (.iload_n 0, 1) := by decide +kernel
theorem dJ9_max_7cf53_6 : decode cJ9_max_7cf53 6 = .ok (.goto 4, 3) := by decide +kernel
theorem dJ9_max_7cf53_9 : decode cJ9_max_7cf53 9 = .ok (.iload_n 1, 1) := by decide +kernel
theorem dJ9_max_7cf53_10 : decode cJ9_max_7cf53 10 = .ok (.ireturn, 1) := by decide +kernel
theorem dJ9_min_7cf53_0 : decode cJ9_min_7cf53 0 = .ok (.iload_n 0, 1) := by decide +kernel
theorem dJ9_min_7cf53_1 : decode cJ9_min_7cf53 1 = .ok (.iload_n 1, 1) := by decide +kernel
theorem dJ9_min_7cf53_2 : decode cJ9_min_7cf53 2 = .ok (.if_icmp .gt 7, 3) := by decide +kernel
theorem dJ9_min_7cf53_5 : decode cJ9_min_7cf53 5 = .ok (.iload_n 0, 1) := by decide +kernel
theorem dJ9_min_7cf53_6 : decode cJ9_min_7cf53 6 = .ok (.goto 4, 3) := by decide +kernel
theorem dJ9_min_7cf53_9 : decode cJ9_min_7cf53 9 = .ok (.iload_n 1, 1) := by decide +kernel
theorem dJ9_min_7cf53_10 : decode cJ9_min_7cf53 10 = .ok (.ireturn, 1) := by decide +kernel
theorem dJ7_fill_53178_0 : decode cJ7_fill_53178 0 = .ok (.iconst 0, 1) := by decide +kernel
theorem dJ7_fill_53178_1 : decode cJ7_fill_53178 1 = .ok (.istore_n 2, 1) := by decide +kernel
theorem dJ7_fill_53178_2 : decode cJ7_fill_53178 2 = .ok (.aload_n 0, 1) := by decide +kernel
theorem dJ7_fill_53178_3 : decode cJ7_fill_53178 3 = .ok (.arraylength, 1) := by decide +kernel
theorem dJ7_fill_53178_4 : decode cJ7_fill_53178 4 = .ok (.istore_n 3, 1) := by decide +kernel
theorem dJ7_fill_53178_5 : decode cJ7_fill_53178 5 = .ok (.iload_n 2, 1) := by decide +kernel
theorem dJ7_fill_53178_6 : decode cJ7_fill_53178 6 = .ok (.iload_n 3, 1) := by decide +kernel
theorem dJ7_fill_53178_7 : decode cJ7_fill_53178 7 = .ok (.if_icmp .ge 13, 3) := by decide +kernel
theorem dJ7_fill_53178_10 : decode cJ7_fill_53178 10 = .ok (.aload_n 0, 1) := by decide +kernel
theorem dJ7_fill_53178_11 : decode cJ7_fill_53178 11 = .ok (.iload_n 2, 1) := by decide +kernel
theorem dJ7_fill_53178_12 : decode cJ7_fill_53178 12 = .ok (.iload_n 1, 1) := by decide +kernel
theorem dJ7_fill_53178_13 : decode cJ7_fill_53178 13 = .ok (.iastore, 1) := by decide +kernel
theorem dJ7_fill_53178_14 : decode cJ7_fill_53178 14 = .ok (.iinc 2 1, 3) := by decide +kernel
theorem dJ7_fill_53178_17 : decode cJ7_fill_53178 17 = .ok (.goto (-12), 3) := by decide +kernel
theorem dJ7_fill_53178_20 : decode cJ7_fill_53178 20 = .ok (.return_, 1) := by decide +kernel
theorem dL_begin_0 : decode cL_begin 0 = .ok (.aload_n 0, 1) := by decide +kernel
theorem dL_begin_1 : decode cL_begin 1 = .ok (.iload_n 1, 1) := by decide +kernel
theorem dL_begin_2 : decode cL_begin 2 = .ok (.iload_n 2, 1) := by decide +kernel
theorem dL_begin_3 : decode cL_begin 3 = .ok (.invokevirtual 7, 3) := by decide +kernel
theorem dL_begin_6 : decode cL_begin 6 = .ok (.goto 6, 3) := by decide +kernel
theorem dL_begin_9 : decode cL_begin 9 = .ok (.astore_n 3, 1) := by decide +kernel
theorem dL_begin_10 : decode cL_begin 10 = .ok (.iconst 1, 1) := by decide +kernel
theorem dL_begin_11 : decode cL_begin 11 = .ok (.ireturn, 1) := by decide +kernel
theorem dL_begin_12 : decode cL_begin 12 = .ok (.iconst 0, 1) := by decide +kernel
theorem dL_begin_13 : decode cL_begin 13 = .ok (.ireturn, 1) := by decide +kernel
theorem dL_setConflict_0 : decode cL_setConflict 0 = .ok (.aload 5, 2) := by decide +kernel
theorem dL_setConflict_2 : decode cL_setConflict 2 = .ok (.iconst 0, 1) := by decide +kernel
theorem dL_setConflict_3 : decode cL_setConflict 3 = .ok (.aload_n 0, 1) := by decide +kernel
theorem dL_setConflict_4 : decode cL_setConflict 4 = .ok (.iload_n 1, 1) := by decide +kernel
theorem dL_setConflict_5 : decode cL_setConflict 5 = .ok (.iload_n 2, 1) := by decide +kernel
theorem dL_setConflict_6 : decode cL_setConflict 6 = .ok (.iload_n 3, 1) := by decide +kernel
theorem dL_setConflict_7 : decode cL_setConflict 7 = .ok (.iload 4, 2) := by decide +kernel
theorem dL_setConflict_9 : decode cL_setConflict 9 = .ok (.invokevirtual 15, 3) := by decide +kernel
theorem dL_setConflict_12 : decode cL_setConflict 12 = .ok (.i2l, 1) := by decide +kernel
theorem dL_setConflict_13 : decode cL_setConflict 13 = .ok (.lastore, 1) := by decide +kernel
theorem dL_setConflict_14 : decode cL_setConflict 14 = .ok (.goto 15, 3) := by decide +kernel
theorem dL_setConflict_17 : decode cL_setConflict 17 = .ok (.astore 6, 2) := by decide +kernel
theorem dL_setConflict_19 : decode cL_setConflict 19 = .ok (.iconst 1, 1) := by decide +kernel
theorem dL_setConflict_20 : decode cL_setConflict 20 = .ok (.ireturn, 1) := by decide +kernel
theorem dL_setConflict_21 : decode cL_setConflict 21 = .ok (.astore 6, 2) := by decide +kernel
theorem dL_setConflict_23 : decode cL_setConflict 23 = .ok (.iconst 2, 1) := by decide +kernel
theorem dL_setConflict_24 : decode cL_setConflict 24 = .ok (.ireturn, 1) := by decide +kernel
theorem dL_setConflict_25 : decode cL_setConflict 25 = .ok (.astore 6, 2) := by decide +kernel
theorem dL_setConflict_27 : decode cL_setConflict 27 = .ok (.iconst 3, 1) := by decide +kernel
theorem dL_setConflict_28 : decode cL_setConflict 28 = .ok (.ireturn, 1) := by decide +kernel
theorem dL_setConflict_29 : decode cL_setConflict 29 = .ok (.iconst 0, 1) := by decide +kernel
theorem dL_setConflict_30 : decode cL_setConflict 30 = .ok (.ireturn, 1) := by decide +kernel
theorem dL_setPhases_0 : decode cL_setPhases 0 = .ok (.aload 6, 2) := by decide +kernel
theorem dL_setPhases_2 : decode cL_setPhases 2 = .ok (.iconst 0, 1) := by decide +kernel
theorem dL_setPhases_3 : decode cL_setPhases 3 = .ok (.aload_n 0, 1) := by decide +kernel
theorem dL_setPhases_4 : decode cL_setPhases 4 = .ok (.iload_n 1, 1) := by decide +kernel
theorem dL_setPhases_5 : decode cL_setPhases 5 = .ok (.iload_n 2, 1) := by decide +kernel
theorem dL_setPhases_6 : decode cL_setPhases 6 = .ok (.iload_n 3, 1) := by decide +kernel
theorem dL_setPhases_7 : decode cL_setPhases 7 = .ok (.iload 4, 2) := by decide +kernel
theorem dL_setPhases_9 : decode cL_setPhases 9 = .ok (.iload 5, 2) := by decide +kernel
theorem dL_setPhases_11 : decode cL_setPhases 11 = .ok (.invokevirtual 23, 3) := by decide +kernel
theorem dL_setPhases_14 : decode cL_setPhases 14 = .ok (.i2l, 1) := by decide +kernel
theorem dL_setPhases_15 : decode cL_setPhases 15 = .ok (.lastore, 1) := by decide +kernel
theorem dL_setPhases_16 : decode cL_setPhases 16 = .ok (.goto 15, 3) := by decide +kernel
theorem dL_setPhases_19 : decode cL_setPhases 19 = .ok (.astore 7, 2) := by decide +kernel
theorem dL_setPhases_21 : decode cL_setPhases 21 = .ok (.iconst 1, 1) := by decide +kernel
theorem dL_setPhases_22 : decode cL_setPhases 22 = .ok (.ireturn, 1) := by decide +kernel
theorem dL_setPhases_23 : decode cL_setPhases 23 = .ok (.astore 7, 2) := by decide +kernel
theorem dL_setPhases_25 : decode cL_setPhases 25 = .ok (.iconst 2, 1) := by decide +kernel
theorem dL_setPhases_26 : decode cL_setPhases 26 = .ok (.ireturn, 1) := by decide +kernel
theorem dL_setPhases_27 : decode cL_setPhases 27 = .ok (.astore 7, 2) := by decide +kernel
theorem dL_setPhases_29 : decode cL_setPhases 29 = .ok (.iconst 3, 1) := by decide +kernel
theorem dL_setPhases_30 : decode cL_setPhases 30 = .ok (.ireturn, 1) := by decide +kernel
theorem dL_setPhases_31 : decode cL_setPhases 31 = .ok (.iconst 0, 1) := by decide +kernel
theorem dL_setPhases_32 : decode cL_setPhases 32 = .ok (.ireturn, 1) := by decide +kernel
theorem dL_setFlow_0 : decode cL_setFlow 0 = .ok (.aload 4, 2) := by decide +kernel
theorem dL_setFlow_2 : decode cL_setFlow 2 = .ok (.iconst 0, 1) := by decide +kernel
theorem dL_setFlow_3 : decode cL_setFlow 3 = .ok (.aload_n 0, 1) := by decide +kernel
theorem dL_setFlow_4 : decode cL_setFlow 4 = .ok (.iload_n 1, 1) := by decide +kernel
theorem dL_setFlow_5 : decode cL_setFlow 5 = .ok (.iload_n 2, 1) := by decide +kernel
theorem dL_setFlow_6 : decode cL_setFlow 6 = .ok (.iload_n 3, 1) := by decide +kernel
theorem dL_setFlow_7 : decode cL_setFlow 7 = .ok (.invokevirtual 27, 3) := by decide +kernel
theorem dL_setFlow_10 : decode cL_setFlow 10 = .ok (.i2l, 1) := by decide +kernel
theorem dL_setFlow_11 : decode cL_setFlow 11 = .ok (.lastore, 1) := by decide +kernel
theorem dL_setFlow_12 : decode cL_setFlow 12 = .ok (.goto 15, 3) := by decide +kernel
theorem dL_setFlow_15 : decode cL_setFlow 15 = .ok (.astore 5, 2) := by decide +kernel
theorem dL_setFlow_17 : decode cL_setFlow 17 = .ok (.iconst 1, 1) := by decide +kernel
theorem dL_setFlow_18 : decode cL_setFlow 18 = .ok (.ireturn, 1) := by decide +kernel
theorem dL_setFlow_19 : decode cL_setFlow 19 = .ok (.astore 5, 2) := by decide +kernel
theorem dL_setFlow_21 : decode cL_setFlow 21 = .ok (.iconst 2, 1) := by decide +kernel
theorem dL_setFlow_22 : decode cL_setFlow 22 = .ok (.ireturn, 1) := by decide +kernel
theorem dL_setFlow_23 : decode cL_setFlow 23 = .ok (.astore 5, 2) := by decide +kernel
theorem dL_setFlow_25 : decode cL_setFlow 25 = .ok (.iconst 3, 1) := by decide +kernel
theorem dL_setFlow_26 : decode cL_setFlow 26 = .ok (.ireturn, 1) := by decide +kernel
theorem dL_setFlow_27 : decode cL_setFlow 27 = .ok (.iconst 0, 1) := by decide +kernel
theorem dL_setFlow_28 : decode cL_setFlow 28 = .ok (.ireturn, 1) := by decide +kernel
theorem dL_setLink_0 : decode cL_setLink 0 = .ok (.aload_n 0, 1) := by decide +kernel
theorem dL_setLink_1 : decode cL_setLink 1 = .ok (.iload_n 1, 1) := by decide +kernel
theorem dL_setLink_2 : decode cL_setLink 2 = .ok (.iload_n 2, 1) := by decide +kernel
theorem dL_setLink_3 : decode cL_setLink 3 = .ok (.iload_n 3, 1) := by decide +kernel
theorem dL_setLink_4 : decode cL_setLink 4 = .ok (.invokevirtual 31, 3) := by decide +kernel
theorem dL_setLink_7 : decode cL_setLink 7 = .ok (.goto 15, 3) := by decide +kernel
theorem dL_setLink_10 : decode cL_setLink 10 = .ok (.astore 4, 2) := by decide +kernel
theorem dL_setLink_12 : decode cL_setLink 12 = .ok (.iconst 1, 1) := by decide +kernel
theorem dL_setLink_13 : decode cL_setLink 13 = .ok (.ireturn, 1) := by decide +kernel
theorem dL_setLink_14 : decode cL_setLink 14 = .ok (.astore 4, 2) := by decide +kernel
theorem dL_setLink_16 : decode cL_setLink 16 = .ok (.iconst 2, 1) := by decide +kernel
theorem dL_setLink_17 : decode cL_setLink 17 = .ok (.ireturn, 1) := by decide +kernel
theorem dL_setLink_18 : decode cL_setLink 18 = .ok (.astore 4, 2) := by decide +kernel
theorem dL_setLink_20 : decode cL_setLink 20 = .ok (.iconst 3, 1) := by decide +kernel
theorem dL_setLink_21 : decode cL_setLink 21 = .ok (.ireturn, 1) := by decide +kernel
theorem dL_setLink_22 : decode cL_setLink 22 = .ok (.iconst 0, 1) := by decide +kernel
theorem dL_setLink_23 : decode cL_setLink 23 = .ok (.ireturn, 1) := by decide +kernel
theorem dL_setOffset_0 : decode cL_setOffset 0 = .ok (.aload_n 3, 1) := by decide +kernel
theorem dL_setOffset_1 : decode cL_setOffset 1 = .ok (.iconst 0, 1) := by decide +kernel
theorem dL_setOffset_2 : decode cL_setOffset 2 = .ok (.aload_n 0, 1) := by decide +kernel
theorem dL_setOffset_3 : decode cL_setOffset 3 = .ok (.iload_n 1, 1) := by decide +kernel
theorem dL_setOffset_4 : decode cL_setOffset 4 = .ok (.iload_n 2, 1) := by decide +kernel
theorem dL_setOffset_5 : decode cL_setOffset 5 = .ok (.invokevirtual 35, 3) := by decide +kernel
theorem dL_setOffset_8 : decode cL_setOffset 8 = .ok (.i2l, 1) := by decide +kernel
theorem dL_setOffset_9 : decode cL_setOffset 9 = .ok (.lastore, 1) := by decide +kernel
theorem dL_setOffset_10 : decode cL_setOffset 10 = .ok (.goto 15, 3) := by decide +kernel
theorem dL_setOffset_13 : decode cL_setOffset 13 = .ok (.astore 4, 2) := by decide +kernel
theorem dL_setOffset_15 : decode cL_setOffset 15 = .ok (.iconst 1, 1) := by decide +kernel
theorem dL_setOffset_16 : decode cL_setOffset 16 = .ok (.ireturn, 1) := by decide +kernel
theorem dL_setOffset_17 : decode cL_setOffset 17 = .ok (.astore 4, 2) := by decide +kernel
theorem dL_setOffset_19 : decode cL_setOffset 19 = .ok (.iconst 2, 1) := by decide +kernel
theorem dL_setOffset_20 : decode cL_setOffset 20 = .ok (.ireturn, 1) := by decide +kernel
theorem dL_setOffset_21 : decode cL_setOffset 21 = .ok (.astore 4, 2) := by decide +kernel
theorem dL_setOffset_23 : decode cL_setOffset 23 = .ok (.iconst 3, 1) := by decide +kernel
theorem dL_setOffset_24 : decode cL_setOffset 24 = .ok (.ireturn, 1) := by decide +kernel
theorem dL_setOffset_25 : decode cL_setOffset 25 = .ok (.iconst 0, 1) := by decide +kernel
theorem dL_setOffset_26 : decode cL_setOffset 26 = .ok (.ireturn, 1) := by decide +kernel
theorem dL_improve_0 : decode cL_improve 0 = .ok (.aload_n 1, 1) := by decide +kernel
theorem dL_improve_1 : decode cL_improve 1 = .ok (.iconst 0, 1) := by decide +kernel
theorem dL_improve_2 : decode cL_improve 2 = .ok (.aload_n 0, 1) := by decide +kernel
theorem dL_improve_3 : decode cL_improve 3 = .ok (.invokevirtual 39, 3) := by decide +kernel
theorem dL_improve_6 : decode cL_improve 6 = .ok (.i2l, 1) := by decide +kernel
theorem dL_improve_7 : decode cL_improve 7 = .ok (.lastore, 1) := by decide +kernel
theorem dL_improve_8 : decode cL_improve 8 = .ok (.goto 6, 3) := by decide +kernel
theorem dL_improve_11 : decode cL_improve 11 = .ok (.astore_n 2, 1) := by decide +kernel
theorem dL_improve_12 : decode cL_improve 12 = .ok (.iconst 1, 1) := by decide +kernel
theorem dL_improve_13 : decode cL_improve 13 = .ok (.ireturn, 1) := by decide +kernel
theorem dL_improve_14 : decode cL_improve 14 = .ok (.iconst 0, 1) := by decide +kernel
theorem dL_improve_15 : decode cL_improve 15 = .ok (.ireturn, 1) := by decide +kernel
theorem dL_hasPlan_0 : decode cL_hasPlan 0 = .ok (.aload_n 2, 1) := by decide +kernel
theorem dL_hasPlan_1 : decode cL_hasPlan 1 = .ok (.iconst 0, 1) := by decide +kernel
theorem dL_hasPlan_2 : decode cL_hasPlan 2 = .ok (.aload_n 0, 1) := by decide +kernel
theorem dL_hasPlan_3 : decode cL_hasPlan 3 = .ok (.iload_n 1, 1) := by decide +kernel
theorem dL_hasPlan_4 : decode cL_hasPlan 4 = .ok (.invokevirtual 43, 3) := by decide +kernel
theorem dL_hasPlan_7 : decode cL_hasPlan 7 = .ok (.ifCond .eq 7, 3) := by decide +kernel
theorem dL_hasPlan_10 : decode cL_hasPlan 10 = .ok (.lconst 1, 1) := by decide +kernel
theorem dL_hasPlan_11 : decode cL_hasPlan 11 = .ok (.goto 4, 3) := by decide +kernel
theorem dL_hasPlan_14 : decode cL_hasPlan 14 = .ok (.lconst 0, 1) := by decide +kernel
theorem dL_hasPlan_15 : decode cL_hasPlan 15 = .ok (.lastore, 1) := by decide +kernel
theorem dL_hasPlan_16 : decode cL_hasPlan 16 = .ok (.goto 6, 3) := by decide +kernel
theorem dL_hasPlan_19 : decode cL_hasPlan 19 = .ok (.astore_n 3, 1) := by decide +kernel
theorem dL_hasPlan_20 : decode cL_hasPlan 20 = .ok (.iconst 1, 1) := by decide +kernel
theorem dL_hasPlan_21 : decode cL_hasPlan 21 = .ok (.ireturn, 1) := by decide +kernel
theorem dL_hasPlan_22 : decode cL_hasPlan 22 = .ok (.iconst 0, 1) := by decide +kernel
theorem dL_hasPlan_23 : decode cL_hasPlan 23 = .ok (.ireturn, 1) := by decide +kernel
theorem dL_green_0 : decode cL_green 0 = .ok (.aload_n 3, 1) := by decide +kernel
theorem dL_green_1 : decode cL_green 1 = .ok (.iconst 0, 1) := by decide +kernel
theorem dL_green_2 : decode cL_green 2 = .ok (.aload_n 0, 1) := by decide +kernel
theorem dL_green_3 : decode cL_green 3 = .ok (.iload_n 1, 1) := by decide +kernel
theorem dL_green_4 : decode cL_green 4 = .ok (.iload_n 2, 1) := by decide +kernel
theorem dL_green_5 : decode cL_green 5 = .ok (.invokevirtual 47, 3) := by decide +kernel
theorem dL_green_8 : decode cL_green 8 = .ok (.i2l, 1) := by decide +kernel
theorem dL_green_9 : decode cL_green 9 = .ok (.lastore, 1) := by decide +kernel
theorem dL_green_10 : decode cL_green 10 = .ok (.goto 11, 3) := by decide +kernel
theorem dL_green_13 : decode cL_green 13 = .ok (.astore 4, 2) := by decide +kernel
theorem dL_green_15 : decode cL_green 15 = .ok (.iconst 1, 1) := by decide +kernel
theorem dL_green_16 : decode cL_green 16 = .ok (.ireturn, 1) := by decide +kernel
theorem dL_green_17 : decode cL_green 17 = .ok (.astore 4, 2) := by decide +kernel
theorem dL_green_19 : decode cL_green 19 = .ok (.iconst 2, 1) := by decide +kernel
theorem dL_green_20 : decode cL_green 20 = .ok (.ireturn, 1) := by decide +kernel
theorem dL_green_21 : decode cL_green 21 = .ok (.iconst 0, 1) := by decide +kernel
theorem dL_green_22 : decode cL_green 22 = .ok (.ireturn, 1) := by decide +kernel
theorem dL_clearing_0 : decode cL_clearing 0 = .ok (.aload_n 3, 1) := by decide +kernel
theorem dL_clearing_1 : decode cL_clearing 1 = .ok (.iconst 0, 1) := by decide +kernel
theorem dL_clearing_2 : decode cL_clearing 2 = .ok (.aload_n 0, 1) := by decide +kernel
theorem dL_clearing_3 : decode cL_clearing 3 = .ok (.iload_n 1, 1) := by decide +kernel
theorem dL_clearing_4 : decode cL_clearing 4 = .ok (.iload_n 2, 1) := by decide +kernel
theorem dL_clearing_5 : decode cL_clearing 5 = .ok (.invokevirtual 50, 3) := by decide +kernel
theorem dL_clearing_8 : decode cL_clearing 8 = .ok (.i2l, 1) := by decide +kernel
theorem dL_clearing_9 : decode cL_clearing 9 = .ok (.lastore, 1) := by decide +kernel
theorem dL_clearing_10 : decode cL_clearing 10 = .ok (.goto 7, 3) := by decide +kernel
theorem dL_clearing_13 : decode cL_clearing 13 = .ok (.astore 4, 2) := by decide +kernel
theorem dL_clearing_15 : decode cL_clearing 15 = .ok (.iconst 1, 1) := by decide +kernel
theorem dL_clearing_16 : decode cL_clearing 16 = .ok (.ireturn, 1) := by decide +kernel
theorem dL_clearing_17 : decode cL_clearing 17 = .ok (.iconst 0, 1) := by decide +kernel
theorem dL_clearing_18 : decode cL_clearing 18 = .ok (.ireturn, 1) := by decide +kernel
theorem dL_offset_0 : decode cL_offset 0 = .ok (.aload_n 2, 1) := by decide +kernel
theorem dL_offset_1 : decode cL_offset 1 = .ok (.iconst 0, 1) := by decide +kernel
theorem dL_offset_2 : decode cL_offset 2 = .ok (.aload_n 0, 1) := by decide +kernel
theorem dL_offset_3 : decode cL_offset 3 = .ok (.iload_n 1, 1) := by decide +kernel
theorem dL_offset_4 : decode cL_offset 4 = .ok (.invokevirtual 53, 3) := by decide +kernel
theorem dL_offset_7 : decode cL_offset 7 = .ok (.i2l, 1) := by decide +kernel
theorem dL_offset_8 : decode cL_offset 8 = .ok (.lastore, 1) := by decide +kernel
theorem dL_offset_9 : decode cL_offset 9 = .ok (.goto 6, 3) := by decide +kernel
theorem dL_offset_12 : decode cL_offset 12 = .ok (.astore_n 3, 1) := by decide +kernel
theorem dL_offset_13 : decode cL_offset 13 = .ok (.iconst 1, 1) := by decide +kernel
theorem dL_offset_14 : decode cL_offset 14 = .ok (.ireturn, 1) := by decide +kernel
theorem dL_offset_15 : decode cL_offset 15 = .ok (.iconst 0, 1) := by decide +kernel
theorem dL_offset_16 : decode cL_offset 16 = .ok (.ireturn, 1) := by decide +kernel
theorem dL_isGreen_0 : decode cL_isGreen 0 = .ok (.aload 4, 2) := by decide +kernel
theorem dL_isGreen_2 : decode cL_isGreen 2 = .ok (.iconst 0, 1) := by decide +kernel
theorem dL_isGreen_3 : decode cL_isGreen 3 = .ok (.aload_n 0, 1) := by decide +kernel
theorem dL_isGreen_4 : decode cL_isGreen 4 = .ok (.iload_n 1, 1) := by decide +kernel
theorem dL_isGreen_5 : decode cL_isGreen 5 = .ok (.iload_n 2, 1) := by decide +kernel
theorem dL_isGreen_6 : decode cL_isGreen 6 = .ok (.iload_n 3, 1) := by decide +kernel
theorem dL_isGreen_7 : decode cL_isGreen 7 = .ok (.invokevirtual 57, 3) := by decide +kernel
theorem dL_isGreen_10 : decode cL_isGreen 10 = .ok (.ifCond .eq 7, 3) := by decide +kernel
theorem dL_isGreen_13 : decode cL_isGreen 13 = .ok (.lconst 1, 1) := by decide +kernel
theorem dL_isGreen_14 : decode cL_isGreen 14 = .ok (.goto 4, 3) := by decide +kernel
theorem dL_isGreen_17 : decode cL_isGreen 17 = .ok (.lconst 0, 1) := by decide +kernel
theorem dL_isGreen_18 : decode cL_isGreen 18 = .ok (.lastore, 1) := by decide +kernel
theorem dL_isGreen_19 : decode cL_isGreen 19 = .ok (.goto 15, 3) := by decide +kernel
theorem dL_isGreen_22 : decode cL_isGreen 22 = .ok (.astore 5, 2) := by decide +kernel
theorem dL_isGreen_24 : decode cL_isGreen 24 = .ok (.iconst 1, 1) := by decide +kernel
theorem dL_isGreen_25 : decode cL_isGreen 25 = .ok (.ireturn, 1) := by decide +kernel
theorem dL_isGreen_26 : decode cL_isGreen 26 = .ok (.astore 5, 2) := by decide +kernel
theorem dL_isGreen_28 : decode cL_isGreen 28 = .ok (.iconst 2, 1) := by decide +kernel
theorem dL_isGreen_29 : decode cL_isGreen 29 = .ok (.ireturn, 1) := by decide +kernel
theorem dL_isGreen_30 : decode cL_isGreen 30 = .ok (.astore 5, 2) := by decide +kernel
theorem dL_isGreen_32 : decode cL_isGreen 32 = .ok (.iconst 3, 1) := by decide +kernel
theorem dL_isGreen_33 : decode cL_isGreen 33 = .ok (.ireturn, 1) := by decide +kernel
theorem dL_isGreen_34 : decode cL_isGreen 34 = .ok (.iconst 0, 1) := by decide +kernel
theorem dL_isGreen_35 : decode cL_isGreen 35 = .ok (.ireturn, 1) := by decide +kernel
theorem dL_breaches_0 : decode cL_breaches 0 = .ok (.aload_n 2, 1) := by decide +kernel
theorem dL_breaches_1 : decode cL_breaches 1 = .ok (.iconst 0, 1) := by decide +kernel
theorem dL_breaches_2 : decode cL_breaches 2 = .ok (.aload_n 0, 1) := by decide +kernel
theorem dL_breaches_3 : decode cL_breaches 3 = .ok (.iload_n 1, 1) := by decide +kernel
theorem dL_breaches_4 : decode cL_breaches 4 = .ok (.invokevirtual 61, 3) := by decide +kernel
theorem dL_breaches_7 : decode cL_breaches 7 = .ok (.i2l, 1) := by decide +kernel
theorem dL_breaches_8 : decode cL_breaches 8 = .ok (.lastore, 1) := by decide +kernel
theorem dL_breaches_9 : decode cL_breaches 9 = .ok (.goto 9, 3) := by decide +kernel
theorem dL_breaches_12 : decode cL_breaches 12 = .ok (.astore_n 3, 1) := by decide +kernel
theorem dL_breaches_13 : decode cL_breaches 13 = .ok (.iconst 1, 1) := by decide +kernel
theorem dL_breaches_14 : decode cL_breaches 14 = .ok (.ireturn, 1) := by decide +kernel
theorem dL_breaches_15 : decode cL_breaches 15 = .ok (.astore_n 3, 1) := by decide +kernel
theorem dL_breaches_16 : decode cL_breaches 16 = .ok (.iconst 2, 1) := by decide +kernel
theorem dL_breaches_17 : decode cL_breaches 17 = .ok (.ireturn, 1) := by decide +kernel
theorem dL_breaches_18 : decode cL_breaches 18 = .ok (.iconst 0, 1) := by decide +kernel
theorem dL_breaches_19 : decode cL_breaches 19 = .ok (.ireturn, 1) := by decide +kernel
theorem dL_band_0 : decode cL_band 0 = .ok (.aload_n 2, 1) := by decide +kernel
theorem dL_band_1 : decode cL_band 1 = .ok (.iconst 0, 1) := by decide +kernel
theorem dL_band_2 : decode cL_band 2 = .ok (.aload_n 0, 1) := by decide +kernel
theorem dL_band_3 : decode cL_band 3 = .ok (.iload_n 1, 1) := by decide +kernel
theorem dL_band_4 : decode cL_band 4 = .ok (.invokevirtual 64, 3) := by decide +kernel
theorem dL_band_7 : decode cL_band 7 = .ok (.i2l, 1) := by decide +kernel
theorem dL_band_8 : decode cL_band 8 = .ok (.lastore, 1) := by decide +kernel
theorem dL_band_9 : decode cL_band 9 = .ok (.goto 6, 3) := by decide +kernel
theorem dL_band_12 : decode cL_band 12 = .ok (.astore_n 3, 1) := by decide +kernel
theorem dL_band_13 : decode cL_band 13 = .ok (.iconst 1, 1) := by decide +kernel
theorem dL_band_14 : decode cL_band 14 = .ok (.ireturn, 1) := by decide +kernel
theorem dL_band_15 : decode cL_band 15 = .ok (.iconst 0, 1) := by decide +kernel
theorem dL_band_16 : decode cL_band 16 = .ok (.ireturn, 1) := by decide +kernel
theorem dL_bestByAll_0 : decode cL_bestByAll 0 = .ok (.aload_n 1, 1) := by decide +kernel
theorem dL_bestByAll_1 : decode cL_bestByAll 1 = .ok (.iconst 0, 1) := by decide +kernel
theorem dL_bestByAll_2 : decode cL_bestByAll 2 = .ok (.aload_n 0, 1) := by decide +kernel
theorem dL_bestByAll_3 : decode cL_bestByAll 3 = .ok (.invokevirtual 68, 3) := by decide +kernel
theorem dL_bestByAll_6 : decode cL_bestByAll 6 = .ok (.i2l, 1) := by decide +kernel
theorem dL_bestByAll_7 : decode cL_bestByAll 7 = .ok (.lastore, 1) := by decide +kernel
theorem dL_bestByAll_8 : decode cL_bestByAll 8 = .ok (.goto 6, 3) := by decide +kernel
theorem dL_bestByAll_11 : decode cL_bestByAll 11 = .ok (.astore_n 2, 1) := by decide +kernel
theorem dL_bestByAll_12 : decode cL_bestByAll 12 = .ok (.iconst 1, 1) := by decide +kernel
theorem dL_bestByAll_13 : decode cL_bestByAll 13 = .ok (.ireturn, 1) := by decide +kernel
theorem dL_bestByAll_14 : decode cL_bestByAll 14 = .ok (.iconst 0, 1) := by decide +kernel
theorem dL_bestByAll_15 : decode cL_bestByAll 15 = .ok (.ireturn, 1) := by decide +kernel
theorem dL_run_0 : decode cL_run 0 = .ok (.aload_n 2, 1) := by decide +kernel
theorem dL_run_1 : decode cL_run 1 = .ok (.iconst 0, 1) := by decide +kernel
theorem dL_run_2 : decode cL_run 2 = .ok (.aload_n 0, 1) := by decide +kernel
theorem dL_run_3 : decode cL_run 3 = .ok (.iload_n 1, 1) := by decide +kernel
theorem dL_run_4 : decode cL_run 4 = .ok (.invokevirtual 71, 3) := by decide +kernel
theorem dL_run_7 : decode cL_run 7 = .ok (.i2l, 1) := by decide +kernel
theorem dL_run_8 : decode cL_run 8 = .ok (.lastore, 1) := by decide +kernel
theorem dL_run_9 : decode cL_run 9 = .ok (.goto 9, 3) := by decide +kernel
theorem dL_run_12 : decode cL_run 12 = .ok (.astore_n 3, 1) := by decide +kernel
theorem dL_run_13 : decode cL_run 13 = .ok (.iconst 1, 1) := by decide +kernel
theorem dL_run_14 : decode cL_run 14 = .ok (.ireturn, 1) := by decide +kernel
theorem dL_run_15 : decode cL_run 15 = .ok (.astore_n 3, 1) := by decide +kernel
theorem dL_run_16 : decode cL_run 16 = .ok (.iconst 2, 1) := by decide +kernel
theorem dL_run_17 : decode cL_run 17 = .ok (.ireturn, 1) := by decide +kernel
theorem dL_run_18 : decode cL_run 18 = .ok (.iconst 0, 1) := by decide +kernel
theorem dL_run_19 : decode cL_run 19 = .ok (.ireturn, 1) := by decide +kernel
theorem dL_callBus_0 : decode cL_callBus 0 = .ok (.aload_n 3, 1) := by decide +kernel
theorem dL_callBus_1 : decode cL_callBus 1 = .ok (.iconst 0, 1) := by decide +kernel
theorem dL_callBus_2 : decode cL_callBus 2 = .ok (.aload_n 0, 1) := by decide +kernel
theorem dL_callBus_3 : decode cL_callBus 3 = .ok (.iload_n 1, 1) := by decide +kernel
theorem dL_callBus_4 : decode cL_callBus 4 = .ok (.iload_n 2, 1) := by decide +kernel
theorem dL_callBus_5 : decode cL_callBus 5 = .ok (.invokevirtual 74, 3) := by decide +kernel
theorem dL_callBus_8 : decode cL_callBus 8 = .ok (.i2l, 1) := by decide +kernel
theorem dL_callBus_9 : decode cL_callBus 9 = .ok (.lastore, 1) := by decide +kernel
theorem dL_callBus_10 : decode cL_callBus 10 = .ok (.goto 11, 3) := by decide +kernel
theorem dL_callBus_13 : decode cL_callBus 13 = .ok (.astore 4, 2) := by decide +kernel
theorem dL_callBus_15 : decode cL_callBus 15 = .ok (.iconst 1, 1) := by decide +kernel
theorem dL_callBus_16 : decode cL_callBus 16 = .ok (.ireturn, 1) := by decide +kernel
theorem dL_callBus_17 : decode cL_callBus 17 = .ok (.astore 4, 2) := by decide +kernel
theorem dL_callBus_19 : decode cL_callBus 19 = .ok (.iconst 2, 1) := by decide +kernel
theorem dL_callBus_20 : decode cL_callBus 20 = .ok (.ireturn, 1) := by decide +kernel
theorem dL_callBus_21 : decode cL_callBus 21 = .ok (.iconst 0, 1) := by decide +kernel
theorem dL_callBus_22 : decode cL_callBus 22 = .ok (.ireturn, 1) := by decide +kernel
theorem dL_phaseNow_0 : decode cL_phaseNow 0 = .ok (.aload_n 2, 1) := by decide +kernel
theorem dL_phaseNow_1 : decode cL_phaseNow 1 = .ok (.iconst 0, 1) := by decide +kernel
theorem dL_phaseNow_2 : decode cL_phaseNow 2 = .ok (.aload_n 0, 1) := by decide +kernel
theorem dL_phaseNow_3 : decode cL_phaseNow 3 = .ok (.iload_n 1, 1) := by decide +kernel
theorem dL_phaseNow_4 : decode cL_phaseNow 4 = .ok (.invokevirtual 77, 3) := by decide +kernel
theorem dL_phaseNow_7 : decode cL_phaseNow 7 = .ok (.i2l, 1) := by decide +kernel
theorem dL_phaseNow_8 : decode cL_phaseNow 8 = .ok (.lastore, 1) := by decide +kernel
theorem dL_phaseNow_9 : decode cL_phaseNow 9 = .ok (.goto 9, 3) := by decide +kernel
theorem dL_phaseNow_12 : decode cL_phaseNow 12 = .ok (.astore_n 3, 1) := by decide +kernel
theorem dL_phaseNow_13 : decode cL_phaseNow 13 = .ok (.iconst 1, 1) := by decide +kernel
theorem dL_phaseNow_14 : decode cL_phaseNow 14 = .ok (.ireturn, 1) := by decide +kernel
theorem dL_phaseNow_15 : decode cL_phaseNow 15 = .ok (.astore_n 3, 1) := by decide +kernel
theorem dL_phaseNow_16 : decode cL_phaseNow 16 = .ok (.iconst 2, 1) := by decide +kernel
theorem dL_phaseNow_17 : decode cL_phaseNow 17 = .ok (.ireturn, 1) := by decide +kernel
theorem dL_phaseNow_18 : decode cL_phaseNow 18 = .ok (.iconst 0, 1) := by decide +kernel
theorem dL_phaseNow_19 : decode cL_phaseNow 19 = .ok (.ireturn, 1) := by decide +kernel
theorem dL_queue_0 : decode cL_queue 0 = .ok (.aload_n 2, 1) := by decide +kernel
theorem dL_queue_1 : decode cL_queue 1 = .ok (.iconst 0, 1) := by decide +kernel
theorem dL_queue_2 : decode cL_queue 2 = .ok (.aload_n 0, 1) := by decide +kernel
theorem dL_queue_3 : decode cL_queue 3 = .ok (.iload_n 1, 1) := by decide +kernel
theorem dL_queue_4 : decode cL_queue 4 = .ok (.invokevirtual 80, 3) := by decide +kernel
theorem dL_queue_7 : decode cL_queue 7 = .ok (.i2l, 1) := by decide +kernel
theorem dL_queue_8 : decode cL_queue 8 = .ok (.lastore, 1) := by decide +kernel
theorem dL_queue_9 : decode cL_queue 9 = .ok (.goto 6, 3) := by decide +kernel
theorem dL_queue_12 : decode cL_queue 12 = .ok (.astore_n 3, 1) := by decide +kernel
theorem dL_queue_13 : decode cL_queue 13 = .ok (.iconst 1, 1) := by decide +kernel
theorem dL_queue_14 : decode cL_queue 14 = .ok (.ireturn, 1) := by decide +kernel
theorem dL_queue_15 : decode cL_queue 15 = .ok (.iconst 0, 1) := by decide +kernel
theorem dL_queue_16 : decode cL_queue 16 = .ok (.ireturn, 1) := by decide +kernel
theorem dL_held_0 : decode cL_held 0 = .ok (.aload_n 2, 1) := by decide +kernel
theorem dL_held_1 : decode cL_held 1 = .ok (.iconst 0, 1) := by decide +kernel
theorem dL_held_2 : decode cL_held 2 = .ok (.aload_n 0, 1) := by decide +kernel
theorem dL_held_3 : decode cL_held 3 = .ok (.iload_n 1, 1) := by decide +kernel
theorem dL_held_4 : decode cL_held 4 = .ok (.invokevirtual 83, 3) := by decide +kernel
theorem dL_held_7 : decode cL_held 7 = .ok (.i2l, 1) := by decide +kernel
theorem dL_held_8 : decode cL_held 8 = .ok (.lastore, 1) := by decide +kernel
theorem dL_held_9 : decode cL_held 9 = .ok (.goto 6, 3) := by decide +kernel
theorem dL_held_12 : decode cL_held 12 = .ok (.astore_n 3, 1) := by decide +kernel
theorem dL_held_13 : decode cL_held 13 = .ok (.iconst 1, 1) := by decide +kernel
theorem dL_held_14 : decode cL_held 14 = .ok (.ireturn, 1) := by decide +kernel
theorem dL_held_15 : decode cL_held 15 = .ok (.iconst 0, 1) := by decide +kernel
theorem dL_held_16 : decode cL_held 16 = .ok (.ireturn, 1) := by decide +kernel
theorem dL_law_0 : decode cL_law 0 = .ok (.new 8, 3) := by decide +kernel
theorem dL_law_3 : decode cL_law 3 = .ok (.dup, 1) := by decide +kernel
theorem dL_law_4 : decode cL_law 4 = .ok (.invokespecial 86, 3) := by decide +kernel
theorem dL_law_7 : decode cL_law 7 = .ok (.astore_n 1, 1) := by decide +kernel
theorem dL_law_8 : decode cL_law 8 = .ok (.new 87, 3) := by decide +kernel
theorem dL_law_11 : decode cL_law 11 = .ok (.dup, 1) := by decide +kernel
theorem dL_law_12 : decode cL_law 12 = .ok (.invokespecial 89, 3) := by decide +kernel
theorem dL_law_15 : decode cL_law 15 = .ok (.astore_n 2, 1) := by decide +kernel
theorem dL_law_16 : decode cL_law 16 = .ok (.iconst 1, 1) := by decide +kernel
theorem dL_law_17 : decode cL_law 17 = .ok (.newarray .long, 2) := by decide +kernel
theorem dL_law_19 : decode cL_law 19 = .ok (.astore_n 3, 1) := by decide +kernel
theorem dL_law_20 : decode cL_law 20 = .ok (.iconst 0, 1) := by decide +kernel
theorem dL_law_21 : decode cL_law 21 = .ok (.istore 4, 2) := by decide +kernel
theorem dL_law_23 : decode cL_law 23 = .ok (.iload 4, 2) := by decide +kernel
theorem dL_law_25 : decode cL_law 25 = .ok (.aload_n 0, 1) := by decide +kernel
theorem dL_law_26 : decode cL_law 26 = .ok (.arraylength, 1) := by decide +kernel
theorem dL_law_27 : decode cL_law 27 = .ok (.bipush 6, 2) := by decide +kernel
theorem dL_law_29 : decode cL_law 29 = .ok (.isub, 1) := by decide +kernel
theorem dL_law_30 : decode cL_law 30 = .ok (.if_icmp .gt 1482, 3) := by decide +kernel
theorem dL_law_33 : decode cL_law 33 = .ok (.aload_n 0, 1) := by decide +kernel
theorem dL_law_34 : decode cL_law 34 = .ok (.iload 4, 2) := by decide +kernel
theorem dL_law_36 : decode cL_law 36 = .ok (.iaload, 1) := by decide +kernel
theorem dL_law_37 : decode cL_law 37 = .ok (.bipush 31, 2) := by decide +kernel
theorem dL_law_39 : decode cL_law 39 = .ok (.iand, 1) := by decide +kernel
theorem dL_law_40 : decode cL_law 40 = .ok (.tableswitch 1466 0 23 #[112, 160, 252, 356, 436, 496, 564, 608, 621, 684, 752, 820, 876, 963, 1019, 1091, 1135, 1191, 1259, 1272, 1328, 1384, 1440, 1453], 112) := by decide +kernel
theorem dL_law_152 : decode cL_law 152 = .ok (.aload_n 1, 1) := by decide +kernel
theorem dL_law_153 : decode cL_law 153 = .ok (.aload_n 0, 1) := by decide +kernel
theorem dL_law_154 : decode cL_law 154 = .ok (.iload 4, 2) := by decide +kernel
theorem dL_law_156 : decode cL_law 156 = .ok (.iconst 1, 1) := by decide +kernel
theorem dL_law_157 : decode cL_law 157 = .ok (.iadd, 1) := by decide +kernel
theorem dL_law_158 : decode cL_law 158 = .ok (.iaload, 1) := by decide +kernel
theorem dL_law_159 : decode cL_law 159 = .ok (.aload_n 0, 1) := by decide +kernel
theorem dL_law_160 : decode cL_law 160 = .ok (.iload 4, 2) := by decide +kernel
theorem dL_law_162 : decode cL_law 162 = .ok (.iconst 2, 1) := by decide +kernel
theorem dL_law_163 : decode cL_law 163 = .ok (.iadd, 1) := by decide +kernel
theorem dL_law_164 : decode cL_law 164 = .ok (.iaload, 1) := by decide +kernel
theorem dL_law_165 : decode cL_law 165 = .ok (.invokestatic 90, 3) := by decide +kernel
theorem dL_law_168 : decode cL_law 168 = .ok (.istore 5, 2) := by decide +kernel
theorem dL_law_170 : decode cL_law 170 = .ok (.aload_n 2, 1) := by decide +kernel
theorem dL_law_171 : decode cL_law 171 = .ok (.aload_n 0, 1) := by decide +kernel
theorem dL_law_172 : decode cL_law 172 = .ok (.iload 4, 2) := by decide +kernel
theorem dL_law_174 : decode cL_law 174 = .ok (.iconst 1, 1) := by decide +kernel
theorem dL_law_175 : decode cL_law 175 = .ok (.iadd, 1) := by decide +kernel
theorem dL_law_176 : decode cL_law 176 = .ok (.iaload, 1) := by decide +kernel
theorem dL_law_177 : decode cL_law 177 = .ok (.aload_n 0, 1) := by decide +kernel
theorem dL_law_178 : decode cL_law 178 = .ok (.iload 4, 2) := by decide +kernel
theorem dL_law_180 : decode cL_law 180 = .ok (.iconst 2, 1) := by decide +kernel
theorem dL_law_181 : decode cL_law 181 = .ok (.iadd, 1) := by decide +kernel
theorem dL_law_182 : decode cL_law 182 = .ok (.iaload, 1) := by decide +kernel
theorem dL_law_183 : decode cL_law 183 = .ok (.invokevirtual 95, 3) := by decide +kernel
theorem dL_law_186 : decode cL_law 186 = .ok (.aload_n 2, 1) := by decide +kernel
theorem dL_law_187 : decode cL_law 187 = .ok (.invokevirtual 96, 3) := by decide +kernel
theorem dL_law_190 : decode cL_law 190 = .ok (.iload 5, 2) := by decide +kernel
theorem dL_law_192 : decode cL_law 192 = .ok (.if_icmp .eq 5, 3) := by decide +kernel
theorem dL_law_195 : decode cL_law 195 = .ok (.iconst 0, 1) := by decide +kernel
theorem dL_law_196 : decode cL_law 196 = .ok (.ireturn, 1) := by decide +kernel
theorem dL_law_197 : decode cL_law 197 = .ok (.goto 1309, 3) := by decide +kernel
theorem dL_law_200 : decode cL_law 200 = .ok (.aload_n 1, 1) := by decide +kernel
theorem dL_law_201 : decode cL_law 201 = .ok (.aload_n 0, 1) := by decide +kernel
theorem dL_law_202 : decode cL_law 202 = .ok (.iload 4, 2) := by decide +kernel
theorem dL_law_204 : decode cL_law 204 = .ok (.iconst 1, 1) := by decide +kernel
theorem dL_law_205 : decode cL_law 205 = .ok (.iadd, 1) := by decide +kernel
theorem dL_law_206 : decode cL_law 206 = .ok (.iaload, 1) := by decide +kernel
theorem dL_law_207 : decode cL_law 207 = .ok (.aload_n 0, 1) := by decide +kernel
theorem dL_law_208 : decode cL_law 208 = .ok (.iload 4, 2) := by decide +kernel
theorem dL_law_210 : decode cL_law 210 = .ok (.iconst 2, 1) := by decide +kernel
theorem dL_law_211 : decode cL_law 211 = .ok (.iadd, 1) := by decide +kernel
theorem dL_law_212 : decode cL_law 212 = .ok (.iaload, 1) := by decide +kernel
theorem dL_law_213 : decode cL_law 213 = .ok (.aload_n 0, 1) := by decide +kernel
theorem dL_law_214 : decode cL_law 214 = .ok (.iload 4, 2) := by decide +kernel
theorem dL_law_216 : decode cL_law 216 = .ok (.iconst 3, 1) := by decide +kernel
theorem dL_law_217 : decode cL_law 217 = .ok (.iadd, 1) := by decide +kernel
theorem dL_law_218 : decode cL_law 218 = .ok (.iaload, 1) := by decide +kernel
theorem dL_law_219 : decode cL_law 219 = .ok (.aload_n 0, 1) := by decide +kernel
theorem dL_law_220 : decode cL_law 220 = .ok (.iload 4, 2) := by decide +kernel
theorem dL_law_222 : decode cL_law 222 = .ok (.iconst 4, 1) := by decide +kernel
theorem dL_law_223 : decode cL_law 223 = .ok (.iadd, 1) := by decide +kernel
theorem dL_law_224 : decode cL_law 224 = .ok (.iaload, 1) := by decide +kernel
theorem dL_law_225 : decode cL_law 225 = .ok (.aload_n 3, 1) := by decide +kernel
theorem dL_law_226 : decode cL_law 226 = .ok (.invokestatic 99, 3) := by decide +kernel
theorem dL_law_229 : decode cL_law 229 = .ok (.istore 5, 2) := by decide +kernel
theorem dL_law_231 : decode cL_law 231 = .ok (.aload_n 2, 1) := by decide +kernel
theorem dL_law_232 : decode cL_law 232 = .ok (.aload_n 0, 1) := by decide +kernel
theorem dL_law_233 : decode cL_law 233 = .ok (.iload 4, 2) := by decide +kernel
theorem dL_law_235 : decode cL_law 235 = .ok (.iconst 1, 1) := by decide +kernel
theorem dL_law_236 : decode cL_law 236 = .ok (.iadd, 1) := by decide +kernel
theorem dL_law_237 : decode cL_law 237 = .ok (.iaload, 1) := by decide +kernel
theorem dL_law_238 : decode cL_law 238 = .ok (.aload_n 0, 1) := by decide +kernel
theorem dL_law_239 : decode cL_law 239 = .ok (.iload 4, 2) := by decide +kernel
theorem dL_law_241 : decode cL_law 241 = .ok (.iconst 2, 1) := by decide +kernel
theorem dL_law_242 : decode cL_law 242 = .ok (.iadd, 1) := by decide +kernel
theorem dL_law_243 : decode cL_law 243 = .ok (.iaload, 1) := by decide +kernel
theorem dL_law_244 : decode cL_law 244 = .ok (.aload_n 0, 1) := by decide +kernel
theorem dL_law_245 : decode cL_law 245 = .ok (.iload 4, 2) := by decide +kernel
theorem dL_law_247 : decode cL_law 247 = .ok (.iconst 3, 1) := by decide +kernel
theorem dL_law_248 : decode cL_law 248 = .ok (.iadd, 1) := by decide +kernel
theorem dL_law_249 : decode cL_law 249 = .ok (.iaload, 1) := by decide +kernel
theorem dL_law_250 : decode cL_law 250 = .ok (.aload_n 0, 1) := by decide +kernel
theorem dL_law_251 : decode cL_law 251 = .ok (.iload 4, 2) := by decide +kernel
theorem dL_law_253 : decode cL_law 253 = .ok (.iconst 4, 1) := by decide +kernel
theorem dL_law_254 : decode cL_law 254 = .ok (.iadd, 1) := by decide +kernel
theorem dL_law_255 : decode cL_law 255 = .ok (.iaload, 1) := by decide +kernel
theorem dL_law_256 : decode cL_law 256 = .ok (.invokevirtual 102, 3) := by decide +kernel
theorem dL_law_259 : decode cL_law 259 = .ok (.istore 6, 2) := by decide +kernel
theorem dL_law_261 : decode cL_law 261 = .ok (.aload_n 2, 1) := by decide +kernel
theorem dL_law_262 : decode cL_law 262 = .ok (.invokevirtual 96, 3) := by decide +kernel
theorem dL_law_265 : decode cL_law 265 = .ok (.iload 5, 2) := by decide +kernel
theorem dL_law_267 : decode cL_law 267 = .ok (.if_icmp .eq 5, 3) := by decide +kernel
theorem dL_law_270 : decode cL_law 270 = .ok (.iconst 0, 1) := by decide +kernel
theorem dL_law_271 : decode cL_law 271 = .ok (.ireturn, 1) := by decide +kernel
theorem dL_law_272 : decode cL_law 272 = .ok (.iload 5, 2) := by decide +kernel
theorem dL_law_274 : decode cL_law 274 = .ok (.ifCond .ne 15, 3) := by decide +kernel
theorem dL_law_277 : decode cL_law 277 = .ok (.aload_n 3, 1) := by decide +kernel
theorem dL_law_278 : decode cL_law 278 = .ok (.iconst 0, 1) := by decide +kernel
theorem dL_law_279 : decode cL_law 279 = .ok (.laload, 1) := by decide +kernel
theorem dL_law_280 : decode cL_law 280 = .ok (.iload 6, 2) := by decide +kernel
theorem dL_law_282 : decode cL_law 282 = .ok (.i2l, 1) := by decide +kernel
theorem dL_law_283 : decode cL_law 283 = .ok (.lcmp, 1) := by decide +kernel
theorem dL_law_284 : decode cL_law 284 = .ok (.ifCond .eq 5, 3) := by decide +kernel
theorem dL_law_287 : decode cL_law 287 = .ok (.iconst 0, 1) := by decide +kernel
theorem dL_law_288 : decode cL_law 288 = .ok (.ireturn, 1) := by decide +kernel
theorem dL_law_289 : decode cL_law 289 = .ok (.goto 1217, 3) := by decide +kernel
theorem dL_law_292 : decode cL_law 292 = .ok (.aload_n 1, 1) := by decide +kernel
theorem dL_law_293 : decode cL_law 293 = .ok (.aload_n 0, 1) := by decide +kernel
theorem dL_law_294 : decode cL_law 294 = .ok (.iload 4, 2) := by decide +kernel
theorem dL_law_296 : decode cL_law 296 = .ok (.iconst 1, 1) := by decide +kernel
theorem dL_law_297 : decode cL_law 297 = .ok (.iadd, 1) := by decide +kernel
theorem dL_law_298 : decode cL_law 298 = .ok (.iaload, 1) := by decide +kernel
theorem dL_law_299 : decode cL_law 299 = .ok (.aload_n 0, 1) := by decide +kernel
theorem dL_law_300 : decode cL_law 300 = .ok (.iload 4, 2) := by decide +kernel
theorem dL_law_302 : decode cL_law 302 = .ok (.iconst 2, 1) := by decide +kernel
theorem dL_law_303 : decode cL_law 303 = .ok (.iadd, 1) := by decide +kernel
theorem dL_law_304 : decode cL_law 304 = .ok (.iaload, 1) := by decide +kernel
theorem dL_law_305 : decode cL_law 305 = .ok (.aload_n 0, 1) := by decide +kernel
theorem dL_law_306 : decode cL_law 306 = .ok (.iload 4, 2) := by decide +kernel
theorem dL_law_308 : decode cL_law 308 = .ok (.iconst 3, 1) := by decide +kernel
theorem dL_law_309 : decode cL_law 309 = .ok (.iadd, 1) := by decide +kernel
theorem dL_law_310 : decode cL_law 310 = .ok (.iaload, 1) := by decide +kernel
theorem dL_law_311 : decode cL_law 311 = .ok (.aload_n 0, 1) := by decide +kernel
theorem dL_law_312 : decode cL_law 312 = .ok (.iload 4, 2) := by decide +kernel
theorem dL_law_314 : decode cL_law 314 = .ok (.iconst 4, 1) := by decide +kernel
theorem dL_law_315 : decode cL_law 315 = .ok (.iadd, 1) := by decide +kernel
theorem dL_law_316 : decode cL_law 316 = .ok (.iaload, 1) := by decide +kernel
theorem dL_law_317 : decode cL_law 317 = .ok (.aload_n 0, 1) := by decide +kernel
theorem dL_law_318 : decode cL_law 318 = .ok (.iload 4, 2) := by decide +kernel
theorem dL_law_320 : decode cL_law 320 = .ok (.iconst 5, 1) := by decide +kernel
theorem dL_law_321 : decode cL_law 321 = .ok (.iadd, 1) := by decide +kernel
theorem dL_law_322 : decode cL_law 322 = .ok (.iaload, 1) := by decide +kernel
theorem dL_law_323 : decode cL_law 323 = .ok (.aload_n 3, 1) := by decide +kernel
theorem dL_law_324 : decode cL_law 324 = .ok (.invokestatic 103, 3) := by decide +kernel
theorem dL_law_327 : decode cL_law 327 = .ok (.istore 5, 2) := by decide +kernel
theorem dL_law_329 : decode cL_law 329 = .ok (.aload_n 2, 1) := by decide +kernel
theorem dL_law_330 : decode cL_law 330 = .ok (.aload_n 0, 1) := by decide +kernel
theorem dL_law_331 : decode cL_law 331 = .ok (.iload 4, 2) := by decide +kernel
theorem dL_law_333 : decode cL_law 333 = .ok (.iconst 1, 1) := by decide +kernel
theorem dL_law_334 : decode cL_law 334 = .ok (.iadd, 1) := by decide +kernel
theorem dL_law_335 : decode cL_law 335 = .ok (.iaload, 1) := by decide +kernel
theorem dL_law_336 : decode cL_law 336 = .ok (.aload_n 0, 1) := by decide +kernel
theorem dL_law_337 : decode cL_law 337 = .ok (.iload 4, 2) := by decide +kernel
theorem dL_law_339 : decode cL_law 339 = .ok (.iconst 2, 1) := by decide +kernel
theorem dL_law_340 : decode cL_law 340 = .ok (.iadd, 1) := by decide +kernel
theorem dL_law_341 : decode cL_law 341 = .ok (.iaload, 1) := by decide +kernel
theorem dL_law_342 : decode cL_law 342 = .ok (.aload_n 0, 1) := by decide +kernel
theorem dL_law_343 : decode cL_law 343 = .ok (.iload 4, 2) := by decide +kernel
theorem dL_law_345 : decode cL_law 345 = .ok (.iconst 3, 1) := by decide +kernel
theorem dL_law_346 : decode cL_law 346 = .ok (.iadd, 1) := by decide +kernel
theorem dL_law_347 : decode cL_law 347 = .ok (.iaload, 1) := by decide +kernel
theorem dL_law_348 : decode cL_law 348 = .ok (.aload_n 0, 1) := by decide +kernel
theorem dL_law_349 : decode cL_law 349 = .ok (.iload 4, 2) := by decide +kernel
theorem dL_law_351 : decode cL_law 351 = .ok (.iconst 4, 1) := by decide +kernel
theorem dL_law_352 : decode cL_law 352 = .ok (.iadd, 1) := by decide +kernel
theorem dL_law_353 : decode cL_law 353 = .ok (.iaload, 1) := by decide +kernel
theorem dL_law_354 : decode cL_law 354 = .ok (.aload_n 0, 1) := by decide +kernel
theorem dL_law_355 : decode cL_law 355 = .ok (.iload 4, 2) := by decide +kernel
theorem dL_law_357 : decode cL_law 357 = .ok (.iconst 5, 1) := by decide +kernel
theorem dL_law_358 : decode cL_law 358 = .ok (.iadd, 1) := by decide +kernel
theorem dL_law_359 : decode cL_law 359 = .ok (.iaload, 1) := by decide +kernel
theorem dL_law_360 : decode cL_law 360 = .ok (.invokevirtual 106, 3) := by decide +kernel
theorem dL_law_363 : decode cL_law 363 = .ok (.istore 6, 2) := by decide +kernel
theorem dL_law_365 : decode cL_law 365 = .ok (.aload_n 2, 1) := by decide +kernel
theorem dL_law_366 : decode cL_law 366 = .ok (.invokevirtual 96, 3) := by decide +kernel
theorem dL_law_369 : decode cL_law 369 = .ok (.iload 5, 2) := by decide +kernel
theorem dL_law_371 : decode cL_law 371 = .ok (.if_icmp .eq 5, 3) := by decide +kernel
theorem dL_law_374 : decode cL_law 374 = .ok (.iconst 0, 1) := by decide +kernel
theorem dL_law_375 : decode cL_law 375 = .ok (.ireturn, 1) := by decide +kernel
theorem dL_law_376 : decode cL_law 376 = .ok (.iload 5, 2) := by decide +kernel
theorem dL_law_378 : decode cL_law 378 = .ok (.ifCond .ne 15, 3) := by decide +kernel
theorem dL_law_381 : decode cL_law 381 = .ok (.aload_n 3, 1) := by decide +kernel
theorem dL_law_382 : decode cL_law 382 = .ok (.iconst 0, 1) := by decide +kernel
theorem dL_law_383 : decode cL_law 383 = .ok (.laload, 1) := by decide +kernel
theorem dL_law_384 : decode cL_law 384 = .ok (.iload 6, 2) := by decide +kernel
theorem dL_law_386 : decode cL_law 386 = .ok (.i2l, 1) := by decide +kernel
theorem dL_law_387 : decode cL_law 387 = .ok (.lcmp, 1) := by decide +kernel
theorem dL_law_388 : decode cL_law 388 = .ok (.ifCond .eq 5, 3) := by decide +kernel
theorem dL_law_391 : decode cL_law 391 = .ok (.iconst 0, 1) := by decide +kernel
theorem dL_law_392 : decode cL_law 392 = .ok (.ireturn, 1) := by decide +kernel
theorem dL_law_393 : decode cL_law 393 = .ok (.goto 1113, 3) := by decide +kernel
theorem dL_law_396 : decode cL_law 396 = .ok (.aload_n 1, 1) := by decide +kernel
theorem dL_law_397 : decode cL_law 397 = .ok (.aload_n 0, 1) := by decide +kernel
theorem dL_law_398 : decode cL_law 398 = .ok (.iload 4, 2) := by decide +kernel
theorem dL_law_400 : decode cL_law 400 = .ok (.iconst 1, 1) := by decide +kernel
theorem dL_law_401 : decode cL_law 401 = .ok (.iadd, 1) := by decide +kernel
theorem dL_law_402 : decode cL_law 402 = .ok (.iaload, 1) := by decide +kernel
theorem dL_law_403 : decode cL_law 403 = .ok (.aload_n 0, 1) := by decide +kernel
theorem dL_law_404 : decode cL_law 404 = .ok (.iload 4, 2) := by decide +kernel
theorem dL_law_406 : decode cL_law 406 = .ok (.iconst 2, 1) := by decide +kernel
theorem dL_law_407 : decode cL_law 407 = .ok (.iadd, 1) := by decide +kernel
theorem dL_law_408 : decode cL_law 408 = .ok (.iaload, 1) := by decide +kernel
theorem dL_law_409 : decode cL_law 409 = .ok (.aload_n 0, 1) := by decide +kernel
theorem dL_law_410 : decode cL_law 410 = .ok (.iload 4, 2) := by decide +kernel
theorem dL_law_412 : decode cL_law 412 = .ok (.iconst 3, 1) := by decide +kernel
theorem dL_law_413 : decode cL_law 413 = .ok (.iadd, 1) := by decide +kernel
theorem dL_law_414 : decode cL_law 414 = .ok (.iaload, 1) := by decide +kernel
theorem dL_law_415 : decode cL_law 415 = .ok (.aload_n 3, 1) := by decide +kernel
theorem dL_law_416 : decode cL_law 416 = .ok (.invokestatic 107, 3) := by decide +kernel
theorem dL_law_419 : decode cL_law 419 = .ok (.istore 5, 2) := by decide +kernel
theorem dL_law_421 : decode cL_law 421 = .ok (.aload_n 2, 1) := by decide +kernel
theorem dL_law_422 : decode cL_law 422 = .ok (.aload_n 0, 1) := by decide +kernel
theorem dL_law_423 : decode cL_law 423 = .ok (.iload 4, 2) := by decide +kernel
theorem dL_law_425 : decode cL_law 425 = .ok (.iconst 1, 1) := by decide +kernel
theorem dL_law_426 : decode cL_law 426 = .ok (.iadd, 1) := by decide +kernel
theorem dL_law_427 : decode cL_law 427 = .ok (.iaload, 1) := by decide +kernel
theorem dL_law_428 : decode cL_law 428 = .ok (.aload_n 0, 1) := by decide +kernel
theorem dL_law_429 : decode cL_law 429 = .ok (.iload 4, 2) := by decide +kernel
theorem dL_law_431 : decode cL_law 431 = .ok (.iconst 2, 1) := by decide +kernel
theorem dL_law_432 : decode cL_law 432 = .ok (.iadd, 1) := by decide +kernel
theorem dL_law_433 : decode cL_law 433 = .ok (.iaload, 1) := by decide +kernel
theorem dL_law_434 : decode cL_law 434 = .ok (.aload_n 0, 1) := by decide +kernel
theorem dL_law_435 : decode cL_law 435 = .ok (.iload 4, 2) := by decide +kernel
theorem dL_law_437 : decode cL_law 437 = .ok (.iconst 3, 1) := by decide +kernel
theorem dL_law_438 : decode cL_law 438 = .ok (.iadd, 1) := by decide +kernel
theorem dL_law_439 : decode cL_law 439 = .ok (.iaload, 1) := by decide +kernel
theorem dL_law_440 : decode cL_law 440 = .ok (.invokevirtual 110, 3) := by decide +kernel
theorem dL_law_443 : decode cL_law 443 = .ok (.istore 6, 2) := by decide +kernel
theorem dL_law_445 : decode cL_law 445 = .ok (.aload_n 2, 1) := by decide +kernel
theorem dL_law_446 : decode cL_law 446 = .ok (.invokevirtual 96, 3) := by decide +kernel
theorem dL_law_449 : decode cL_law 449 = .ok (.iload 5, 2) := by decide +kernel
theorem dL_law_451 : decode cL_law 451 = .ok (.if_icmp .eq 5, 3) := by decide +kernel
theorem dL_law_454 : decode cL_law 454 = .ok (.iconst 0, 1) := by decide +kernel
theorem dL_law_455 : decode cL_law 455 = .ok (.ireturn, 1) := by decide +kernel
theorem dL_law_456 : decode cL_law 456 = .ok (.iload 5, 2) := by decide +kernel
theorem dL_law_458 : decode cL_law 458 = .ok (.ifCond .ne 15, 3) := by decide +kernel
theorem dL_law_461 : decode cL_law 461 = .ok (.aload_n 3, 1) := by decide +kernel
theorem dL_law_462 : decode cL_law 462 = .ok (.iconst 0, 1) := by decide +kernel
theorem dL_law_463 : decode cL_law 463 = .ok (.laload, 1) := by decide +kernel
theorem dL_law_464 : decode cL_law 464 = .ok (.iload 6, 2) := by decide +kernel
theorem dL_law_466 : decode cL_law 466 = .ok (.i2l, 1) := by decide +kernel
theorem dL_law_467 : decode cL_law 467 = .ok (.lcmp, 1) := by decide +kernel
theorem dL_law_468 : decode cL_law 468 = .ok (.ifCond .eq 5, 3) := by decide +kernel
theorem dL_law_471 : decode cL_law 471 = .ok (.iconst 0, 1) := by decide +kernel
theorem dL_law_472 : decode cL_law 472 = .ok (.ireturn, 1) := by decide +kernel
theorem dL_law_473 : decode cL_law 473 = .ok (.goto 1033, 3) := by decide +kernel
theorem dL_law_476 : decode cL_law 476 = .ok (.aload_n 1, 1) := by decide +kernel
theorem dL_law_477 : decode cL_law 477 = .ok (.aload_n 0, 1) := by decide +kernel
theorem dL_law_478 : decode cL_law 478 = .ok (.iload 4, 2) := by decide +kernel
theorem dL_law_480 : decode cL_law 480 = .ok (.iconst 1, 1) := by decide +kernel
theorem dL_law_481 : decode cL_law 481 = .ok (.iadd, 1) := by decide +kernel
theorem dL_law_482 : decode cL_law 482 = .ok (.iaload, 1) := by decide +kernel
theorem dL_law_483 : decode cL_law 483 = .ok (.aload_n 0, 1) := by decide +kernel
theorem dL_law_484 : decode cL_law 484 = .ok (.iload 4, 2) := by decide +kernel
theorem dL_law_486 : decode cL_law 486 = .ok (.iconst 2, 1) := by decide +kernel
theorem dL_law_487 : decode cL_law 487 = .ok (.iadd, 1) := by decide +kernel
theorem dL_law_488 : decode cL_law 488 = .ok (.iaload, 1) := by decide +kernel
theorem dL_law_489 : decode cL_law 489 = .ok (.aload_n 0, 1) := by decide +kernel
theorem dL_law_490 : decode cL_law 490 = .ok (.iload 4, 2) := by decide +kernel
theorem dL_law_492 : decode cL_law 492 = .ok (.iconst 3, 1) := by decide +kernel
theorem dL_law_493 : decode cL_law 493 = .ok (.iadd, 1) := by decide +kernel
theorem dL_law_494 : decode cL_law 494 = .ok (.iaload, 1) := by decide +kernel
theorem dL_law_495 : decode cL_law 495 = .ok (.invokestatic 111, 3) := by decide +kernel
theorem dL_law_498 : decode cL_law 498 = .ok (.istore 5, 2) := by decide +kernel
theorem dL_law_500 : decode cL_law 500 = .ok (.aload_n 2, 1) := by decide +kernel
theorem dL_law_501 : decode cL_law 501 = .ok (.aload_n 0, 1) := by decide +kernel
theorem dL_law_502 : decode cL_law 502 = .ok (.iload 4, 2) := by decide +kernel
theorem dL_law_504 : decode cL_law 504 = .ok (.iconst 1, 1) := by decide +kernel
theorem dL_law_505 : decode cL_law 505 = .ok (.iadd, 1) := by decide +kernel
theorem dL_law_506 : decode cL_law 506 = .ok (.iaload, 1) := by decide +kernel
theorem dL_law_507 : decode cL_law 507 = .ok (.aload_n 0, 1) := by decide +kernel
theorem dL_law_508 : decode cL_law 508 = .ok (.iload 4, 2) := by decide +kernel
theorem dL_law_510 : decode cL_law 510 = .ok (.iconst 2, 1) := by decide +kernel
theorem dL_law_511 : decode cL_law 511 = .ok (.iadd, 1) := by decide +kernel
theorem dL_law_512 : decode cL_law 512 = .ok (.iaload, 1) := by decide +kernel
theorem dL_law_513 : decode cL_law 513 = .ok (.aload_n 0, 1) := by decide +kernel
theorem dL_law_514 : decode cL_law 514 = .ok (.iload 4, 2) := by decide +kernel
theorem dL_law_516 : decode cL_law 516 = .ok (.iconst 3, 1) := by decide +kernel
theorem dL_law_517 : decode cL_law 517 = .ok (.iadd, 1) := by decide +kernel
theorem dL_law_518 : decode cL_law 518 = .ok (.iaload, 1) := by decide +kernel
theorem dL_law_519 : decode cL_law 519 = .ok (.invokevirtual 114, 3) := by decide +kernel
theorem dL_law_522 : decode cL_law 522 = .ok (.aload_n 2, 1) := by decide +kernel
theorem dL_law_523 : decode cL_law 523 = .ok (.invokevirtual 96, 3) := by decide +kernel
theorem dL_law_526 : decode cL_law 526 = .ok (.iload 5, 2) := by decide +kernel
theorem dL_law_528 : decode cL_law 528 = .ok (.if_icmp .eq 5, 3) := by decide +kernel
theorem dL_law_531 : decode cL_law 531 = .ok (.iconst 0, 1) := by decide +kernel
theorem dL_law_532 : decode cL_law 532 = .ok (.ireturn, 1) := by decide +kernel
theorem dL_law_533 : decode cL_law 533 = .ok (.goto 973, 3) := by decide +kernel
theorem dL_law_536 : decode cL_law 536 = .ok (.aload_n 1, 1) := by decide +kernel
theorem dL_law_537 : decode cL_law 537 = .ok (.aload_n 0, 1) := by decide +kernel
theorem dL_law_538 : decode cL_law 538 = .ok (.iload 4, 2) := by decide +kernel
theorem dL_law_540 : decode cL_law 540 = .ok (.iconst 1, 1) := by decide +kernel
theorem dL_law_541 : decode cL_law 541 = .ok (.iadd, 1) := by decide +kernel
theorem dL_law_542 : decode cL_law 542 = .ok (.iaload, 1) := by decide +kernel
theorem dL_law_543 : decode cL_law 543 = .ok (.aload_n 0, 1) := by decide +kernel
theorem dL_law_544 : decode cL_law 544 = .ok (.iload 4, 2) := by decide +kernel
theorem dL_law_546 : decode cL_law 546 = .ok (.iconst 2, 1) := by decide +kernel
theorem dL_law_547 : decode cL_law 547 = .ok (.iadd, 1) := by decide +kernel
theorem dL_law_548 : decode cL_law 548 = .ok (.iaload, 1) := by decide +kernel
theorem dL_law_549 : decode cL_law 549 = .ok (.aload_n 3, 1) := by decide +kernel
theorem dL_law_550 : decode cL_law 550 = .ok (.invokestatic 115, 3) := by decide +kernel
theorem dL_law_553 : decode cL_law 553 = .ok (.istore 5, 2) := by decide +kernel
theorem dL_law_555 : decode cL_law 555 = .ok (.aload_n 2, 1) := by decide +kernel
theorem dL_law_556 : decode cL_law 556 = .ok (.aload_n 0, 1) := by decide +kernel
theorem dL_law_557 : decode cL_law 557 = .ok (.iload 4, 2) := by decide +kernel
theorem dL_law_559 : decode cL_law 559 = .ok (.iconst 1, 1) := by decide +kernel
theorem dL_law_560 : decode cL_law 560 = .ok (.iadd, 1) := by decide +kernel
theorem dL_law_561 : decode cL_law 561 = .ok (.iaload, 1) := by decide +kernel
theorem dL_law_562 : decode cL_law 562 = .ok (.aload_n 0, 1) := by decide +kernel
theorem dL_law_563 : decode cL_law 563 = .ok (.iload 4, 2) := by decide +kernel
theorem dL_law_565 : decode cL_law 565 = .ok (.iconst 2, 1) := by decide +kernel
theorem dL_law_566 : decode cL_law 566 = .ok (.iadd, 1) := by decide +kernel
theorem dL_law_567 : decode cL_law 567 = .ok (.iaload, 1) := by decide +kernel
theorem dL_law_568 : decode cL_law 568 = .ok (.invokevirtual 118, 3) := by decide +kernel
theorem dL_law_571 : decode cL_law 571 = .ok (.istore 6, 2) := by decide +kernel
theorem dL_law_573 : decode cL_law 573 = .ok (.aload_n 2, 1) := by decide +kernel
theorem dL_law_574 : decode cL_law 574 = .ok (.invokevirtual 96, 3) := by decide +kernel
theorem dL_law_577 : decode cL_law 577 = .ok (.iload 5, 2) := by decide +kernel
theorem dL_law_579 : decode cL_law 579 = .ok (.if_icmp .eq 5, 3) := by decide +kernel
theorem dL_law_582 : decode cL_law 582 = .ok (.iconst 0, 1) := by decide +kernel
theorem dL_law_583 : decode cL_law 583 = .ok (.ireturn, 1) := by decide +kernel
theorem dL_law_584 : decode cL_law 584 = .ok (.iload 5, 2) := by decide +kernel
theorem dL_law_586 : decode cL_law 586 = .ok (.ifCond .ne 15, 3) := by decide +kernel
theorem dL_law_589 : decode cL_law 589 = .ok (.aload_n 3, 1) := by decide +kernel
theorem dL_law_590 : decode cL_law 590 = .ok (.iconst 0, 1) := by decide +kernel
theorem dL_law_591 : decode cL_law 591 = .ok (.laload, 1) := by decide +kernel
theorem dL_law_592 : decode cL_law 592 = .ok (.iload 6, 2) := by decide +kernel
theorem dL_law_594 : decode cL_law 594 = .ok (.i2l, 1) := by decide +kernel
theorem dL_law_595 : decode cL_law 595 = .ok (.lcmp, 1) := by decide +kernel
theorem dL_law_596 : decode cL_law 596 = .ok (.ifCond .eq 5, 3) := by decide +kernel
theorem dL_law_599 : decode cL_law 599 = .ok (.iconst 0, 1) := by decide +kernel
theorem dL_law_600 : decode cL_law 600 = .ok (.ireturn, 1) := by decide +kernel
theorem dL_law_601 : decode cL_law 601 = .ok (.goto 905, 3) := by decide +kernel
theorem dL_law_604 : decode cL_law 604 = .ok (.aload_n 1, 1) := by decide +kernel
theorem dL_law_605 : decode cL_law 605 = .ok (.aload_n 3, 1) := by decide +kernel
theorem dL_law_606 : decode cL_law 606 = .ok (.invokestatic 119, 3) := by decide +kernel
theorem dL_law_609 : decode cL_law 609 = .ok (.istore 5, 2) := by decide +kernel
theorem dL_law_611 : decode cL_law 611 = .ok (.aload_n 2, 1) := by decide +kernel
theorem dL_law_612 : decode cL_law 612 = .ok (.invokevirtual 122, 3) := by decide +kernel
theorem dL_law_615 : decode cL_law 615 = .ok (.istore 6, 2) := by decide +kernel
theorem dL_law_617 : decode cL_law 617 = .ok (.aload_n 2, 1) := by decide +kernel
theorem dL_law_618 : decode cL_law 618 = .ok (.invokevirtual 96, 3) := by decide +kernel
theorem dL_law_621 : decode cL_law 621 = .ok (.iload 5, 2) := by decide +kernel
theorem dL_law_623 : decode cL_law 623 = .ok (.if_icmp .eq 5, 3) := by decide +kernel
theorem dL_law_626 : decode cL_law 626 = .ok (.iconst 0, 1) := by decide +kernel
theorem dL_law_627 : decode cL_law 627 = .ok (.ireturn, 1) := by decide +kernel
theorem dL_law_628 : decode cL_law 628 = .ok (.iload 5, 2) := by decide +kernel
theorem dL_law_630 : decode cL_law 630 = .ok (.ifCond .ne 15, 3) := by decide +kernel
theorem dL_law_633 : decode cL_law 633 = .ok (.aload_n 3, 1) := by decide +kernel
theorem dL_law_634 : decode cL_law 634 = .ok (.iconst 0, 1) := by decide +kernel
theorem dL_law_635 : decode cL_law 635 = .ok (.laload, 1) := by decide +kernel
theorem dL_law_636 : decode cL_law 636 = .ok (.iload 6, 2) := by decide +kernel
theorem dL_law_638 : decode cL_law 638 = .ok (.i2l, 1) := by decide +kernel
theorem dL_law_639 : decode cL_law 639 = .ok (.lcmp, 1) := by decide +kernel
theorem dL_law_640 : decode cL_law 640 = .ok (.ifCond .eq 5, 3) := by decide +kernel
theorem dL_law_643 : decode cL_law 643 = .ok (.iconst 0, 1) := by decide +kernel
theorem dL_law_644 : decode cL_law 644 = .ok (.ireturn, 1) := by decide +kernel
theorem dL_law_645 : decode cL_law 645 = .ok (.goto 861, 3) := by decide +kernel
theorem dL_law_648 : decode cL_law 648 = .ok (.aload_n 1, 1) := by decide +kernel
theorem dL_law_649 : decode cL_law 649 = .ok (.invokevirtual 123, 3) := by decide +kernel
theorem dL_law_652 : decode cL_law 652 = .ok (.aload_n 2, 1) := by decide +kernel
theorem dL_law_653 : decode cL_law 653 = .ok (.invokevirtual 126, 3) := by decide +kernel
theorem dL_law_656 : decode cL_law 656 = .ok (.if_icmp .eq 850, 3) := by decide +kernel
theorem dL_law_659 : decode cL_law 659 = .ok (.iconst 0, 1) := by decide +kernel
theorem dL_law_660 : decode cL_law 660 = .ok (.ireturn, 1) := by decide +kernel
theorem dL_law_661 : decode cL_law 661 = .ok (.aload_n 1, 1) := by decide +kernel
theorem dL_law_662 : decode cL_law 662 = .ok (.aload_n 0, 1) := by decide +kernel
theorem dL_law_663 : decode cL_law 663 = .ok (.iload 4, 2) := by decide +kernel
theorem dL_law_665 : decode cL_law 665 = .ok (.iconst 1, 1) := by decide +kernel
theorem dL_law_666 : decode cL_law 666 = .ok (.iadd, 1) := by decide +kernel
theorem dL_law_667 : decode cL_law 667 = .ok (.iaload, 1) := by decide +kernel
theorem dL_law_668 : decode cL_law 668 = .ok (.aload_n 3, 1) := by decide +kernel
theorem dL_law_669 : decode cL_law 669 = .ok (.invokestatic 127, 3) := by decide +kernel
theorem dL_law_672 : decode cL_law 672 = .ok (.istore 5, 2) := by decide +kernel
theorem dL_law_674 : decode cL_law 674 = .ok (.aload_n 2, 1) := by decide +kernel
theorem dL_law_675 : decode cL_law 675 = .ok (.aload_n 0, 1) := by decide +kernel
theorem dL_law_676 : decode cL_law 676 = .ok (.iload 4, 2) := by decide +kernel
theorem dL_law_678 : decode cL_law 678 = .ok (.iconst 1, 1) := by decide +kernel
theorem dL_law_679 : decode cL_law 679 = .ok (.iadd, 1) := by decide +kernel
theorem dL_law_680 : decode cL_law 680 = .ok (.iaload, 1) := by decide +kernel
theorem dL_law_681 : decode cL_law 681 = .ok (.invokevirtual 130, 3) := by decide +kernel
theorem dL_law_684 : decode cL_law 684 = .ok (.istore 6, 2) := by decide +kernel
theorem dL_law_686 : decode cL_law 686 = .ok (.aload_n 2, 1) := by decide +kernel
theorem dL_law_687 : decode cL_law 687 = .ok (.invokevirtual 96, 3) := by decide +kernel
theorem dL_law_690 : decode cL_law 690 = .ok (.iload 5, 2) := by decide +kernel
theorem dL_law_692 : decode cL_law 692 = .ok (.if_icmp .eq 5, 3) := by decide +kernel
theorem dL_law_695 : decode cL_law 695 = .ok (.iconst 0, 1) := by decide +kernel
theorem dL_law_696 : decode cL_law 696 = .ok (.ireturn, 1) := by decide +kernel
theorem dL_law_697 : decode cL_law 697 = .ok (.iload 5, 2) := by decide +kernel
theorem dL_law_699 : decode cL_law 699 = .ok (.ifCond .ne 22, 3) := by decide +kernel
theorem dL_law_702 : decode cL_law 702 = .ok (.aload_n 3, 1) := by decide +kernel
theorem dL_law_703 : decode cL_law 703 = .ok (.iconst 0, 1) := by decide +kernel
theorem dL_law_704 : decode cL_law 704 = .ok (.laload, 1) := by decide +kernel
theorem dL_law_705 : decode cL_law 705 = .ok (.iload 6, 2) := by decide +kernel
theorem dL_law_707 : decode cL_law 707 = .ok (.ifCond .eq 7, 3) := by decide +kernel
theorem dL_law_710 : decode cL_law 710 = .ok (.lconst 1, 1) := by decide +kernel
theorem dL_law_711 : decode cL_law 711 = .ok (.goto 4, 3) := by decide +kernel
theorem dL_law_714 : decode cL_law 714 = .ok (.lconst 0, 1) := by decide +kernel
theorem dL_law_715 : decode cL_law 715 = .ok (.lcmp, 1) := by decide +kernel
theorem dL_law_716 : decode cL_law 716 = .ok (.ifCond .eq 5, 3) := by decide +kernel
theorem dL_law_719 : decode cL_law 719 = .ok (.iconst 0, 1) := by decide +kernel
theorem dL_law_720 : decode cL_law 720 = .ok (.ireturn, 1) := by decide +kernel
theorem dL_law_721 : decode cL_law 721 = .ok (.goto 785, 3) := by decide +kernel
theorem dL_law_724 : decode cL_law 724 = .ok (.aload_n 1, 1) := by decide +kernel
theorem dL_law_725 : decode cL_law 725 = .ok (.aload_n 0, 1) := by decide +kernel
theorem dL_law_726 : decode cL_law 726 = .ok (.iload 4, 2) := by decide +kernel
theorem dL_law_728 : decode cL_law 728 = .ok (.iconst 1, 1) := by decide +kernel
theorem dL_law_729 : decode cL_law 729 = .ok (.iadd, 1) := by decide +kernel
theorem dL_law_730 : decode cL_law 730 = .ok (.iaload, 1) := by decide +kernel
theorem dL_law_731 : decode cL_law 731 = .ok (.aload_n 0, 1) := by decide +kernel
theorem dL_law_732 : decode cL_law 732 = .ok (.iload 4, 2) := by decide +kernel
theorem dL_law_734 : decode cL_law 734 = .ok (.iconst 2, 1) := by decide +kernel
theorem dL_law_735 : decode cL_law 735 = .ok (.iadd, 1) := by decide +kernel
theorem dL_law_736 : decode cL_law 736 = .ok (.iaload, 1) := by decide +kernel
theorem dL_law_737 : decode cL_law 737 = .ok (.aload_n 3, 1) := by decide +kernel
theorem dL_law_738 : decode cL_law 738 = .ok (.invokestatic 131, 3) := by decide +kernel
theorem dL_law_741 : decode cL_law 741 = .ok (.istore 5, 2) := by decide +kernel
theorem dL_law_743 : decode cL_law 743 = .ok (.aload_n 2, 1) := by decide +kernel
theorem dL_law_744 : decode cL_law 744 = .ok (.aload_n 0, 1) := by decide +kernel
theorem dL_law_745 : decode cL_law 745 = .ok (.iload 4, 2) := by decide +kernel
theorem dL_law_747 : decode cL_law 747 = .ok (.iconst 1, 1) := by decide +kernel
theorem dL_law_748 : decode cL_law 748 = .ok (.iadd, 1) := by decide +kernel
theorem dL_law_749 : decode cL_law 749 = .ok (.iaload, 1) := by decide +kernel
theorem dL_law_750 : decode cL_law 750 = .ok (.aload_n 0, 1) := by decide +kernel
theorem dL_law_751 : decode cL_law 751 = .ok (.iload 4, 2) := by decide +kernel
theorem dL_law_753 : decode cL_law 753 = .ok (.iconst 2, 1) := by decide +kernel
theorem dL_law_754 : decode cL_law 754 = .ok (.iadd, 1) := by decide +kernel
theorem dL_law_755 : decode cL_law 755 = .ok (.iaload, 1) := by decide +kernel
theorem dL_law_756 : decode cL_law 756 = .ok (.invokevirtual 133, 3) := by decide +kernel
theorem dL_law_759 : decode cL_law 759 = .ok (.istore 6, 2) := by decide +kernel
theorem dL_law_761 : decode cL_law 761 = .ok (.aload_n 2, 1) := by decide +kernel
theorem dL_law_762 : decode cL_law 762 = .ok (.invokevirtual 96, 3) := by decide +kernel
theorem dL_law_765 : decode cL_law 765 = .ok (.iload 5, 2) := by decide +kernel
theorem dL_law_767 : decode cL_law 767 = .ok (.if_icmp .eq 5, 3) := by decide +kernel
theorem dL_law_770 : decode cL_law 770 = .ok (.iconst 0, 1) := by decide +kernel
theorem dL_law_771 : decode cL_law 771 = .ok (.ireturn, 1) := by decide +kernel
theorem dL_law_772 : decode cL_law 772 = .ok (.iload 5, 2) := by decide +kernel
theorem dL_law_774 : decode cL_law 774 = .ok (.ifCond .ne 15, 3) := by decide +kernel
theorem dL_law_777 : decode cL_law 777 = .ok (.aload_n 3, 1) := by decide +kernel
theorem dL_law_778 : decode cL_law 778 = .ok (.iconst 0, 1) := by decide +kernel
theorem dL_law_779 : decode cL_law 779 = .ok (.laload, 1) := by decide +kernel
theorem dL_law_780 : decode cL_law 780 = .ok (.iload 6, 2) := by decide +kernel
theorem dL_law_782 : decode cL_law 782 = .ok (.i2l, 1) := by decide +kernel
theorem dL_law_783 : decode cL_law 783 = .ok (.lcmp, 1) := by decide +kernel
theorem dL_law_784 : decode cL_law 784 = .ok (.ifCond .eq 5, 3) := by decide +kernel
theorem dL_law_787 : decode cL_law 787 = .ok (.iconst 0, 1) := by decide +kernel
theorem dL_law_788 : decode cL_law 788 = .ok (.ireturn, 1) := by decide +kernel
theorem dL_law_789 : decode cL_law 789 = .ok (.goto 717, 3) := by decide +kernel
theorem dL_law_792 : decode cL_law 792 = .ok (.aload_n 1, 1) := by decide +kernel
theorem dL_law_793 : decode cL_law 793 = .ok (.aload_n 0, 1) := by decide +kernel
theorem dL_law_794 : decode cL_law 794 = .ok (.iload 4, 2) := by decide +kernel
theorem dL_law_796 : decode cL_law 796 = .ok (.iconst 1, 1) := by decide +kernel
theorem dL_law_797 : decode cL_law 797 = .ok (.iadd, 1) := by decide +kernel
theorem dL_law_798 : decode cL_law 798 = .ok (.iaload, 1) := by decide +kernel
theorem dL_law_799 : decode cL_law 799 = .ok (.aload_n 0, 1) := by decide +kernel
theorem dL_law_800 : decode cL_law 800 = .ok (.iload 4, 2) := by decide +kernel
theorem dL_law_802 : decode cL_law 802 = .ok (.iconst 2, 1) := by decide +kernel
theorem dL_law_803 : decode cL_law 803 = .ok (.iadd, 1) := by decide +kernel
theorem dL_law_804 : decode cL_law 804 = .ok (.iaload, 1) := by decide +kernel
theorem dL_law_805 : decode cL_law 805 = .ok (.aload_n 3, 1) := by decide +kernel
theorem dL_law_806 : decode cL_law 806 = .ok (.invokestatic 134, 3) := by decide +kernel
theorem dL_law_809 : decode cL_law 809 = .ok (.istore 5, 2) := by decide +kernel
theorem dL_law_811 : decode cL_law 811 = .ok (.aload_n 2, 1) := by decide +kernel
theorem dL_law_812 : decode cL_law 812 = .ok (.aload_n 0, 1) := by decide +kernel
theorem dL_law_813 : decode cL_law 813 = .ok (.iload 4, 2) := by decide +kernel
theorem dL_law_815 : decode cL_law 815 = .ok (.iconst 1, 1) := by decide +kernel
theorem dL_law_816 : decode cL_law 816 = .ok (.iadd, 1) := by decide +kernel
theorem dL_law_817 : decode cL_law 817 = .ok (.iaload, 1) := by decide +kernel
theorem dL_law_818 : decode cL_law 818 = .ok (.aload_n 0, 1) := by decide +kernel
theorem dL_law_819 : decode cL_law 819 = .ok (.iload 4, 2) := by decide +kernel
theorem dL_law_821 : decode cL_law 821 = .ok (.iconst 2, 1) := by decide +kernel
theorem dL_law_822 : decode cL_law 822 = .ok (.iadd, 1) := by decide +kernel
theorem dL_law_823 : decode cL_law 823 = .ok (.iaload, 1) := by decide +kernel
theorem dL_law_824 : decode cL_law 824 = .ok (.invokevirtual 136, 3) := by decide +kernel
theorem dL_law_827 : decode cL_law 827 = .ok (.istore 6, 2) := by decide +kernel
theorem dL_law_829 : decode cL_law 829 = .ok (.aload_n 2, 1) := by decide +kernel
theorem dL_law_830 : decode cL_law 830 = .ok (.invokevirtual 96, 3) := by decide +kernel
theorem dL_law_833 : decode cL_law 833 = .ok (.iload 5, 2) := by decide +kernel
theorem dL_law_835 : decode cL_law 835 = .ok (.if_icmp .eq 5, 3) := by decide +kernel
theorem dL_law_838 : decode cL_law 838 = .ok (.iconst 0, 1) := by decide +kernel
theorem dL_law_839 : decode cL_law 839 = .ok (.ireturn, 1) := by decide +kernel
theorem dL_law_840 : decode cL_law 840 = .ok (.iload 5, 2) := by decide +kernel
theorem dL_law_842 : decode cL_law 842 = .ok (.ifCond .ne 15, 3) := by decide +kernel
theorem dL_law_845 : decode cL_law 845 = .ok (.aload_n 3, 1) := by decide +kernel
theorem dL_law_846 : decode cL_law 846 = .ok (.iconst 0, 1) := by decide +kernel
theorem dL_law_847 : decode cL_law 847 = .ok (.laload, 1) := by decide +kernel
theorem dL_law_848 : decode cL_law 848 = .ok (.iload 6, 2) := by decide +kernel
theorem dL_law_850 : decode cL_law 850 = .ok (.i2l, 1) := by decide +kernel
theorem dL_law_851 : decode cL_law 851 = .ok (.lcmp, 1) := by decide +kernel
theorem dL_law_852 : decode cL_law 852 = .ok (.ifCond .eq 5, 3) := by decide +kernel
theorem dL_law_855 : decode cL_law 855 = .ok (.iconst 0, 1) := by decide +kernel
theorem dL_law_856 : decode cL_law 856 = .ok (.ireturn, 1) := by decide +kernel
theorem dL_law_857 : decode cL_law 857 = .ok (.goto 649, 3) := by decide +kernel
theorem dL_law_860 : decode cL_law 860 = .ok (.aload_n 1, 1) := by decide +kernel
theorem dL_law_861 : decode cL_law 861 = .ok (.aload_n 0, 1) := by decide +kernel
theorem dL_law_862 : decode cL_law 862 = .ok (.iload 4, 2) := by decide +kernel
theorem dL_law_864 : decode cL_law 864 = .ok (.iconst 1, 1) := by decide +kernel
theorem dL_law_865 : decode cL_law 865 = .ok (.iadd, 1) := by decide +kernel
theorem dL_law_866 : decode cL_law 866 = .ok (.iaload, 1) := by decide +kernel
theorem dL_law_867 : decode cL_law 867 = .ok (.aload_n 3, 1) := by decide +kernel
theorem dL_law_868 : decode cL_law 868 = .ok (.invokestatic 137, 3) := by decide +kernel
theorem dL_law_871 : decode cL_law 871 = .ok (.istore 5, 2) := by decide +kernel
theorem dL_law_873 : decode cL_law 873 = .ok (.aload_n 2, 1) := by decide +kernel
theorem dL_law_874 : decode cL_law 874 = .ok (.aload_n 0, 1) := by decide +kernel
theorem dL_law_875 : decode cL_law 875 = .ok (.iload 4, 2) := by decide +kernel
theorem dL_law_877 : decode cL_law 877 = .ok (.iconst 1, 1) := by decide +kernel
theorem dL_law_878 : decode cL_law 878 = .ok (.iadd, 1) := by decide +kernel
theorem dL_law_879 : decode cL_law 879 = .ok (.iaload, 1) := by decide +kernel
theorem dL_law_880 : decode cL_law 880 = .ok (.invokevirtual 139, 3) := by decide +kernel
theorem dL_law_883 : decode cL_law 883 = .ok (.istore 6, 2) := by decide +kernel
theorem dL_law_885 : decode cL_law 885 = .ok (.aload_n 2, 1) := by decide +kernel
theorem dL_law_886 : decode cL_law 886 = .ok (.invokevirtual 96, 3) := by decide +kernel
theorem dL_law_889 : decode cL_law 889 = .ok (.iload 5, 2) := by decide +kernel
theorem dL_law_891 : decode cL_law 891 = .ok (.if_icmp .eq 5, 3) := by decide +kernel
theorem dL_law_894 : decode cL_law 894 = .ok (.iconst 0, 1) := by decide +kernel
theorem dL_law_895 : decode cL_law 895 = .ok (.ireturn, 1) := by decide +kernel
theorem dL_law_896 : decode cL_law 896 = .ok (.iload 5, 2) := by decide +kernel
theorem dL_law_898 : decode cL_law 898 = .ok (.ifCond .ne 15, 3) := by decide +kernel
theorem dL_law_901 : decode cL_law 901 = .ok (.aload_n 3, 1) := by decide +kernel
theorem dL_law_902 : decode cL_law 902 = .ok (.iconst 0, 1) := by decide +kernel
theorem dL_law_903 : decode cL_law 903 = .ok (.laload, 1) := by decide +kernel
theorem dL_law_904 : decode cL_law 904 = .ok (.iload 6, 2) := by decide +kernel
theorem dL_law_906 : decode cL_law 906 = .ok (.i2l, 1) := by decide +kernel
theorem dL_law_907 : decode cL_law 907 = .ok (.lcmp, 1) := by decide +kernel
theorem dL_law_908 : decode cL_law 908 = .ok (.ifCond .eq 5, 3) := by decide +kernel
theorem dL_law_911 : decode cL_law 911 = .ok (.iconst 0, 1) := by decide +kernel
theorem dL_law_912 : decode cL_law 912 = .ok (.ireturn, 1) := by decide +kernel
theorem dL_law_913 : decode cL_law 913 = .ok (.goto 593, 3) := by decide +kernel
theorem dL_law_916 : decode cL_law 916 = .ok (.aload_n 1, 1) := by decide +kernel
theorem dL_law_917 : decode cL_law 917 = .ok (.aload_n 0, 1) := by decide +kernel
theorem dL_law_918 : decode cL_law 918 = .ok (.iload 4, 2) := by decide +kernel
theorem dL_law_920 : decode cL_law 920 = .ok (.iconst 1, 1) := by decide +kernel
theorem dL_law_921 : decode cL_law 921 = .ok (.iadd, 1) := by decide +kernel
theorem dL_law_922 : decode cL_law 922 = .ok (.iaload, 1) := by decide +kernel
theorem dL_law_923 : decode cL_law 923 = .ok (.aload_n 0, 1) := by decide +kernel
theorem dL_law_924 : decode cL_law 924 = .ok (.iload 4, 2) := by decide +kernel
theorem dL_law_926 : decode cL_law 926 = .ok (.iconst 2, 1) := by decide +kernel
theorem dL_law_927 : decode cL_law 927 = .ok (.iadd, 1) := by decide +kernel
theorem dL_law_928 : decode cL_law 928 = .ok (.iaload, 1) := by decide +kernel
theorem dL_law_929 : decode cL_law 929 = .ok (.aload_n 0, 1) := by decide +kernel
theorem dL_law_930 : decode cL_law 930 = .ok (.iload 4, 2) := by decide +kernel
theorem dL_law_932 : decode cL_law 932 = .ok (.iconst 3, 1) := by decide +kernel
theorem dL_law_933 : decode cL_law 933 = .ok (.iadd, 1) := by decide +kernel
theorem dL_law_934 : decode cL_law 934 = .ok (.iaload, 1) := by decide +kernel
theorem dL_law_935 : decode cL_law 935 = .ok (.aload_n 3, 1) := by decide +kernel
theorem dL_law_936 : decode cL_law 936 = .ok (.invokestatic 140, 3) := by decide +kernel
theorem dL_law_939 : decode cL_law 939 = .ok (.istore 5, 2) := by decide +kernel
theorem dL_law_941 : decode cL_law 941 = .ok (.aload_n 2, 1) := by decide +kernel
theorem dL_law_942 : decode cL_law 942 = .ok (.aload_n 0, 1) := by decide +kernel
theorem dL_law_943 : decode cL_law 943 = .ok (.iload 4, 2) := by decide +kernel
theorem dL_law_945 : decode cL_law 945 = .ok (.iconst 1, 1) := by decide +kernel
theorem dL_law_946 : decode cL_law 946 = .ok (.iadd, 1) := by decide +kernel
theorem dL_law_947 : decode cL_law 947 = .ok (.iaload, 1) := by decide +kernel
theorem dL_law_948 : decode cL_law 948 = .ok (.aload_n 0, 1) := by decide +kernel
theorem dL_law_949 : decode cL_law 949 = .ok (.iload 4, 2) := by decide +kernel
theorem dL_law_951 : decode cL_law 951 = .ok (.iconst 2, 1) := by decide +kernel
theorem dL_law_952 : decode cL_law 952 = .ok (.iadd, 1) := by decide +kernel
theorem dL_law_953 : decode cL_law 953 = .ok (.iaload, 1) := by decide +kernel
theorem dL_law_954 : decode cL_law 954 = .ok (.aload_n 0, 1) := by decide +kernel
theorem dL_law_955 : decode cL_law 955 = .ok (.iload 4, 2) := by decide +kernel
theorem dL_law_957 : decode cL_law 957 = .ok (.iconst 3, 1) := by decide +kernel
theorem dL_law_958 : decode cL_law 958 = .ok (.iadd, 1) := by decide +kernel
theorem dL_law_959 : decode cL_law 959 = .ok (.iaload, 1) := by decide +kernel
theorem dL_law_960 : decode cL_law 960 = .ok (.invokevirtual 142, 3) := by decide +kernel
theorem dL_law_963 : decode cL_law 963 = .ok (.istore 6, 2) := by decide +kernel
theorem dL_law_965 : decode cL_law 965 = .ok (.aload_n 2, 1) := by decide +kernel
theorem dL_law_966 : decode cL_law 966 = .ok (.invokevirtual 96, 3) := by decide +kernel
theorem dL_law_969 : decode cL_law 969 = .ok (.iload 5, 2) := by decide +kernel
theorem dL_law_971 : decode cL_law 971 = .ok (.if_icmp .eq 5, 3) := by decide +kernel
theorem dL_law_974 : decode cL_law 974 = .ok (.iconst 0, 1) := by decide +kernel
theorem dL_law_975 : decode cL_law 975 = .ok (.ireturn, 1) := by decide +kernel
theorem dL_law_976 : decode cL_law 976 = .ok (.iload 5, 2) := by decide +kernel
theorem dL_law_978 : decode cL_law 978 = .ok (.ifCond .ne 22, 3) := by decide +kernel
theorem dL_law_981 : decode cL_law 981 = .ok (.aload_n 3, 1) := by decide +kernel
theorem dL_law_982 : decode cL_law 982 = .ok (.iconst 0, 1) := by decide +kernel
theorem dL_law_983 : decode cL_law 983 = .ok (.laload, 1) := by decide +kernel
theorem dL_law_984 : decode cL_law 984 = .ok (.iload 6, 2) := by decide +kernel
theorem dL_law_986 : decode cL_law 986 = .ok (.ifCond .eq 7, 3) := by decide +kernel
theorem dL_law_989 : decode cL_law 989 = .ok (.lconst 1, 1) := by decide +kernel
theorem dL_law_990 : decode cL_law 990 = .ok (.goto 4, 3) := by decide +kernel
theorem dL_law_993 : decode cL_law 993 = .ok (.lconst 0, 1) := by decide +kernel
theorem dL_law_994 : decode cL_law 994 = .ok (.lcmp, 1) := by decide +kernel
theorem dL_law_995 : decode cL_law 995 = .ok (.ifCond .eq 5, 3) := by decide +kernel
theorem dL_law_998 : decode cL_law 998 = .ok (.iconst 0, 1) := by decide +kernel
theorem dL_law_999 : decode cL_law 999 = .ok (.ireturn, 1) := by decide +kernel
theorem dL_law_1000 : decode cL_law 1000 = .ok (.goto 506, 3) := by decide +kernel
theorem dL_law_1003 : decode cL_law 1003 = .ok (.aload_n 1, 1) := by decide +kernel
theorem dL_law_1004 : decode cL_law 1004 = .ok (.aload_n 0, 1) := by decide +kernel
theorem dL_law_1005 : decode cL_law 1005 = .ok (.iload 4, 2) := by decide +kernel
theorem dL_law_1007 : decode cL_law 1007 = .ok (.iconst 1, 1) := by decide +kernel
theorem dL_law_1008 : decode cL_law 1008 = .ok (.iadd, 1) := by decide +kernel
theorem dL_law_1009 : decode cL_law 1009 = .ok (.iaload, 1) := by decide +kernel
theorem dL_law_1010 : decode cL_law 1010 = .ok (.aload_n 3, 1) := by decide +kernel
theorem dL_law_1011 : decode cL_law 1011 = .ok (.invokestatic 143, 3) := by decide +kernel
theorem dL_law_1014 : decode cL_law 1014 = .ok (.istore 5, 2) := by decide +kernel
theorem dL_law_1016 : decode cL_law 1016 = .ok (.aload_n 2, 1) := by decide +kernel
theorem dL_law_1017 : decode cL_law 1017 = .ok (.aload_n 0, 1) := by decide +kernel
theorem dL_law_1018 : decode cL_law 1018 = .ok (.iload 4, 2) := by decide +kernel
theorem dL_law_1020 : decode cL_law 1020 = .ok (.iconst 1, 1) := by decide +kernel
theorem dL_law_1021 : decode cL_law 1021 = .ok (.iadd, 1) := by decide +kernel
theorem dL_law_1022 : decode cL_law 1022 = .ok (.iaload, 1) := by decide +kernel
theorem dL_law_1023 : decode cL_law 1023 = .ok (.invokevirtual 145, 3) := by decide +kernel
theorem dL_law_1026 : decode cL_law 1026 = .ok (.istore 6, 2) := by decide +kernel
theorem dL_law_1028 : decode cL_law 1028 = .ok (.aload_n 2, 1) := by decide +kernel
theorem dL_law_1029 : decode cL_law 1029 = .ok (.invokevirtual 96, 3) := by decide +kernel
theorem dL_law_1032 : decode cL_law 1032 = .ok (.iload 5, 2) := by decide +kernel
theorem dL_law_1034 : decode cL_law 1034 = .ok (.if_icmp .eq 5, 3) := by decide +kernel
theorem dL_law_1037 : decode cL_law 1037 = .ok (.iconst 0, 1) := by decide +kernel
theorem dL_law_1038 : decode cL_law 1038 = .ok (.ireturn, 1) := by decide +kernel
theorem dL_law_1039 : decode cL_law 1039 = .ok (.iload 5, 2) := by decide +kernel
theorem dL_law_1041 : decode cL_law 1041 = .ok (.ifCond .ne 15, 3) := by decide +kernel
theorem dL_law_1044 : decode cL_law 1044 = .ok (.aload_n 3, 1) := by decide +kernel
theorem dL_law_1045 : decode cL_law 1045 = .ok (.iconst 0, 1) := by decide +kernel
theorem dL_law_1046 : decode cL_law 1046 = .ok (.laload, 1) := by decide +kernel
theorem dL_law_1047 : decode cL_law 1047 = .ok (.iload 6, 2) := by decide +kernel
theorem dL_law_1049 : decode cL_law 1049 = .ok (.i2l, 1) := by decide +kernel
theorem dL_law_1050 : decode cL_law 1050 = .ok (.lcmp, 1) := by decide +kernel
theorem dL_law_1051 : decode cL_law 1051 = .ok (.ifCond .eq 5, 3) := by decide +kernel
theorem dL_law_1054 : decode cL_law 1054 = .ok (.iconst 0, 1) := by decide +kernel
theorem dL_law_1055 : decode cL_law 1055 = .ok (.ireturn, 1) := by decide +kernel
theorem dL_law_1056 : decode cL_law 1056 = .ok (.goto 450, 3) := by decide +kernel
theorem dL_law_1059 : decode cL_law 1059 = .ok (.aload_n 1, 1) := by decide +kernel
theorem dL_law_1060 : decode cL_law 1060 = .ok (.aload_n 0, 1) := by decide +kernel
theorem dL_law_1061 : decode cL_law 1061 = .ok (.iload 4, 2) := by decide +kernel
theorem dL_law_1063 : decode cL_law 1063 = .ok (.iconst 1, 1) := by decide +kernel
theorem dL_law_1064 : decode cL_law 1064 = .ok (.iadd, 1) := by decide +kernel
theorem dL_law_1065 : decode cL_law 1065 = .ok (.iaload, 1) := by decide +kernel
theorem dL_law_1066 : decode cL_law 1066 = .ok (.ifCond .eq 7, 3) := by decide +kernel
theorem dL_law_1069 : decode cL_law 1069 = .ok (.iconst 1, 1) := by decide +kernel
theorem dL_law_1070 : decode cL_law 1070 = .ok (.goto 4, 3) := by decide +kernel
theorem dL_law_1073 : decode cL_law 1073 = .ok (.iconst 0, 1) := by decide +kernel
theorem dL_law_1074 : decode cL_law 1074 = .ok (.aload_n 3, 1) := by decide +kernel
theorem dL_law_1075 : decode cL_law 1075 = .ok (.invokestatic 146, 3) := by decide +kernel
theorem dL_law_1078 : decode cL_law 1078 = .ok (.istore 5, 2) := by decide +kernel
theorem dL_law_1080 : decode cL_law 1080 = .ok (.aload_n 2, 1) := by decide +kernel
theorem dL_law_1081 : decode cL_law 1081 = .ok (.aload_n 0, 1) := by decide +kernel
theorem dL_law_1082 : decode cL_law 1082 = .ok (.iload 4, 2) := by decide +kernel
theorem dL_law_1084 : decode cL_law 1084 = .ok (.iconst 1, 1) := by decide +kernel
theorem dL_law_1085 : decode cL_law 1085 = .ok (.iadd, 1) := by decide +kernel
theorem dL_law_1086 : decode cL_law 1086 = .ok (.iaload, 1) := by decide +kernel
theorem dL_law_1087 : decode cL_law 1087 = .ok (.ifCond .eq 7, 3) := by decide +kernel
theorem dL_law_1090 : decode cL_law 1090 = .ok (.iconst 1, 1) := by decide +kernel
theorem dL_law_1091 : decode cL_law 1091 = .ok (.goto 4, 3) := by decide +kernel
theorem dL_law_1094 : decode cL_law 1094 = .ok (.iconst 0, 1) := by decide +kernel
theorem dL_law_1095 : decode cL_law 1095 = .ok (.invokevirtual 149, 3) := by decide +kernel
theorem dL_law_1098 : decode cL_law 1098 = .ok (.istore 6, 2) := by decide +kernel
theorem dL_law_1100 : decode cL_law 1100 = .ok (.aload_n 2, 1) := by decide +kernel
theorem dL_law_1101 : decode cL_law 1101 = .ok (.invokevirtual 96, 3) := by decide +kernel
theorem dL_law_1104 : decode cL_law 1104 = .ok (.iload 5, 2) := by decide +kernel
theorem dL_law_1106 : decode cL_law 1106 = .ok (.if_icmp .eq 5, 3) := by decide +kernel
theorem dL_law_1109 : decode cL_law 1109 = .ok (.iconst 0, 1) := by decide +kernel
theorem dL_law_1110 : decode cL_law 1110 = .ok (.ireturn, 1) := by decide +kernel
theorem dL_law_1111 : decode cL_law 1111 = .ok (.iload 5, 2) := by decide +kernel
theorem dL_law_1113 : decode cL_law 1113 = .ok (.ifCond .ne 15, 3) := by decide +kernel
theorem dL_law_1116 : decode cL_law 1116 = .ok (.aload_n 3, 1) := by decide +kernel
theorem dL_law_1117 : decode cL_law 1117 = .ok (.iconst 0, 1) := by decide +kernel
theorem dL_law_1118 : decode cL_law 1118 = .ok (.laload, 1) := by decide +kernel
theorem dL_law_1119 : decode cL_law 1119 = .ok (.iload 6, 2) := by decide +kernel
theorem dL_law_1121 : decode cL_law 1121 = .ok (.i2l, 1) := by decide +kernel
theorem dL_law_1122 : decode cL_law 1122 = .ok (.lcmp, 1) := by decide +kernel
theorem dL_law_1123 : decode cL_law 1123 = .ok (.ifCond .eq 5, 3) := by decide +kernel
theorem dL_law_1126 : decode cL_law 1126 = .ok (.iconst 0, 1) := by decide +kernel
theorem dL_law_1127 : decode cL_law 1127 = .ok (.ireturn, 1) := by decide +kernel
theorem dL_law_1128 : decode cL_law 1128 = .ok (.goto 378, 3) := by decide +kernel
theorem dL_law_1131 : decode cL_law 1131 = .ok (.aload_n 1, 1) := by decide +kernel
theorem dL_law_1132 : decode cL_law 1132 = .ok (.aload_n 3, 1) := by decide +kernel
theorem dL_law_1133 : decode cL_law 1133 = .ok (.invokestatic 150, 3) := by decide +kernel
theorem dL_law_1136 : decode cL_law 1136 = .ok (.istore 5, 2) := by decide +kernel
theorem dL_law_1138 : decode cL_law 1138 = .ok (.aload_n 2, 1) := by decide +kernel
theorem dL_law_1139 : decode cL_law 1139 = .ok (.invokevirtual 152, 3) := by decide +kernel
theorem dL_law_1142 : decode cL_law 1142 = .ok (.istore 6, 2) := by decide +kernel
theorem dL_law_1144 : decode cL_law 1144 = .ok (.aload_n 2, 1) := by decide +kernel
theorem dL_law_1145 : decode cL_law 1145 = .ok (.invokevirtual 96, 3) := by decide +kernel
theorem dL_law_1148 : decode cL_law 1148 = .ok (.iload 5, 2) := by decide +kernel
theorem dL_law_1150 : decode cL_law 1150 = .ok (.if_icmp .eq 5, 3) := by decide +kernel
theorem dL_law_1153 : decode cL_law 1153 = .ok (.iconst 0, 1) := by decide +kernel
theorem dL_law_1154 : decode cL_law 1154 = .ok (.ireturn, 1) := by decide +kernel
theorem dL_law_1155 : decode cL_law 1155 = .ok (.iload 5, 2) := by decide +kernel
theorem dL_law_1157 : decode cL_law 1157 = .ok (.ifCond .ne 15, 3) := by decide +kernel
theorem dL_law_1160 : decode cL_law 1160 = .ok (.aload_n 3, 1) := by decide +kernel
theorem dL_law_1161 : decode cL_law 1161 = .ok (.iconst 0, 1) := by decide +kernel
theorem dL_law_1162 : decode cL_law 1162 = .ok (.laload, 1) := by decide +kernel
theorem dL_law_1163 : decode cL_law 1163 = .ok (.iload 6, 2) := by decide +kernel
theorem dL_law_1165 : decode cL_law 1165 = .ok (.i2l, 1) := by decide +kernel
theorem dL_law_1166 : decode cL_law 1166 = .ok (.lcmp, 1) := by decide +kernel
theorem dL_law_1167 : decode cL_law 1167 = .ok (.ifCond .eq 5, 3) := by decide +kernel
theorem dL_law_1170 : decode cL_law 1170 = .ok (.iconst 0, 1) := by decide +kernel
theorem dL_law_1171 : decode cL_law 1171 = .ok (.ireturn, 1) := by decide +kernel
theorem dL_law_1172 : decode cL_law 1172 = .ok (.goto 334, 3) := by decide +kernel
theorem dL_law_1175 : decode cL_law 1175 = .ok (.aload_n 1, 1) := by decide +kernel
theorem dL_law_1176 : decode cL_law 1176 = .ok (.aload_n 0, 1) := by decide +kernel
theorem dL_law_1177 : decode cL_law 1177 = .ok (.iload 4, 2) := by decide +kernel
theorem dL_law_1179 : decode cL_law 1179 = .ok (.iconst 1, 1) := by decide +kernel
theorem dL_law_1180 : decode cL_law 1180 = .ok (.iadd, 1) := by decide +kernel
theorem dL_law_1181 : decode cL_law 1181 = .ok (.iaload, 1) := by decide +kernel
theorem dL_law_1182 : decode cL_law 1182 = .ok (.aload_n 3, 1) := by decide +kernel
theorem dL_law_1183 : decode cL_law 1183 = .ok (.invokestatic 153, 3) := by decide +kernel
theorem dL_law_1186 : decode cL_law 1186 = .ok (.istore 5, 2) := by decide +kernel
theorem dL_law_1188 : decode cL_law 1188 = .ok (.aload_n 2, 1) := by decide +kernel
theorem dL_law_1189 : decode cL_law 1189 = .ok (.aload_n 0, 1) := by decide +kernel
theorem dL_law_1190 : decode cL_law 1190 = .ok (.iload 4, 2) := by decide +kernel
theorem dL_law_1192 : decode cL_law 1192 = .ok (.iconst 1, 1) := by decide +kernel
theorem dL_law_1193 : decode cL_law 1193 = .ok (.iadd, 1) := by decide +kernel
theorem dL_law_1194 : decode cL_law 1194 = .ok (.iaload, 1) := by decide +kernel
theorem dL_law_1195 : decode cL_law 1195 = .ok (.invokevirtual 155, 3) := by decide +kernel
theorem dL_law_1198 : decode cL_law 1198 = .ok (.istore 6, 2) := by decide +kernel
theorem dL_law_1200 : decode cL_law 1200 = .ok (.aload_n 2, 1) := by decide +kernel
theorem dL_law_1201 : decode cL_law 1201 = .ok (.invokevirtual 96, 3) := by decide +kernel
theorem dL_law_1204 : decode cL_law 1204 = .ok (.iload 5, 2) := by decide +kernel
theorem dL_law_1206 : decode cL_law 1206 = .ok (.if_icmp .eq 5, 3) := by decide +kernel
theorem dL_law_1209 : decode cL_law 1209 = .ok (.iconst 0, 1) := by decide +kernel
theorem dL_law_1210 : decode cL_law 1210 = .ok (.ireturn, 1) := by decide +kernel
theorem dL_law_1211 : decode cL_law 1211 = .ok (.iload 5, 2) := by decide +kernel
theorem dL_law_1213 : decode cL_law 1213 = .ok (.ifCond .ne 15, 3) := by decide +kernel
theorem dL_law_1216 : decode cL_law 1216 = .ok (.aload_n 3, 1) := by decide +kernel
theorem dL_law_1217 : decode cL_law 1217 = .ok (.iconst 0, 1) := by decide +kernel
theorem dL_law_1218 : decode cL_law 1218 = .ok (.laload, 1) := by decide +kernel
theorem dL_law_1219 : decode cL_law 1219 = .ok (.iload 6, 2) := by decide +kernel
theorem dL_law_1221 : decode cL_law 1221 = .ok (.i2l, 1) := by decide +kernel
theorem dL_law_1222 : decode cL_law 1222 = .ok (.lcmp, 1) := by decide +kernel
theorem dL_law_1223 : decode cL_law 1223 = .ok (.ifCond .eq 5, 3) := by decide +kernel
theorem dL_law_1226 : decode cL_law 1226 = .ok (.iconst 0, 1) := by decide +kernel
theorem dL_law_1227 : decode cL_law 1227 = .ok (.ireturn, 1) := by decide +kernel
theorem dL_law_1228 : decode cL_law 1228 = .ok (.goto 278, 3) := by decide +kernel
theorem dL_law_1231 : decode cL_law 1231 = .ok (.aload_n 1, 1) := by decide +kernel
theorem dL_law_1232 : decode cL_law 1232 = .ok (.aload_n 0, 1) := by decide +kernel
theorem dL_law_1233 : decode cL_law 1233 = .ok (.iload 4, 2) := by decide +kernel
theorem dL_law_1235 : decode cL_law 1235 = .ok (.iconst 1, 1) := by decide +kernel
theorem dL_law_1236 : decode cL_law 1236 = .ok (.iadd, 1) := by decide +kernel
theorem dL_law_1237 : decode cL_law 1237 = .ok (.iaload, 1) := by decide +kernel
theorem dL_law_1238 : decode cL_law 1238 = .ok (.aload_n 0, 1) := by decide +kernel
theorem dL_law_1239 : decode cL_law 1239 = .ok (.iload 4, 2) := by decide +kernel
theorem dL_law_1241 : decode cL_law 1241 = .ok (.iconst 2, 1) := by decide +kernel
theorem dL_law_1242 : decode cL_law 1242 = .ok (.iadd, 1) := by decide +kernel
theorem dL_law_1243 : decode cL_law 1243 = .ok (.iaload, 1) := by decide +kernel
theorem dL_law_1244 : decode cL_law 1244 = .ok (.aload_n 3, 1) := by decide +kernel
theorem dL_law_1245 : decode cL_law 1245 = .ok (.invokestatic 156, 3) := by decide +kernel
theorem dL_law_1248 : decode cL_law 1248 = .ok (.istore 5, 2) := by decide +kernel
theorem dL_law_1250 : decode cL_law 1250 = .ok (.aload_n 2, 1) := by decide +kernel
theorem dL_law_1251 : decode cL_law 1251 = .ok (.aload_n 0, 1) := by decide +kernel
theorem dL_law_1252 : decode cL_law 1252 = .ok (.iload 4, 2) := by decide +kernel
theorem dL_law_1254 : decode cL_law 1254 = .ok (.iconst 1, 1) := by decide +kernel
theorem dL_law_1255 : decode cL_law 1255 = .ok (.iadd, 1) := by decide +kernel
theorem dL_law_1256 : decode cL_law 1256 = .ok (.iaload, 1) := by decide +kernel
theorem dL_law_1257 : decode cL_law 1257 = .ok (.aload_n 0, 1) := by decide +kernel
theorem dL_law_1258 : decode cL_law 1258 = .ok (.iload 4, 2) := by decide +kernel
theorem dL_law_1260 : decode cL_law 1260 = .ok (.iconst 2, 1) := by decide +kernel
theorem dL_law_1261 : decode cL_law 1261 = .ok (.iadd, 1) := by decide +kernel
theorem dL_law_1262 : decode cL_law 1262 = .ok (.iaload, 1) := by decide +kernel
theorem dL_law_1263 : decode cL_law 1263 = .ok (.invokevirtual 158, 3) := by decide +kernel
theorem dL_law_1266 : decode cL_law 1266 = .ok (.istore 6, 2) := by decide +kernel
theorem dL_law_1268 : decode cL_law 1268 = .ok (.aload_n 2, 1) := by decide +kernel
theorem dL_law_1269 : decode cL_law 1269 = .ok (.invokevirtual 96, 3) := by decide +kernel
theorem dL_law_1272 : decode cL_law 1272 = .ok (.iload 5, 2) := by decide +kernel
theorem dL_law_1274 : decode cL_law 1274 = .ok (.if_icmp .eq 5, 3) := by decide +kernel
theorem dL_law_1277 : decode cL_law 1277 = .ok (.iconst 0, 1) := by decide +kernel
theorem dL_law_1278 : decode cL_law 1278 = .ok (.ireturn, 1) := by decide +kernel
theorem dL_law_1279 : decode cL_law 1279 = .ok (.iload 5, 2) := by decide +kernel
theorem dL_law_1281 : decode cL_law 1281 = .ok (.ifCond .ne 15, 3) := by decide +kernel
theorem dL_law_1284 : decode cL_law 1284 = .ok (.aload_n 3, 1) := by decide +kernel
theorem dL_law_1285 : decode cL_law 1285 = .ok (.iconst 0, 1) := by decide +kernel
theorem dL_law_1286 : decode cL_law 1286 = .ok (.laload, 1) := by decide +kernel
theorem dL_law_1287 : decode cL_law 1287 = .ok (.iload 6, 2) := by decide +kernel
theorem dL_law_1289 : decode cL_law 1289 = .ok (.i2l, 1) := by decide +kernel
theorem dL_law_1290 : decode cL_law 1290 = .ok (.lcmp, 1) := by decide +kernel
theorem dL_law_1291 : decode cL_law 1291 = .ok (.ifCond .eq 5, 3) := by decide +kernel
theorem dL_law_1294 : decode cL_law 1294 = .ok (.iconst 0, 1) := by decide +kernel
theorem dL_law_1295 : decode cL_law 1295 = .ok (.ireturn, 1) := by decide +kernel
theorem dL_law_1296 : decode cL_law 1296 = .ok (.goto 210, 3) := by decide +kernel
theorem dL_law_1299 : decode cL_law 1299 = .ok (.aload_n 1, 1) := by decide +kernel
theorem dL_law_1300 : decode cL_law 1300 = .ok (.invokevirtual 159, 3) := by decide +kernel
theorem dL_law_1303 : decode cL_law 1303 = .ok (.aload_n 2, 1) := by decide +kernel
theorem dL_law_1304 : decode cL_law 1304 = .ok (.invokevirtual 162, 3) := by decide +kernel
theorem dL_law_1307 : decode cL_law 1307 = .ok (.if_icmp .eq 199, 3) := by decide +kernel
theorem dL_law_1310 : decode cL_law 1310 = .ok (.iconst 0, 1) := by decide +kernel
theorem dL_law_1311 : decode cL_law 1311 = .ok (.ireturn, 1) := by decide +kernel
theorem dL_law_1312 : decode cL_law 1312 = .ok (.aload_n 1, 1) := by decide +kernel
theorem dL_law_1313 : decode cL_law 1313 = .ok (.aload_n 0, 1) := by decide +kernel
theorem dL_law_1314 : decode cL_law 1314 = .ok (.iload 4, 2) := by decide +kernel
theorem dL_law_1316 : decode cL_law 1316 = .ok (.iconst 1, 1) := by decide +kernel
theorem dL_law_1317 : decode cL_law 1317 = .ok (.iadd, 1) := by decide +kernel
theorem dL_law_1318 : decode cL_law 1318 = .ok (.iaload, 1) := by decide +kernel
theorem dL_law_1319 : decode cL_law 1319 = .ok (.aload_n 3, 1) := by decide +kernel
theorem dL_law_1320 : decode cL_law 1320 = .ok (.invokestatic 163, 3) := by decide +kernel
theorem dL_law_1323 : decode cL_law 1323 = .ok (.istore 5, 2) := by decide +kernel
theorem dL_law_1325 : decode cL_law 1325 = .ok (.aload_n 2, 1) := by decide +kernel
theorem dL_law_1326 : decode cL_law 1326 = .ok (.aload_n 0, 1) := by decide +kernel
theorem dL_law_1327 : decode cL_law 1327 = .ok (.iload 4, 2) := by decide +kernel
theorem dL_law_1329 : decode cL_law 1329 = .ok (.iconst 1, 1) := by decide +kernel
theorem dL_law_1330 : decode cL_law 1330 = .ok (.iadd, 1) := by decide +kernel
theorem dL_law_1331 : decode cL_law 1331 = .ok (.iaload, 1) := by decide +kernel
theorem dL_law_1332 : decode cL_law 1332 = .ok (.invokevirtual 165, 3) := by decide +kernel
theorem dL_law_1335 : decode cL_law 1335 = .ok (.istore 6, 2) := by decide +kernel
theorem dL_law_1337 : decode cL_law 1337 = .ok (.aload_n 2, 1) := by decide +kernel
theorem dL_law_1338 : decode cL_law 1338 = .ok (.invokevirtual 96, 3) := by decide +kernel
theorem dL_law_1341 : decode cL_law 1341 = .ok (.iload 5, 2) := by decide +kernel
theorem dL_law_1343 : decode cL_law 1343 = .ok (.if_icmp .eq 5, 3) := by decide +kernel
theorem dL_law_1346 : decode cL_law 1346 = .ok (.iconst 0, 1) := by decide +kernel
theorem dL_law_1347 : decode cL_law 1347 = .ok (.ireturn, 1) := by decide +kernel
theorem dL_law_1348 : decode cL_law 1348 = .ok (.iload 5, 2) := by decide +kernel
theorem dL_law_1350 : decode cL_law 1350 = .ok (.ifCond .ne 15, 3) := by decide +kernel
theorem dL_law_1353 : decode cL_law 1353 = .ok (.aload_n 3, 1) := by decide +kernel
theorem dL_law_1354 : decode cL_law 1354 = .ok (.iconst 0, 1) := by decide +kernel
theorem dL_law_1355 : decode cL_law 1355 = .ok (.laload, 1) := by decide +kernel
theorem dL_law_1356 : decode cL_law 1356 = .ok (.iload 6, 2) := by decide +kernel
theorem dL_law_1358 : decode cL_law 1358 = .ok (.i2l, 1) := by decide +kernel
theorem dL_law_1359 : decode cL_law 1359 = .ok (.lcmp, 1) := by decide +kernel
theorem dL_law_1360 : decode cL_law 1360 = .ok (.ifCond .eq 5, 3) := by decide +kernel
theorem dL_law_1363 : decode cL_law 1363 = .ok (.iconst 0, 1) := by decide +kernel
theorem dL_law_1364 : decode cL_law 1364 = .ok (.ireturn, 1) := by decide +kernel
theorem dL_law_1365 : decode cL_law 1365 = .ok (.goto 141, 3) := by decide +kernel
theorem dL_law_1368 : decode cL_law 1368 = .ok (.aload_n 1, 1) := by decide +kernel
theorem dL_law_1369 : decode cL_law 1369 = .ok (.aload_n 0, 1) := by decide +kernel
theorem dL_law_1370 : decode cL_law 1370 = .ok (.iload 4, 2) := by decide +kernel
theorem dL_law_1372 : decode cL_law 1372 = .ok (.iconst 1, 1) := by decide +kernel
theorem dL_law_1373 : decode cL_law 1373 = .ok (.iadd, 1) := by decide +kernel
theorem dL_law_1374 : decode cL_law 1374 = .ok (.iaload, 1) := by decide +kernel
theorem dL_law_1375 : decode cL_law 1375 = .ok (.aload_n 3, 1) := by decide +kernel
theorem dL_law_1376 : decode cL_law 1376 = .ok (.invokestatic 166, 3) := by decide +kernel
theorem dL_law_1379 : decode cL_law 1379 = .ok (.istore 5, 2) := by decide +kernel
theorem dL_law_1381 : decode cL_law 1381 = .ok (.aload_n 2, 1) := by decide +kernel
theorem dL_law_1382 : decode cL_law 1382 = .ok (.aload_n 0, 1) := by decide +kernel
theorem dL_law_1383 : decode cL_law 1383 = .ok (.iload 4, 2) := by decide +kernel
theorem dL_law_1385 : decode cL_law 1385 = .ok (.iconst 1, 1) := by decide +kernel
theorem dL_law_1386 : decode cL_law 1386 = .ok (.iadd, 1) := by decide +kernel
theorem dL_law_1387 : decode cL_law 1387 = .ok (.iaload, 1) := by decide +kernel
theorem dL_law_1388 : decode cL_law 1388 = .ok (.invokevirtual 168, 3) := by decide +kernel
theorem dL_law_1391 : decode cL_law 1391 = .ok (.istore 6, 2) := by decide +kernel
theorem dL_law_1393 : decode cL_law 1393 = .ok (.aload_n 2, 1) := by decide +kernel
theorem dL_law_1394 : decode cL_law 1394 = .ok (.invokevirtual 96, 3) := by decide +kernel
theorem dL_law_1397 : decode cL_law 1397 = .ok (.iload 5, 2) := by decide +kernel
theorem dL_law_1399 : decode cL_law 1399 = .ok (.if_icmp .eq 5, 3) := by decide +kernel
theorem dL_law_1402 : decode cL_law 1402 = .ok (.iconst 0, 1) := by decide +kernel
theorem dL_law_1403 : decode cL_law 1403 = .ok (.ireturn, 1) := by decide +kernel
theorem dL_law_1404 : decode cL_law 1404 = .ok (.iload 5, 2) := by decide +kernel
theorem dL_law_1406 : decode cL_law 1406 = .ok (.ifCond .ne 15, 3) := by decide +kernel
theorem dL_law_1409 : decode cL_law 1409 = .ok (.aload_n 3, 1) := by decide +kernel
theorem dL_law_1410 : decode cL_law 1410 = .ok (.iconst 0, 1) := by decide +kernel
theorem dL_law_1411 : decode cL_law 1411 = .ok (.laload, 1) := by decide +kernel
theorem dL_law_1412 : decode cL_law 1412 = .ok (.iload 6, 2) := by decide +kernel
theorem dL_law_1414 : decode cL_law 1414 = .ok (.i2l, 1) := by decide +kernel
theorem dL_law_1415 : decode cL_law 1415 = .ok (.lcmp, 1) := by decide +kernel
theorem dL_law_1416 : decode cL_law 1416 = .ok (.ifCond .eq 5, 3) := by decide +kernel
theorem dL_law_1419 : decode cL_law 1419 = .ok (.iconst 0, 1) := by decide +kernel
theorem dL_law_1420 : decode cL_law 1420 = .ok (.ireturn, 1) := by decide +kernel
theorem dL_law_1421 : decode cL_law 1421 = .ok (.goto 85, 3) := by decide +kernel
theorem dL_law_1424 : decode cL_law 1424 = .ok (.aload_n 1, 1) := by decide +kernel
theorem dL_law_1425 : decode cL_law 1425 = .ok (.aload_n 0, 1) := by decide +kernel
theorem dL_law_1426 : decode cL_law 1426 = .ok (.iload 4, 2) := by decide +kernel
theorem dL_law_1428 : decode cL_law 1428 = .ok (.iconst 1, 1) := by decide +kernel
theorem dL_law_1429 : decode cL_law 1429 = .ok (.iadd, 1) := by decide +kernel
theorem dL_law_1430 : decode cL_law 1430 = .ok (.iaload, 1) := by decide +kernel
theorem dL_law_1431 : decode cL_law 1431 = .ok (.aload_n 3, 1) := by decide +kernel
theorem dL_law_1432 : decode cL_law 1432 = .ok (.invokestatic 169, 3) := by decide +kernel
theorem dL_law_1435 : decode cL_law 1435 = .ok (.istore 5, 2) := by decide +kernel
theorem dL_law_1437 : decode cL_law 1437 = .ok (.aload_n 2, 1) := by decide +kernel
theorem dL_law_1438 : decode cL_law 1438 = .ok (.aload_n 0, 1) := by decide +kernel
theorem dL_law_1439 : decode cL_law 1439 = .ok (.iload 4, 2) := by decide +kernel
theorem dL_law_1441 : decode cL_law 1441 = .ok (.iconst 1, 1) := by decide +kernel
theorem dL_law_1442 : decode cL_law 1442 = .ok (.iadd, 1) := by decide +kernel
theorem dL_law_1443 : decode cL_law 1443 = .ok (.iaload, 1) := by decide +kernel
theorem dL_law_1444 : decode cL_law 1444 = .ok (.invokevirtual 171, 3) := by decide +kernel
theorem dL_law_1447 : decode cL_law 1447 = .ok (.istore 6, 2) := by decide +kernel
theorem dL_law_1449 : decode cL_law 1449 = .ok (.aload_n 2, 1) := by decide +kernel
theorem dL_law_1450 : decode cL_law 1450 = .ok (.invokevirtual 96, 3) := by decide +kernel
theorem dL_law_1453 : decode cL_law 1453 = .ok (.iload 5, 2) := by decide +kernel
theorem dL_law_1455 : decode cL_law 1455 = .ok (.if_icmp .eq 5, 3) := by decide +kernel
theorem dL_law_1458 : decode cL_law 1458 = .ok (.iconst 0, 1) := by decide +kernel
theorem dL_law_1459 : decode cL_law 1459 = .ok (.ireturn, 1) := by decide +kernel
theorem dL_law_1460 : decode cL_law 1460 = .ok (.iload 5, 2) := by decide +kernel
theorem dL_law_1462 : decode cL_law 1462 = .ok (.ifCond .ne 15, 3) := by decide +kernel
theorem dL_law_1465 : decode cL_law 1465 = .ok (.aload_n 3, 1) := by decide +kernel
theorem dL_law_1466 : decode cL_law 1466 = .ok (.iconst 0, 1) := by decide +kernel
theorem dL_law_1467 : decode cL_law 1467 = .ok (.laload, 1) := by decide +kernel
theorem dL_law_1468 : decode cL_law 1468 = .ok (.iload 6, 2) := by decide +kernel
theorem dL_law_1470 : decode cL_law 1470 = .ok (.i2l, 1) := by decide +kernel
theorem dL_law_1471 : decode cL_law 1471 = .ok (.lcmp, 1) := by decide +kernel
theorem dL_law_1472 : decode cL_law 1472 = .ok (.ifCond .eq 5, 3) := by decide +kernel
theorem dL_law_1475 : decode cL_law 1475 = .ok (.iconst 0, 1) := by decide +kernel
theorem dL_law_1476 : decode cL_law 1476 = .ok (.ireturn, 1) := by decide +kernel
theorem dL_law_1477 : decode cL_law 1477 = .ok (.goto 29, 3) := by decide +kernel
theorem dL_law_1480 : decode cL_law 1480 = .ok (.aload_n 1, 1) := by decide +kernel
theorem dL_law_1481 : decode cL_law 1481 = .ok (.invokevirtual 172, 3) := by decide +kernel
theorem dL_law_1484 : decode cL_law 1484 = .ok (.aload_n 2, 1) := by decide +kernel
theorem dL_law_1485 : decode cL_law 1485 = .ok (.invokevirtual 175, 3) := by decide +kernel
theorem dL_law_1488 : decode cL_law 1488 = .ok (.if_icmp .eq 18, 3) := by decide +kernel
theorem dL_law_1491 : decode cL_law 1491 = .ok (.iconst 0, 1) := by decide +kernel
theorem dL_law_1492 : decode cL_law 1492 = .ok (.ireturn, 1) := by decide +kernel
theorem dL_law_1493 : decode cL_law 1493 = .ok (.aload_n 1, 1) := by decide +kernel
theorem dL_law_1494 : decode cL_law 1494 = .ok (.invokevirtual 176, 3) := by decide +kernel
theorem dL_law_1497 : decode cL_law 1497 = .ok (.aload_n 2, 1) := by decide +kernel
theorem dL_law_1498 : decode cL_law 1498 = .ok (.invokevirtual 179, 3) := by decide +kernel
theorem dL_law_1501 : decode cL_law 1501 = .ok (.if_icmp .eq 5, 3) := by decide +kernel
theorem dL_law_1504 : decode cL_law 1504 = .ok (.iconst 0, 1) := by decide +kernel
theorem dL_law_1505 : decode cL_law 1505 = .ok (.ireturn, 1) := by decide +kernel
theorem dL_law_1506 : decode cL_law 1506 = .ok (.iinc 4 6, 3) := by decide +kernel
theorem dL_law_1509 : decode cL_law 1509 = .ok (.goto (-1486), 3) := by decide +kernel
theorem dL_law_1512 : decode cL_law 1512 = .ok (.iconst 1, 1) := by decide +kernel
theorem dL_law_1513 : decode cL_law 1513 = .ok (.ireturn, 1) := by decide +kernel
end
section
/-! The world of one instance: objects and arrays of kinds c, each kind's numbered k; a memory of ints and longs; a judgement GV over pure data. -/
abbrev Mem : Type := (Nat → Nat → Nat → Int32) × (Nat → Nat → Nat → Int64)
def wI (S : Mem) (c k j : Nat) (v : Int32) : Mem := (fun a b i => if a = c ∧ b = k ∧ i = j then v else S.1 a b i, S.2)
def wL (S : Mem) (c k j : Nat) (v : Int64) : Mem := (S.1, fun a b i => if a = c ∧ b = k ∧ i = j then v else S.2 a b i)
def nb (x : Int32) : Int32 := x &&& 1
def inb (i : Int32) (n : Nat) : Bool := decide (0 ≤ i.toInt ∧ i.toInt < n)
def gd {α : Type} (b : Bool) (a : Option α) : Option α := if b = true then a else none
def b1 {α β : Type} (a : Option α) (K : α → Option β) : Option β := match a with
  | some r => K r
  | none => none
def b2 {α β : Type} (a : Option (α × Mem)) (K : α → Mem → Option β) : Option β := match a with
  | some r => K r.1 r.2
  | none => none
theorem gd_some {α : Type} {b : Bool} {a : Option α} {y : α} (h : gd b a = some y) : b = true ∧ a = some y := by
  unfold gd at h
  by_cases hb : b = true
  · rw [if_pos hb] at h
    exact ⟨hb, h⟩
  · rw [if_neg hb] at h
    cases h
theorem b1_some {α β : Type} {a : Option α} {K : α → Option β} {y : β} (h : b1 a K = some y) : ∃ r, a = some r ∧ K r = some y := by
  cases a with
  | none => cases h
  | some r => exact ⟨r, rfl, h⟩
theorem b2_some {α β : Type} {a : Option (α × Mem)} {K : α → Mem → Option β} {y : β} (h : b2 a K = some y) : ∃ r S, a = some (r, S) ∧ K r S = some y := by
  cases a with
  | none => cases h
  | some r => exact ⟨r.1, r.2, rfl, h⟩
theorem inb_in {i : Int32} {n : Nat} (h : inb i n = true) : vp_in i n := vp_in_iff.mpr (of_decide_eq_true h)
abbrev WX : Type := va_G × List vw_C × List (ClassId × FieldType) × ((Nat → Int32) → (Nat → Int64) → Nat → Nat → va_E) × (Nat → Nat) × (Nat → Nat → Nat)
def wD (w : WX) : va_G := w.1
def wCl (w : WX) : List vw_C := w.2.1
def wTy (w : WX) : List (ClassId × FieldType) := w.2.2.1
def wCe (w : WX) : (Nat → Int32) → (Nat → Int64) → Nat → Nat → va_E := w.2.2.2.1
def wN (w : WX) : Nat → Nat := w.2.2.2.2.1
def wA (w : WX) : Nat → Nat → Nat := w.2.2.2.2.2
def hp (w : WX) (S : Mem) (H : Heap) : Prop := ∀ c k : Nat, k < wN w c → va_at (wD w) (wCl w) (wA w c k, wCe w (S.1 c k) (S.2 c k) c k) H
def wok (w : WX) : Prop := ∀ c k c' k' : Nat, k < wN w c → k' < wN w c' → wA w c k = wA w c' k' → c = c' ∧ k = k'
def AA (w : WX) (sz : Nat) : Nat → Prop := fun q => (∃ c k : Nat, k < wN w c ∧ q = wA w c k) ∨ sz ≤ q
theorem hp_one {w : WX} {S : Mem} {H : Heap} {ck k : Nat} {x : va_E} (hP : hp w S H) (hk : k < wN w ck) (he : wCe w (S.1 ck k) (S.2 ck k) ck k = x) : va_P (wD w) (wCl w) [(wA w ck k, x)] H := by
  intro i q hi
  have hz : i < 1 := (List.getElem?_eq_some_iff.mp hi).1
  have hi0 : i = 0 := by omega
  subst hi0
  cases hi
  rw [← he]
  exact hP ck k hk
theorem hp_put {w : WX} {S S' : Mem} {H H1 : Heap} {ck k : Nat} (hw : wok w) (h : hp w S H) (hk : k < wN w ck) (hS : ∀ c' k' : Nat, ¬ (c' = ck ∧ k' = k) → S'.1 c' k' = S.1 c' k' ∧ S'.2 c' k' = S.2 c' k') (he : va_at (wD w) (wCl w) (wA w ck k, wCe w (S'.1 ck k) (S'.2 ck k) ck k) H1) (oq : ∀ q : Nat, q ≠ wA w ck k → H1[q]? = H[q]?) : hp w S' H1 := by
  intro c' k' hk'
  by_cases e : c' = ck ∧ k' = k
  · obtain ⟨rfl, rfl⟩ := e
    exact he
  · obtain ⟨e1, e2⟩ := hS c' k' e
    rw [e1, e2]
    exact (h c' k' hk').kept (oq _ (fun z => e (hw c' k' ck k hk' hk z)))
theorem wI_off {S : Mem} {c k j : Nat} {v : Int32} (c' k' : Nat) (h : ¬ (c' = c ∧ k' = k)) : (wI S c k j v).1 c' k' = S.1 c' k' ∧ (wI S c k j v).2 c' k' = S.2 c' k' := by
  refine ⟨?_, rfl⟩
  funext i
  show (if c' = c ∧ k' = k ∧ i = j then v else S.1 c' k' i) = _
  rw [if_neg (fun q => h ⟨q.1, q.2.1⟩)]
theorem wL_off {S : Mem} {c k j : Nat} {v : Int64} (c' k' : Nat) (h : ¬ (c' = c ∧ k' = k)) : (wL S c k j v).1 c' k' = S.1 c' k' ∧ (wL S c k j v).2 c' k' = S.2 c' k' := by
  refine ⟨rfl, ?_⟩
  funext i
  show (if c' = c ∧ k' = k ∧ i = j then v else S.2 c' k' i) = _
  rw [if_neg (fun q => h ⟨q.1, q.2.1⟩)]
theorem wI_on {S : Mem} {c k j : Nat} {v : Int32} : (wI S c k j v).1 c k = upd (S.1 c k) j v := by
  funext i
  show (if c = c ∧ k = k ∧ i = j then v else S.1 c k i) = if i = j then v else S.1 c k i
  by_cases h : i = j
  · rw [if_pos h, if_pos ⟨rfl, rfl, h⟩]
  · rw [if_neg h, if_neg (fun q => h q.2.2)]
theorem wL_on {S : Mem} {c k j : Nat} {v : Int64} : (wL S c k j v).2 c k = vp_updL (S.2 c k) j v := by
  funext i
  show (if c = c ∧ k = k ∧ i = j then v else S.2 c k i) = if i = j then v else S.2 c k i
  by_cases h : i = j
  · rw [if_pos h, if_pos ⟨rfl, rfl, h⟩]
  · rw [if_neg h, if_neg (fun q => h q.2.2)]
/-- the tables' words that stay good, and those of nest mates -/
def GW : List Cond := lw_tbl.filter goodWord
def isNest : Cond → Bool
  | .fieldLinkNest .. => true
  | .methodLinkNest .. => true
  | _ => false
def NW : List Cond := lw_tbl.filter isNest
theorem gw_of {i : Nat} {w : Cond} (h : lw_tbl[i]? = some w) (hg : goodWord w = true) : w ∈ GW := List.mem_filter.mpr ⟨List.mem_of_getElem? h, hg⟩
theorem nw_of {i : Nat} {w : Cond} (h : lw_tbl[i]? = some w) (hg : isNest w = true) : w ∈ NW := List.mem_filter.mpr ⟨List.mem_of_getElem? h, hg⟩
theorem goodGW {y : MethodName} {cc : ByteArray} {n : Nat} {ret : Option FieldType} (h : Cond.code y cc n ret ∈ GW) : GoodIn GW (.code y cc n ret :: GW) := by
  intro w hw
  have hw' : w ∈ GW := by
    rcases List.mem_cons.mp hw with e | e
    · rw [e]; exact h
    · exact e
  exact ⟨hw', good_of_word (List.mem_filter.mp hw').2⟩
theorem nw_warm {s U : State} (hW : s.WarmedH U.vm) (h : ∀ t ∈ NW, va_Nw t s) : ∀ t ∈ NW, va_Nw t U := by
  intro t ht
  have h1 := h t ht
  have h2 : isNest t = true := (List.mem_filter.mp ht).2
  cases t <;> first
    | exact va_Nw.warmF hW h1
    | exact va_Nw.warmM hW h1
    | cases h2
theorem nw_calling {U : State} {g : JFrame} {mk : MethodId} {a : Array Value} (h : ∀ t ∈ NW, va_Nw t U) : ∀ t ∈ NW, va_Nw t (U.calling g mk a) := by
  intro t ht
  have h1 := h t ht
  have h2 : isNest t = true := (List.mem_filter.mp ht).2
  cases t <;> first
    | exact va_Nw.same rfl (rfl : U.vm = (U.calling g mk a).vm) h1
    | cases h2
abbrev MX : Type := Program × Launch × Env × Room × State × MethodId × Array Value × List Frame × Method × Code × (State → Prop)
/-- from every heap that holds the memory, and locals that hold the list, the machine comes from here to the end that X asks -/
def GV (X : MX) (w : WX) (nL cn sn : Nat) (S : Mem) (L : List (Nat × Value)) (pc : Nat) (st : List Value) : Prop := match X with
  | (p, l, e, R, s, m, args, below, meth, c, Q) => ∀ (H : Heap) (locs : List Loc) (ls : Array Slot), hp w S H → va_S (AA w s.heap.size) s.heap H locs → lv_has ls nL L → W p l e R s m args below meth c H locs cn sn Q (F0 m pc ls st)
def CX (own : String) (cc : ByteArray) (nL : Nat) (rm : Room) (X : MX) (w : WX) : Prop := match X with
  | (p, _, _, R, s, m, args, _, meth, c, _) => p.tables.exec = Jvm.exec ∧ c.code = cc ∧ c.maxLocals = nL ∧ s.vm.findClass own = some m.cls ∧ (∀ t ∈ GW, t.before args s = true) ∧ va_K (wD w) (wCl w) (wTy w) s ∧ meth.locks = false ∧ wok w ∧ (∀ t ∈ NW, va_Nw t s) ∧ R = rm
def PCx (w : WX) (av : List Value) (S : Mem) (sz : Nat) : Array Value → State → Prop := va_Pc av (fun U => U.heap.size = sz ∧ hp w S U.heap ∧ va_K (wD w) (wCl w) (wTy w) U ∧ (∀ t ∈ NW, va_Nw t U) ∧ wok w)
theorem pc_blind {w : WX} {av : List Value} {S : Mem} {sz : Nat} : FrameBlind (PCx w av S sz) := by
  intro a U g mk h
  obtain ⟨h1, h2, h3, h4, h5, h6⟩ := h
  exact ⟨h1, h2, h3, va_K.moved (u := U) (U := U.calling g mk a) (Vm.Alike.refl U.vm) h4, nw_calling h5, h6⟩
def Qo (o : Option Value) (B : Heap → Prop) (A : Nat → Prop) : Array Value → State → Outcome → State → Prop := fun _ st oc t => (oc = .returned o ∧ B t.heap) ∧ va_F A st t
/-- THE CONTRACT of a method that returns: from a heap that holds S it returns o, and the heap holds S' -/
def ctN (y : MethodName) (cc : ByteArray) (nL : Nat) (ret : Option FieldType) (rm : Room) (w : WX) (av : List Value) (S : Mem) (o : Option Value) (S' : Mem) : Prop :=
  ∀ (l : Launch) (sz : Nat), Met l y (.code y cc nL ret :: GW) rm (PCx w av S sz) (Qo o (hp w S') (AA w sz)) 0 0 (AA w sz)
def EN (ret : Option FieldType) (o : Option Value) (S' : Mem) (X : MX) (w : WX) : Prop := match X with
  | (_, _, _, _, s, _, args, below, meth, _, Q) => meth.sig.returnType = ret ∧ Q = MQ below (Qo o (hp w S') (AA w s.heap.size)) args s 0 0 (AA w s.heap.size)
theorem ct_of {own : String} {y : MethodName} {cc : ByteArray} {nL : Nat} {ret : Option FieldType} {rm : Room} {w : WX} {av : List Value} {S S' : Mem} {o : Option Value} {L : List (Nat × Value)} (hy : plainName y.cls = true) (hyo : y.cls = own) (hn : (lg_sl av).length ≤ nL) (hL : lv_args 0 av = L)
    (body : ∀ X, CX own cc nL rm X w → EN ret o S' X w → GV X w nL 0 0 S L 0 []) : ctN y cc nL ret rm w av S o S' := by
  intro l sz
  refine Met.ofW (cc := cc) (maxL := nL) (ret := ret) hy rfl ?_
  intro p e s m args below meth c s₁ B hml hv
  obtain ⟨rfl, rfl, hP, hK, hN, hw⟩ := hv
  have hown : s.vm.findClass own = some m.cls := by
    rw [← hyo]
    exact findClass_of_methodNamed B.named
  have hts : ∀ t ∈ GW, t.before av.toArray s = true := fun t ht => atoms_spec (ws := .code y cc nL ret :: GW) B.pre t (List.mem_cons_of_mem _ ht)
  have hb := body (p, l, e, rm, s, m, av.toArray, below, meth, c, MQ below (Qo o (hp w S') (AA w s.heap.size)) av.toArray s 0 0 (AA w s.heap.size)) ⟨B.exec, B.bytes, hml, hown, hts, hK, B.notSynchronized, hw, hN, rfl⟩ ⟨B.returns, rfl⟩
  have hl := lv_entry av (n := nL) hn
  rw [lg_entry_eq]
  rw [hL] at hl
  exact hb s.heap [] _ hP va_S.rf hl
section RW
variable {own : String} {cc : ByteArray} {nL : Nat} {rm : Room} {X : MX} {w : WX} {cn sn : Nat} {S : Mem} {L L' : List (Nat × Value)} {pc pc' : Nat} {st : List Value}
theorem r_iconst (h0 : CX own cc nL rm X w) {n : Int} {v : Int32} (hdg : decode cc pc = .ok (.iconst n, 1)) (hv : Int32.ofInt n = v) (e : pc + 1 = pc') (k : GV X w nL cn sn S L pc' (.int v :: st)) : GV X w nL cn sn S L pc st := by
  obtain ⟨p, l, en, R, s, m, args, below, meth, c, Q⟩ := X
  obtain ⟨hx, hb, -⟩ := h0
  subst e
  intro H locs ls hP hS hl
  exact lv_iconst hx hb hdg hv (k H locs ls hP hS hl)
theorem r_bipush (h0 : CX own cc nL rm X w) {n : Int} {v : Int32} (hdg : decode cc pc = .ok (.bipush n, 2)) (hv : (Int8.ofInt n).toInt32 = v) (e : pc + 2 = pc') (k : GV X w nL cn sn S L pc' (.int v :: st)) : GV X w nL cn sn S L pc st := by
  obtain ⟨p, l, en, R, s, m, args, below, meth, c, Q⟩ := X
  obtain ⟨hx, hb, -⟩ := h0
  subst e
  intro H locs ls hP hS hl
  exact lv_bipush hx hb hdg hv (k H locs ls hP hS hl)
theorem r_sipush (h0 : CX own cc nL rm X w) {n : Int} {v : Int32} (hdg : decode cc pc = .ok (.sipush n, 3)) (hv : (Int16.ofInt n).toInt32 = v) (e : pc + 3 = pc') (k : GV X w nL cn sn S L pc' (.int v :: st)) : GV X w nL cn sn S L pc st := by
  obtain ⟨p, l, en, R, s, m, args, below, meth, c, Q⟩ := X
  obtain ⟨hx, hb, -⟩ := h0
  subst e
  intro H locs ls hP hS hl
  exact lv_sipush hx hb hdg hv (k H locs ls hP hS hl)
theorem r_ldc (h0 : CX own cc nL rm X w) {i : Nat} {v : Int32} (hw : Cond.constant own i v ∈ GW) (hdg : decode cc pc = .ok (.ldc i, 2)) (e : pc + 2 = pc') (k : GV X w nL cn sn S L pc' (.int v :: st)) : GV X w nL cn sn S L pc st := by
  obtain ⟨p, l, en, R, s, m, args, below, meth, c, Q⟩ := X
  obtain ⟨hx, hb, -, ho, ht, -⟩ := h0
  subst e
  intro H locs ls hP hS hl
  exact lv_ldc hx hb ho (ht _ hw) hdg (k H locs ls hP hS hl)
theorem r_ldc2 (h0 : CX own cc nL rm X w) {i : Nat} {v : Int64} (hw : Cond.constantLong own i v ∈ GW) (hdg : decode cc pc = .ok (.ldc2_w i, 3)) (e : pc + 3 = pc') (k : GV X w nL cn sn S L pc' (.long v :: st)) : GV X w nL cn sn S L pc st := by
  obtain ⟨p, l, en, R, s, m, args, below, meth, c, Q⟩ := X
  obtain ⟨hx, hb, -, ho, ht, -⟩ := h0
  subst e
  intro H locs ls hP hS hl
  exact lv_ldc2 hx hb ho (ht _ hw) hdg (k H locs ls hP hS hl)
theorem r_lconst (h0 : CX own cc nL rm X w) {n : Fin 2} {v : Int64} (hdg : decode cc pc = .ok (.lconst n, 1)) (hv : Int64.ofNat (n : Nat) = v) (e : pc + 1 = pc') (k : GV X w nL cn sn S L pc' (.long v :: st)) : GV X w nL cn sn S L pc st := by
  obtain ⟨p, l, en, R, s, m, args, below, meth, c, Q⟩ := X
  obtain ⟨hx, hb, -⟩ := h0
  subst e
  intro H locs ls hP hS hl
  exact lv_lconst hx hb hdg hv (k H locs ls hP hS hl)
theorem r_iload_n (h0 : CX own cc nL rm X w) (q : Nat) {n : Fin 4} {i : Nat} {x : Int32} (hdg : decode cc pc = .ok (.iload_n n, 1)) (hi : (n : Nat) = i) (hq : L[q]? = some (i, .int x)) (e : pc + 1 = pc') (k : GV X w nL cn sn S L pc' (.int x :: st)) : GV X w nL cn sn S L pc st := by
  obtain ⟨p, l, en, R, s, m, args, below, meth, c, Q⟩ := X
  obtain ⟨hx, hb, -⟩ := h0
  subst e
  intro H locs ls hP hS hl
  exact lv_iload_n hx hb hdg hi (lv_at hl q hq) (k H locs ls hP hS hl)
theorem r_iload (h0 : CX own cc nL rm X w) (q : Nat) {i : Nat} {x : Int32} (hdg : decode cc pc = .ok (.iload i, 2)) (hq : L[q]? = some (i, .int x)) (e : pc + 2 = pc') (k : GV X w nL cn sn S L pc' (.int x :: st)) : GV X w nL cn sn S L pc st := by
  obtain ⟨p, l, en, R, s, m, args, below, meth, c, Q⟩ := X
  obtain ⟨hx, hb, -⟩ := h0
  subst e
  intro H locs ls hP hS hl
  exact lv_iload hx hb hdg (lv_at hl q hq) (k H locs ls hP hS hl)
theorem r_lload_n (h0 : CX own cc nL rm X w) (q : Nat) {n : Fin 4} {i : Nat} {x : Int64} (hdg : decode cc pc = .ok (.lload_n n, 1)) (hi : (n : Nat) = i) (hq : L[q]? = some (i, .long x)) (e : pc + 1 = pc') (k : GV X w nL cn sn S L pc' (.long x :: st)) : GV X w nL cn sn S L pc st := by
  obtain ⟨p, l, en, R, s, m, args, below, meth, c, Q⟩ := X
  obtain ⟨hx, hb, -⟩ := h0
  subst e
  intro H locs ls hP hS hl
  exact lv_lload_n hx hb hdg hi (lv_at hl q hq) (k H locs ls hP hS hl)
theorem r_aload_n (h0 : CX own cc nL rm X w) (q : Nat) {n : Fin 4} {i x : Nat} (hdg : decode cc pc = .ok (.aload_n n, 1)) (hi : (n : Nat) = i) (hq : L[q]? = some (i, .ref x)) (e : pc + 1 = pc') (k : GV X w nL cn sn S L pc' (.ref x :: st)) : GV X w nL cn sn S L pc st := by
  obtain ⟨p, l, en, R, s, m, args, below, meth, c, Q⟩ := X
  obtain ⟨hx, hb, -⟩ := h0
  subst e
  intro H locs ls hP hS hl
  exact lv_aload_n hx hb hdg hi (lv_at hl q hq) (k H locs ls hP hS hl)
theorem r_aload (h0 : CX own cc nL rm X w) (q : Nat) {i x : Nat} (hdg : decode cc pc = .ok (.aload i, 2)) (hq : L[q]? = some (i, .ref x)) (e : pc + 2 = pc') (k : GV X w nL cn sn S L pc' (.ref x :: st)) : GV X w nL cn sn S L pc st := by
  obtain ⟨p, l, en, R, s, m, args, below, meth, c, Q⟩ := X
  obtain ⟨hx, hb, -⟩ := h0
  subst e
  intro H locs ls hP hS hl
  exact lv_aload hx hb hdg (lv_at hl q hq) (k H locs ls hP hS hl)
theorem r_sub (ks : List Nat) (hl : lv_pick L ks = L') (k : GV X w nL cn sn S L' pc st) : GV X w nL cn sn S L pc st := by
  obtain ⟨p, l, en, R, s, m, args, below, meth, c, Q⟩ := X
  intro H locs ls hP hS hl0
  exact k H locs ls hP hS (lv_sub hl0 ks hl)
theorem r_istore_n (h0 : CX own cc nL rm X w) {n : Fin 4} {i : Nat} {x : Int32} (hdg : decode cc pc = .ok (.istore_n n, 1)) (hi : (n : Nat) = i) (hn : i < nL) (hl : (i, Value.int x) :: L.filter (fun q => !(q.1 == i) && !(q.1 + 1 == i && q.2.category == 2)) = L') (e : pc + 1 = pc') (k : GV X w nL cn sn S L' pc' st) : GV X w nL cn sn S L pc (.int x :: st) := by
  obtain ⟨p, l, en, R, s, m, args, below, meth, c, Q⟩ := X
  obtain ⟨hx, hb, -⟩ := h0
  subst e
  intro H locs ls hP hS hl0
  exact lv_istore_n hx hb hdg hi hl0 hn hl (fun ls' hl' => k H locs ls' hP hS hl')
theorem r_istore (h0 : CX own cc nL rm X w) {i : Nat} {x : Int32} (hdg : decode cc pc = .ok (.istore i, 2)) (hn : i < nL) (hl : (i, Value.int x) :: L.filter (fun q => !(q.1 == i) && !(q.1 + 1 == i && q.2.category == 2)) = L') (e : pc + 2 = pc') (k : GV X w nL cn sn S L' pc' st) : GV X w nL cn sn S L pc (.int x :: st) := by
  obtain ⟨p, l, en, R, s, m, args, below, meth, c, Q⟩ := X
  obtain ⟨hx, hb, -⟩ := h0
  subst e
  intro H locs ls hP hS hl0
  exact lv_istore hx hb hdg hl0 hn hl (fun ls' hl' => k H locs ls' hP hS hl')
theorem r_astore_n (h0 : CX own cc nL rm X w) {n : Fin 4} {i x : Nat} (hdg : decode cc pc = .ok (.astore_n n, 1)) (hi : (n : Nat) = i) (hn : i < nL) (hl : (i, Value.ref x) :: L.filter (fun q => !(q.1 == i) && !(q.1 + 1 == i && q.2.category == 2)) = L') (e : pc + 1 = pc') (k : GV X w nL cn sn S L' pc' st) : GV X w nL cn sn S L pc (.ref x :: st) := by
  obtain ⟨p, l, en, R, s, m, args, below, meth, c, Q⟩ := X
  obtain ⟨hx, hb, -⟩ := h0
  subst e
  intro H locs ls hP hS hl0
  exact lv_astore_n hx hb hdg hi hl0 hn hl (fun ls' hl' => k H locs ls' hP hS hl')
theorem r_astore (h0 : CX own cc nL rm X w) {i x : Nat} (hdg : decode cc pc = .ok (.astore i, 2)) (hn : i < nL) (hl : (i, Value.ref x) :: L.filter (fun q => !(q.1 == i) && !(q.1 + 1 == i && q.2.category == 2)) = L') (e : pc + 2 = pc') (k : GV X w nL cn sn S L' pc' st) : GV X w nL cn sn S L pc (.ref x :: st) := by
  obtain ⟨p, l, en, R, s, m, args, below, meth, c, Q⟩ := X
  obtain ⟨hx, hb, -⟩ := h0
  subst e
  intro H locs ls hP hS hl0
  exact lv_astore hx hb hdg hl0 hn hl (fun ls' hl' => k H locs ls' hP hS hl')
theorem r_lstore_n (h0 : CX own cc nL rm X w) {n : Fin 4} {i : Nat} {x : Int64} (hdg : decode cc pc = .ok (.lstore_n n, 1)) (hi : (n : Nat) = i) (hn : i + 1 < nL) (hl : (i, Value.long x) :: L.filter (fun q => !(q.1 == i) && (!(q.1 == i + 1) && !(q.1 + 1 == i && q.2.category == 2))) = L') (e : pc + 1 = pc') (k : GV X w nL cn sn S L' pc' st) : GV X w nL cn sn S L pc (.long x :: st) := by
  obtain ⟨p, l, en, R, s, m, args, below, meth, c, Q⟩ := X
  obtain ⟨hx, hb, -⟩ := h0
  subst e
  intro H locs ls hP hS hl0
  exact lv_lstore_n hx hb hdg hi hl0 hn hl (fun ls' hl' => k H locs ls' hP hS hl')
theorem r_iinc (h0 : CX own cc nL rm X w) (q : Nat) {i : Nat} {n : Int} {x v : Int32} (hdg : decode cc pc = .ok (.iinc i n, 3)) (hq : L[q]? = some (i, .int x)) (hv : Int32.ofInt n = v) (hn : i < nL) (hl : (i, Value.int (x + v)) :: L.filter (fun q => !(q.1 == i) && !(q.1 + 1 == i && q.2.category == 2)) = L') (e : pc + 3 = pc') (k : GV X w nL cn sn S L' pc' st) : GV X w nL cn sn S L pc st := by
  obtain ⟨p, l, en, R, s, m, args, below, meth, c, Q⟩ := X
  obtain ⟨hx, hb, -⟩ := h0
  subst e
  subst hv
  intro H locs ls hP hS hl0
  exact lv_iinc hx hb hdg hl0 hq rfl hn hl (fun ls' hl' => k H locs ls' hP hS hl')
theorem r_iadd (h0 : CX own cc nL rm X w) {x y : Int32} (hdg : decode cc pc = .ok (.iadd, 1)) (e : pc + 1 = pc') (k : GV X w nL cn sn S L pc' (.int (x + y) :: st)) : GV X w nL cn sn S L pc (.int y :: .int x :: st) := by
  obtain ⟨p, l, en, R, s, m, args, below, meth, c, Q⟩ := X
  obtain ⟨hx, hb, -⟩ := h0
  subst e
  intro H locs ls hP hS hl
  exact lv_iadd hx hb hdg (k H locs ls hP hS hl)
theorem r_isub (h0 : CX own cc nL rm X w) {x y : Int32} (hdg : decode cc pc = .ok (.isub, 1)) (e : pc + 1 = pc') (k : GV X w nL cn sn S L pc' (.int (x - y) :: st)) : GV X w nL cn sn S L pc (.int y :: .int x :: st) := by
  obtain ⟨p, l, en, R, s, m, args, below, meth, c, Q⟩ := X
  obtain ⟨hx, hb, -⟩ := h0
  subst e
  intro H locs ls hP hS hl
  exact lv_isub hx hb hdg (k H locs ls hP hS hl)
theorem r_imul (h0 : CX own cc nL rm X w) {x y : Int32} (hdg : decode cc pc = .ok (.imul, 1)) (e : pc + 1 = pc') (k : GV X w nL cn sn S L pc' (.int (x * y) :: st)) : GV X w nL cn sn S L pc (.int y :: .int x :: st) := by
  obtain ⟨p, l, en, R, s, m, args, below, meth, c, Q⟩ := X
  obtain ⟨hx, hb, -⟩ := h0
  subst e
  intro H locs ls hP hS hl
  exact lv_imul hx hb hdg (k H locs ls hP hS hl)
theorem r_iand (h0 : CX own cc nL rm X w) {x y : Int32} (hdg : decode cc pc = .ok (.iand, 1)) (e : pc + 1 = pc') (k : GV X w nL cn sn S L pc' (.int (x &&& y) :: st)) : GV X w nL cn sn S L pc (.int y :: .int x :: st) := by
  obtain ⟨p, l, en, R, s, m, args, below, meth, c, Q⟩ := X
  obtain ⟨hx, hb, -⟩ := h0
  subst e
  intro H locs ls hP hS hl
  exact lv_iand hx hb hdg (k H locs ls hP hS hl)
theorem r_ior (h0 : CX own cc nL rm X w) {x y : Int32} (hdg : decode cc pc = .ok (.ior, 1)) (e : pc + 1 = pc') (k : GV X w nL cn sn S L pc' (.int (x ||| y) :: st)) : GV X w nL cn sn S L pc (.int y :: .int x :: st) := by
  obtain ⟨p, l, en, R, s, m, args, below, meth, c, Q⟩ := X
  obtain ⟨hx, hb, -⟩ := h0
  subst e
  intro H locs ls hP hS hl
  exact lv_ior hx hb hdg (k H locs ls hP hS hl)
theorem r_ishl (h0 : CX own cc nL rm X w) {x y : Int32} (hdg : decode cc pc = .ok (.ishl, 1)) (e : pc + 1 = pc') (k : GV X w nL cn sn S L pc' (.int (x <<< (y &&& 31)) :: st)) : GV X w nL cn sn S L pc (.int y :: .int x :: st) := by
  obtain ⟨p, l, en, R, s, m, args, below, meth, c, Q⟩ := X
  obtain ⟨hx, hb, -⟩ := h0
  subst e
  intro H locs ls hP hS hl
  exact lv_ishl hx hb hdg (k H locs ls hP hS hl)
theorem r_ishr (h0 : CX own cc nL rm X w) {x y : Int32} (hdg : decode cc pc = .ok (.ishr, 1)) (e : pc + 1 = pc') (k : GV X w nL cn sn S L pc' (.int (x >>> (y &&& 31)) :: st)) : GV X w nL cn sn S L pc (.int y :: .int x :: st) := by
  obtain ⟨p, l, en, R, s, m, args, below, meth, c, Q⟩ := X
  obtain ⟨hx, hb, -⟩ := h0
  subst e
  intro H locs ls hP hS hl
  exact lv_ishr hx hb hdg (k H locs ls hP hS hl)
theorem r_ineg (h0 : CX own cc nL rm X w) {x : Int32} (hdg : decode cc pc = .ok (.ineg, 1)) (e : pc + 1 = pc') (k : GV X w nL cn sn S L pc' (.int (-x) :: st)) : GV X w nL cn sn S L pc (.int x :: st) := by
  obtain ⟨p, l, en, R, s, m, args, below, meth, c, Q⟩ := X
  obtain ⟨hx, hb, -⟩ := h0
  subst e
  intro H locs ls hP hS hl
  exact lv_ineg hx hb hdg (k H locs ls hP hS hl)
/-- division: the pure text tests the divisor -/
theorem r_idiv {α : Type} {A : Option α} {z : α} (h0 : CX own cc nL rm X w) {x y : Int32} (hdg : decode cc pc = .ok (.idiv, 1)) (e : pc + 1 = pc') (h : gd (!(y == 0)) A = some z) (k : A = some z → GV X w nL cn sn S L pc' (.int (x / y) :: st)) : GV X w nL cn sn S L pc (.int y :: .int x :: st) := by
  obtain ⟨p, l, en, R, s, m, args, below, meth, c, Q⟩ := X
  obtain ⟨hx, hb, -⟩ := h0
  subst e
  obtain ⟨hz, hA⟩ := gd_some h
  intro H locs ls hP hS hl
  exact lv_idiv hx hb hdg (by simpa using hz) (k hA H locs ls hP hS hl)
theorem r_irem {α : Type} {A : Option α} {z : α} (h0 : CX own cc nL rm X w) {x y : Int32} (hdg : decode cc pc = .ok (.irem, 1)) (e : pc + 1 = pc') (h : gd (!(y == 0)) A = some z) (k : A = some z → GV X w nL cn sn S L pc' (.int (x - x / y * y) :: st)) : GV X w nL cn sn S L pc (.int y :: .int x :: st) := by
  obtain ⟨p, l, en, R, s, m, args, below, meth, c, Q⟩ := X
  obtain ⟨hx, hb, -⟩ := h0
  subst e
  obtain ⟨hz, hA⟩ := gd_some h
  intro H locs ls hP hS hl
  exact lv_irem hx hb hdg (by simpa using hz) (k hA H locs ls hP hS hl)
theorem r_ladd (h0 : CX own cc nL rm X w) {x y : Int64} (hdg : decode cc pc = .ok (.ladd, 1)) (e : pc + 1 = pc') (k : GV X w nL cn sn S L pc' (.long (x + y) :: st)) : GV X w nL cn sn S L pc (.long y :: .long x :: st) := by
  obtain ⟨p, l, en, R, s, m, args, below, meth, c, Q⟩ := X
  obtain ⟨hx, hb, -⟩ := h0
  subst e
  intro H locs ls hP hS hl
  exact lv_ladd hx hb hdg (k H locs ls hP hS hl)
theorem r_lsub (h0 : CX own cc nL rm X w) {x y : Int64} (hdg : decode cc pc = .ok (.lsub, 1)) (e : pc + 1 = pc') (k : GV X w nL cn sn S L pc' (.long (x - y) :: st)) : GV X w nL cn sn S L pc (.long y :: .long x :: st) := by
  obtain ⟨p, l, en, R, s, m, args, below, meth, c, Q⟩ := X
  obtain ⟨hx, hb, -⟩ := h0
  subst e
  intro H locs ls hP hS hl
  exact lv_lsub hx hb hdg (k H locs ls hP hS hl)
theorem r_land (h0 : CX own cc nL rm X w) {x y : Int64} (hdg : decode cc pc = .ok (.land, 1)) (e : pc + 1 = pc') (k : GV X w nL cn sn S L pc' (.long (x &&& y) :: st)) : GV X w nL cn sn S L pc (.long y :: .long x :: st) := by
  obtain ⟨p, l, en, R, s, m, args, below, meth, c, Q⟩ := X
  obtain ⟨hx, hb, -⟩ := h0
  subst e
  intro H locs ls hP hS hl
  exact lv_land hx hb hdg (k H locs ls hP hS hl)
theorem r_lor (h0 : CX own cc nL rm X w) {x y : Int64} (hdg : decode cc pc = .ok (.lor, 1)) (e : pc + 1 = pc') (k : GV X w nL cn sn S L pc' (.long (x ||| y) :: st)) : GV X w nL cn sn S L pc (.long y :: .long x :: st) := by
  obtain ⟨p, l, en, R, s, m, args, below, meth, c, Q⟩ := X
  obtain ⟨hx, hb, -⟩ := h0
  subst e
  intro H locs ls hP hS hl
  exact lv_lor hx hb hdg (k H locs ls hP hS hl)
theorem r_lxor (h0 : CX own cc nL rm X w) {x y : Int64} (hdg : decode cc pc = .ok (.lxor, 1)) (e : pc + 1 = pc') (k : GV X w nL cn sn S L pc' (.long (x ^^^ y) :: st)) : GV X w nL cn sn S L pc (.long y :: .long x :: st) := by
  obtain ⟨p, l, en, R, s, m, args, below, meth, c, Q⟩ := X
  obtain ⟨hx, hb, -⟩ := h0
  subst e
  intro H locs ls hP hS hl
  exact lv_lxor hx hb hdg (k H locs ls hP hS hl)
theorem r_lushr (h0 : CX own cc nL rm X w) {x : Int64} {y : Int32} (hdg : decode cc pc = .ok (.lushr, 1)) (e : pc + 1 = pc') (k : GV X w nL cn sn S L pc' (.long ((x.toUInt64 >>> (y.toInt64.toUInt64 &&& Int64.toUInt64 63)).toInt64) :: st)) : GV X w nL cn sn S L pc (.int y :: .long x :: st) := by
  obtain ⟨p, l, en, R, s, m, args, below, meth, c, Q⟩ := X
  obtain ⟨hx, hb, -⟩ := h0
  subst e
  intro H locs ls hP hS hl
  exact lv_lushr hx hb hdg rfl (k H locs ls hP hS hl)
theorem r_lshl (h0 : CX own cc nL rm X w) {x : Int64} {y : Int32} (hdg : decode cc pc = .ok (.lshl, 1)) (e : pc + 1 = pc') (k : GV X w nL cn sn S L pc' (.long (x <<< (y.toInt64 &&& 63)) :: st)) : GV X w nL cn sn S L pc (.int y :: .long x :: st) := by
  obtain ⟨p, l, en, R, s, m, args, below, meth, c, Q⟩ := X
  obtain ⟨hx, hb, -⟩ := h0
  subst e
  intro H locs ls hP hS hl
  exact lv_lshl hx hb hdg rfl (k H locs ls hP hS hl)
theorem r_l2i (h0 : CX own cc nL rm X w) {x : Int64} (hdg : decode cc pc = .ok (.l2i, 1)) (e : pc + 1 = pc') (k : GV X w nL cn sn S L pc' (.int x.toInt32 :: st)) : GV X w nL cn sn S L pc (.long x :: st) := by
  obtain ⟨p, l, en, R, s, m, args, below, meth, c, Q⟩ := X
  obtain ⟨hx, hb, -⟩ := h0
  subst e
  intro H locs ls hP hS hl
  exact lv_l2i hx hb hdg rfl (k H locs ls hP hS hl)
theorem r_i2l (h0 : CX own cc nL rm X w) {x : Int32} (hdg : decode cc pc = .ok (.i2l, 1)) (e : pc + 1 = pc') (k : GV X w nL cn sn S L pc' (.long x.toInt64 :: st)) : GV X w nL cn sn S L pc (.int x :: st) := by
  obtain ⟨p, l, en, R, s, m, args, below, meth, c, Q⟩ := X
  obtain ⟨hx, hb, -⟩ := h0
  subst e
  intro H locs ls hP hS hl
  exact lv_i2l hx hb hdg rfl (k H locs ls hP hS hl)
theorem r_lcmp (h0 : CX own cc nL rm X w) {x y : Int64} (hdg : decode cc pc = .ok (.lcmp, 1)) (e : pc + 1 = pc') (k : GV X w nL cn sn S L pc' (.int (lg_cmp x y) :: st)) : GV X w nL cn sn S L pc (.long y :: .long x :: st) := by
  obtain ⟨p, l, en, R, s, m, args, below, meth, c, Q⟩ := X
  obtain ⟨hx, hb, -⟩ := h0
  subst e
  intro H locs ls hP hS hl
  exact W.lcmp hx hb hdg (k H locs ls hP hS hl)
theorem r_dup (h0 : CX own cc nL rm X w) {va : Value} (hdg : decode cc pc = .ok (.dup, 1)) (hc : va.category = 1) (e : pc + 1 = pc') (k : GV X w nL cn sn S L pc' (va :: va :: st)) : GV X w nL cn sn S L pc (va :: st) := by
  obtain ⟨p, l, en, R, s, m, args, below, meth, c, Q⟩ := X
  obtain ⟨hx, hb, -⟩ := h0
  subst e
  intro H locs ls hP hS hl
  exact lv_dup hx hb hdg hc (k H locs ls hP hS hl)
theorem r_dup2 (h0 : CX own cc nL rm X w) {va vb : Value} (hdg : decode cc pc = .ok (.dup2, 1)) (hc : va.category = 1) (hc2 : vb.category = 1) (e : pc + 1 = pc') (k : GV X w nL cn sn S L pc' (va :: vb :: va :: vb :: st)) : GV X w nL cn sn S L pc (va :: vb :: st) := by
  obtain ⟨p, l, en, R, s, m, args, below, meth, c, Q⟩ := X
  obtain ⟨hx, hb, -⟩ := h0
  subst e
  intro H locs ls hP hS hl
  exact lv_dup2_11 hx hb hdg hc hc2 (k H locs ls hP hS hl)
theorem r_pop (h0 : CX own cc nL rm X w) {va : Value} (hdg : decode cc pc = .ok (.pop, 1)) (hc : va.category = 1) (e : pc + 1 = pc') (k : GV X w nL cn sn S L pc' st) : GV X w nL cn sn S L pc (va :: st) := by
  obtain ⟨p, l, en, R, s, m, args, below, meth, c, Q⟩ := X
  obtain ⟨hx, hb, -⟩ := h0
  subst e
  intro H locs ls hP hS hl
  exact lv_pop hx hb hdg hc (k H locs ls hP hS hl)
theorem r_goto (h0 : CX own cc nL rm X w) {off : Int} (hdg : decode cc pc = .ok (.goto off, 3)) (e : (pc : Int) + off = (pc' : Int)) (k : GV X w nL cn sn S L pc' st) : GV X w nL cn sn S L pc st := by
  obtain ⟨p, l, en, R, s, m, args, below, meth, c, Q⟩ := X
  obtain ⟨hx, hb, -⟩ := h0
  intro H locs ls hP hS hl
  exact lv_goto hx hb hdg e (k H locs ls hP hS hl)
end RW
section RB
variable {own : String} {cc : ByteArray} {nL : Nat} {rm : Room} {X : MX} {w : WX} {cn sn : Nat} {S : Mem} {L L' : List (Nat × Value)} {pc pt pf : Nat} {st : List Value} {α : Type} {A B : Option α} {z : α} {off : Int}
theorem ite_tt {c : Prop} {d : Decidable c} {A B : Option α} {z : α} (h : ite c A B = some z) (hc : c) : A = some z := by rw [if_pos hc] at h; exact h
theorem ite_ff {c : Prop} {d : Decidable c} {A B : Option α} {z : α} (h : ite c A B = some z) (hc : ¬ c) : B = some z := by rw [if_neg hc] at h; exact h
theorem r_if_eq (h0 : CX own cc nL rm X w) {x : Int32} (hdg : decode cc pc = .ok (.ifCond .eq off, 3)) (et : (pc : Int) + off = (pt : Int)) (ef : pc + 3 = pf) (h : (if x = 0 then A else B) = some z) (kt : x = 0 → A = some z → GV X w nL cn sn S L pt st) (kf : ¬ x = 0 → B = some z → GV X w nL cn sn S L pf st) : GV X w nL cn sn S L pc (.int x :: st) := by
  obtain ⟨p, l, en, R, s, m, args, below, meth, c, Q⟩ := X
  obtain ⟨hx, hb, -⟩ := h0
  subst ef
  intro H locs ls hP hS hl
  exact lv_if_eq hx hb hdg et (fun c => kt c (ite_tt h c) H locs ls hP hS hl) (fun c => kf c (ite_ff h c) H locs ls hP hS hl)
theorem r_if_ne (h0 : CX own cc nL rm X w) {x : Int32} (hdg : decode cc pc = .ok (.ifCond .ne off, 3)) (et : (pc : Int) + off = (pt : Int)) (ef : pc + 3 = pf) (h : (if x = 0 then B else A) = some z) (kt : ¬ x = 0 → A = some z → GV X w nL cn sn S L pt st) (kf : x = 0 → B = some z → GV X w nL cn sn S L pf st) : GV X w nL cn sn S L pc (.int x :: st) := by
  obtain ⟨p, l, en, R, s, m, args, below, meth, c, Q⟩ := X
  obtain ⟨hx, hb, -⟩ := h0
  subst ef
  intro H locs ls hP hS hl
  exact lv_if_ne hx hb hdg et (fun c => kt c (ite_ff h c) H locs ls hP hS hl) (fun c => kf c (ite_tt h c) H locs ls hP hS hl)
theorem r_if_lt (h0 : CX own cc nL rm X w) {x : Int32} (hdg : decode cc pc = .ok (.ifCond .lt off, 3)) (et : (pc : Int) + off = (pt : Int)) (ef : pc + 3 = pf) (h : (if x < 0 then A else B) = some z) (kt : x < 0 → A = some z → GV X w nL cn sn S L pt st) (kf : ¬ x < 0 → B = some z → GV X w nL cn sn S L pf st) : GV X w nL cn sn S L pc (.int x :: st) := by
  obtain ⟨p, l, en, R, s, m, args, below, meth, c, Q⟩ := X
  obtain ⟨hx, hb, -⟩ := h0
  subst ef
  intro H locs ls hP hS hl
  exact lv_if_lt hx hb hdg et (fun c => kt c (ite_tt h c) H locs ls hP hS hl) (fun c => kf c (ite_ff h c) H locs ls hP hS hl)
theorem r_if_ge (h0 : CX own cc nL rm X w) {x : Int32} (hdg : decode cc pc = .ok (.ifCond .ge off, 3)) (et : (pc : Int) + off = (pt : Int)) (ef : pc + 3 = pf) (h : (if 0 ≤ x then A else B) = some z) (kt : 0 ≤ x → A = some z → GV X w nL cn sn S L pt st) (kf : ¬ 0 ≤ x → B = some z → GV X w nL cn sn S L pf st) : GV X w nL cn sn S L pc (.int x :: st) := by
  obtain ⟨p, l, en, R, s, m, args, below, meth, c, Q⟩ := X
  obtain ⟨hx, hb, -⟩ := h0
  subst ef
  intro H locs ls hP hS hl
  exact lv_if_ge hx hb hdg et (fun c => kt c (ite_tt h c) H locs ls hP hS hl) (fun c => kf c (ite_ff h c) H locs ls hP hS hl)
theorem r_if_gt (h0 : CX own cc nL rm X w) {x : Int32} (hdg : decode cc pc = .ok (.ifCond .gt off, 3)) (et : (pc : Int) + off = (pt : Int)) (ef : pc + 3 = pf) (h : (if 0 < x then A else B) = some z) (kt : 0 < x → A = some z → GV X w nL cn sn S L pt st) (kf : ¬ 0 < x → B = some z → GV X w nL cn sn S L pf st) : GV X w nL cn sn S L pc (.int x :: st) := by
  obtain ⟨p, l, en, R, s, m, args, below, meth, c, Q⟩ := X
  obtain ⟨hx, hb, -⟩ := h0
  subst ef
  intro H locs ls hP hS hl
  exact lv_if_gt hx hb hdg et (fun c => kt c (ite_tt h c) H locs ls hP hS hl) (fun c => kf c (ite_ff h c) H locs ls hP hS hl)
theorem r_if_le (h0 : CX own cc nL rm X w) {x : Int32} (hdg : decode cc pc = .ok (.ifCond .le off, 3)) (et : (pc : Int) + off = (pt : Int)) (ef : pc + 3 = pf) (h : (if x ≤ 0 then A else B) = some z) (kt : x ≤ 0 → A = some z → GV X w nL cn sn S L pt st) (kf : ¬ x ≤ 0 → B = some z → GV X w nL cn sn S L pf st) : GV X w nL cn sn S L pc (.int x :: st) := by
  obtain ⟨p, l, en, R, s, m, args, below, meth, c, Q⟩ := X
  obtain ⟨hx, hb, -⟩ := h0
  subst ef
  intro H locs ls hP hS hl
  exact lv_if_le hx hb hdg et (fun c => kt c (ite_tt h c) H locs ls hP hS hl) (fun c => kf c (ite_ff h c) H locs ls hP hS hl)
theorem r_ic_eq (h0 : CX own cc nL rm X w) {x y : Int32} (hdg : decode cc pc = .ok (.if_icmp .eq off, 3)) (et : (pc : Int) + off = (pt : Int)) (ef : pc + 3 = pf) (h : (if x = y then A else B) = some z) (kt : x = y → A = some z → GV X w nL cn sn S L pt st) (kf : ¬ x = y → B = some z → GV X w nL cn sn S L pf st) : GV X w nL cn sn S L pc (.int y :: .int x :: st) := by
  obtain ⟨p, l, en, R, s, m, args, below, meth, c, Q⟩ := X
  obtain ⟨hx, hb, -⟩ := h0
  subst ef
  intro H locs ls hP hS hl
  exact lv_icmp_eq hx hb hdg et (fun c => kt c (ite_tt h c) H locs ls hP hS hl) (fun c => kf c (ite_ff h c) H locs ls hP hS hl)
theorem r_ic_ne (h0 : CX own cc nL rm X w) {x y : Int32} (hdg : decode cc pc = .ok (.if_icmp .ne off, 3)) (et : (pc : Int) + off = (pt : Int)) (ef : pc + 3 = pf) (h : (if x = y then B else A) = some z) (kt : ¬ x = y → A = some z → GV X w nL cn sn S L pt st) (kf : x = y → B = some z → GV X w nL cn sn S L pf st) : GV X w nL cn sn S L pc (.int y :: .int x :: st) := by
  obtain ⟨p, l, en, R, s, m, args, below, meth, c, Q⟩ := X
  obtain ⟨hx, hb, -⟩ := h0
  subst ef
  intro H locs ls hP hS hl
  exact lv_icmp_ne hx hb hdg et (fun c => kt c (ite_ff h c) H locs ls hP hS hl) (fun c => kf c (ite_tt h c) H locs ls hP hS hl)
theorem r_ic_lt (h0 : CX own cc nL rm X w) {x y : Int32} (hdg : decode cc pc = .ok (.if_icmp .lt off, 3)) (et : (pc : Int) + off = (pt : Int)) (ef : pc + 3 = pf) (h : (if x < y then A else B) = some z) (kt : x < y → A = some z → GV X w nL cn sn S L pt st) (kf : ¬ x < y → B = some z → GV X w nL cn sn S L pf st) : GV X w nL cn sn S L pc (.int y :: .int x :: st) := by
  obtain ⟨p, l, en, R, s, m, args, below, meth, c, Q⟩ := X
  obtain ⟨hx, hb, -⟩ := h0
  subst ef
  intro H locs ls hP hS hl
  exact lv_icmp_lt hx hb hdg et (fun c => kt c (ite_tt h c) H locs ls hP hS hl) (fun c => kf c (ite_ff h c) H locs ls hP hS hl)
theorem r_ic_ge (h0 : CX own cc nL rm X w) {x y : Int32} (hdg : decode cc pc = .ok (.if_icmp .ge off, 3)) (et : (pc : Int) + off = (pt : Int)) (ef : pc + 3 = pf) (h : (if y ≤ x then A else B) = some z) (kt : y ≤ x → A = some z → GV X w nL cn sn S L pt st) (kf : ¬ y ≤ x → B = some z → GV X w nL cn sn S L pf st) : GV X w nL cn sn S L pc (.int y :: .int x :: st) := by
  obtain ⟨p, l, en, R, s, m, args, below, meth, c, Q⟩ := X
  obtain ⟨hx, hb, -⟩ := h0
  subst ef
  intro H locs ls hP hS hl
  exact lv_icmp_ge hx hb hdg et (fun c => kt c (ite_tt h c) H locs ls hP hS hl) (fun c => kf c (ite_ff h c) H locs ls hP hS hl)
theorem r_ic_gt (h0 : CX own cc nL rm X w) {x y : Int32} (hdg : decode cc pc = .ok (.if_icmp .gt off, 3)) (et : (pc : Int) + off = (pt : Int)) (ef : pc + 3 = pf) (h : (if y < x then A else B) = some z) (kt : y < x → A = some z → GV X w nL cn sn S L pt st) (kf : ¬ y < x → B = some z → GV X w nL cn sn S L pf st) : GV X w nL cn sn S L pc (.int y :: .int x :: st) := by
  obtain ⟨p, l, en, R, s, m, args, below, meth, c, Q⟩ := X
  obtain ⟨hx, hb, -⟩ := h0
  subst ef
  intro H locs ls hP hS hl
  exact lv_icmp_gt hx hb hdg et (fun c => kt c (ite_tt h c) H locs ls hP hS hl) (fun c => kf c (ite_ff h c) H locs ls hP hS hl)
theorem r_ic_le (h0 : CX own cc nL rm X w) {x y : Int32} (hdg : decode cc pc = .ok (.if_icmp .le off, 3)) (et : (pc : Int) + off = (pt : Int)) (ef : pc + 3 = pf) (h : (if x ≤ y then A else B) = some z) (kt : x ≤ y → A = some z → GV X w nL cn sn S L pt st) (kf : ¬ x ≤ y → B = some z → GV X w nL cn sn S L pf st) : GV X w nL cn sn S L pc (.int y :: .int x :: st) := by
  obtain ⟨p, l, en, R, s, m, args, below, meth, c, Q⟩ := X
  obtain ⟨hx, hb, -⟩ := h0
  subst ef
  intro H locs ls hP hS hl
  exact lv_icmp_le hx hb hdg et (fun c => kt c (ite_tt h c) H locs ls hP hS hl) (fun c => kf c (ite_ff h c) H locs ls hP hS hl)
theorem r_ifnonnull (h0 : CX own cc nL rm X w) {x : Nat} (hdg : decode cc pc = .ok (.ifnonnull off, 3)) (et : (pc : Int) + off = (pt : Int)) (k : GV X w nL cn sn S L pt st) : GV X w nL cn sn S L pc (.ref x :: st) := by
  obtain ⟨p, l, en, R, s, m, args, below, meth, c, Q⟩ := X
  obtain ⟨hx, hb, -⟩ := h0
  intro H locs ls hP hS hl
  exact lv_ifnonnull hx hb hdg et (k H locs ls hP hS hl)
end RB
end
section
/-! Ends, fields, arrays and calls over GV. -/
section RE
variable {own : String} {cc : ByteArray} {nL : Nat} {rm : Room} {X : MX} {w : WX} {S S' : Mem} {L : List (Nat × Value)} {pc : Nat}
theorem r_iret (h0 : CX own cc nL rm X w) {x r : Int32} (hE : EN (some .int) (some (.int r)) S' X w) (hdg : decode cc pc = .ok (.ireturn, 1)) (h : some (x, S) = some (r, S')) : GV X w nL 0 0 S L pc [.int x] := by
  obtain ⟨p, l, en, R, s, m, args, below, meth, c, Q⟩ := X
  obtain ⟨hx, hb, -, -, -, -, hlk, -⟩ := h0
  obtain ⟨hr, hQ⟩ := hE
  cases h
  subst hQ
  intro H locs ls hP hS hl
  exact W.iret hx hb hr (fun t ht hW => ⟨⟨rfl, by rw [ht]; exact hP⟩, hS.F ht⟩) hS.2.2 hdg hlk
theorem r_iretR (h0 : CX own cc nL rm X w) {x r : Int32} (hE : EN (some .int) (some (.int r)) S X w) (hdg : decode cc pc = .ok (.ireturn, 1)) (h : some x = some r) : GV X w nL 0 0 S L pc [.int x] := r_iret h0 hE hdg (by rw [Option.some.inj h])
theorem W_zretN {p : Program} {l : Launch} {e : Env} {R : Room} {s : State} {m : MethodId} {args : Array Value} {below : List Frame} {meth : Method} {c : Code} {H : Heap} {locs : List Loc} {cells slots : Nat} {cc : ByteArray} {Qc : Array Value → State → Outcome → State → Prop} {free : Addr → Prop} {v v' : Int32} {ty : FieldType} (hexec : p.tables.exec = Jvm.exec) (hb : c.code = cc) (hr : meth.sig.returnType = some ty) (hn : narrow ty (.int v) = .int v')
    (hq : ∀ t : State, t.heap = H → s.WarmedH t.vm → Qc args s (.returned (some (.int v'))) t) (hf : ∀ q ∈ locs, free q.base)
    {pc : Nat} {ls : Array Slot} (hdg : decode cc pc = .ok (.ireturn, 1)) (hlocks : meth.locks = false) : W p l e R s m args below meth c H locs cells slots (MQ below Qc args s cells slots free) (F0 m pc ls [.int v]) := by
  intro T hT X
  have hlocks : meth.locks = false := hlocks
  obtain ⟨fs, hret, hrun, hended, hW, hframe⟩ := X.leave (v := some (.int v')) (fun h => by rw [hr] at h; cases h)
  have hmeth' : T.vm.method? m = some meth := X.method'
  refine ⟨T.setFrames fs, ?_, .returned (some (.int v')), hrun, hended, hq _ hT hW, locs, ⟨⟨_, rfl⟩, hW, hframe⟩, hf⟩
  jvm_step X.here [X.here.top, hexec, hb, hdg, hmeth', hr, hn]
  (try refine ⟨rfl, ?_⟩); (try refine ⟨rfl, ?_⟩)
  first | (intro acts; rw [hret _ acts rfl rfl rfl]) | rw [hret _ _ rfl rfl rfl]
  exact Steps.refl _
theorem r_zret (h0 : CX own cc nL rm X w) {x r : Int32} (hE : EN (some .boolean) (some (.int r)) S' X w) (hdg : decode cc pc = .ok (.ireturn, 1)) (h : some (nb x, S) = some (r, S')) : GV X w nL 0 0 S L pc [.int x] := by
  obtain ⟨p, l, en, R, s, m, args, below, meth, c, Q⟩ := X
  obtain ⟨hx, hb, -, -, -, -, hlk, -⟩ := h0
  obtain ⟨hr, hQ⟩ := hE
  cases h
  subst hQ
  intro H locs ls hP hS hl
  exact W_zretN hx hb hr rfl (fun t ht hW => ⟨⟨rfl, by rw [ht]; exact hP⟩, hS.F ht⟩) hS.2.2 hdg hlk
theorem r_zretR (h0 : CX own cc nL rm X w) {x r : Int32} (hE : EN (some .boolean) (some (.int r)) S X w) (hdg : decode cc pc = .ok (.ireturn, 1)) (h : some (nb x) = some r) : GV X w nL 0 0 S L pc [.int x] := r_zret h0 hE hdg (by rw [Option.some.inj h])
theorem r_vret (h0 : CX own cc nL rm X w) (hE : EN none none S' X w) (hdg : decode cc pc = .ok (.return_, 1)) (h : some ((), S) = some ((), S')) : GV X w nL 0 0 S L pc [] := by
  obtain ⟨p, l, en, R, s, m, args, below, meth, c, Q⟩ := X
  obtain ⟨hx, hb, -, -, -, -, hlk, -⟩ := h0
  obtain ⟨hr, hQ⟩ := hE
  cases h
  subst hQ
  intro H locs ls hP hS hl
  exact W.vret hx hb hr (fun t ht hW => ⟨⟨rfl, by rw [ht]; exact hP⟩, hS.F ht⟩) hS.2.2 hdg hlk
/-- an answer that is one of the world's objects, told by its number -/
theorem r_aretR (h0 : CX own cc nL rm X w) {C : String} {ck x r : Nat} (hE : EN (some (.object C)) (some (.ref (wA w ck r))) S X w) (hdg : decode cc pc = .ok (.areturn, 1)) (h : some x = some r) : GV X w nL 0 0 S L pc [.ref (wA w ck x)] := by
  obtain ⟨p, l, en, R, s, m, args, below, meth, c, Q⟩ := X
  obtain ⟨hx, hb, -, -, -, -, hlk, -⟩ := h0
  obtain ⟨hr, hQ⟩ := hE
  cases h
  subst hQ
  intro H locs ls hP hS hl
  exact W.aret hx hb hr (Or.inl ⟨C, rfl⟩) (Or.inr ⟨_, rfl⟩) (fun t ht hW => ⟨⟨rfl, by rw [ht]; exact hP⟩, hS.F ht⟩) hS.2.2 hdg hlk
end RE
section RF
variable {own : String} {cc : ByteArray} {nL : Nat} {rm : Room} {X : MX} {w : WX} {cn sn : Nat} {S S' : Mem} {L : List (Nat × Value)} {pc pc' : Nat} {st : List Value}
/-- getfield, by the class's own entry or by a nest mate's -/
theorem r_get (h0 : CX own cc nL rm X w) {ck k ci n idx : Nat} {C ref : String} {T : u_T} {fs : List Value} {v : Value} (hk : k < wN w ck) (he : wCe w (S.1 ck k) (S.2 ck k) ck k = .inr (ci, fs)) (hc : (wCl w)[ci]? = some (C, T, n)) (hin : ∀ t ∈ u_ws C T n, t ∈ GW) (j : Nat) (hj : j < n) (hlink : Cond.fieldLink own idx ref (T j).2.1 (T j).2.2.1 ∈ GW) (href : ref = (T j).1) (hv : fs[j]? = some v) (hdg : decode cc pc = .ok (.getfield idx, 3)) (e : pc + 3 = pc')
    (kk : GV X w nL cn sn S L pc' (v :: st)) : GV X w nL cn sn S L pc (.ref (wA w ck k) :: st) := by
  obtain ⟨p, l, en, R, s, m, args, below, meth, c, Q⟩ := X
  obtain ⟨hx, hb, -, ho, ht, hK, -⟩ := h0
  subst e
  subst href
  intro H locs ls hP hS hl
  exact va_get (D := wD w) hx hb ht hin ho hK (hp_one hP hk he) 0 rfl hc j hj (ht _ hlink) (fun _ h9 => h9) hv hdg (kk H locs ls hP hS hl)
theorem r_getN (h0 : CX own cc nL rm X w) {ck k ci n idx : Nat} {C ref host : String} {T : u_T} {fs : List Value} {v : Value} (hk : k < wN w ck) (he : wCe w (S.1 ck k) (S.2 ck k) ck k = .inr (ci, fs)) (hc : (wCl w)[ci]? = some (C, T, n)) (hin : ∀ t ∈ u_ws C T n, t ∈ GW) (j : Nat) (hj : j < n) (hlink : Cond.fieldLinkNest own idx ref (T j).2.1 (T j).2.2.1 host ∈ NW) (href : ref = (T j).1) (hv : fs[j]? = some v) (hdg : decode cc pc = .ok (.getfield idx, 3)) (e : pc + 3 = pc')
    (kk : GV X w nL cn sn S L pc' (v :: st)) : GV X w nL cn sn S L pc (.ref (wA w ck k) :: st) := by
  obtain ⟨p, l, en, R, s, m, args, below, meth, c, Q⟩ := X
  obtain ⟨hx, hb, -, ho, ht, hK, -, -, hN, -⟩ := h0
  subst e
  subst href
  intro H locs ls hP hS hl
  exact va_getN (D := wD w) hx hb ht hin ho hK (hp_one hP hk he) 0 rfl hc j hj (va_Nw.use rfl (hN _ hlink)) (fun _ h9 => h9) hv hdg (kk H locs ls hP hS hl)
/-- putfield: the world's memory moves from S to S' in this one object -/
theorem r_put (h0 : CX own cc nL rm X w) {ck k ci n idx : Nat} {C ref : String} {T : u_T} {fs : List Value} {v : Value} (hk : k < wN w ck) (he : wCe w (S.1 ck k) (S.2 ck k) ck k = .inr (ci, fs)) (hc : (wCl w)[ci]? = some (C, T, n)) (hin : ∀ t ∈ u_ws C T n, t ∈ GW) (ty0 : Nat → FieldType) (hty : ∀ k, k < n → parseFieldDescriptor (T k).2.2.1 = some (ty0 k)) (hnm : ∀ a, a < n → ∀ b, b < n → a ≠ b → (T a).2.1 ≠ (T b).2.1) (j : Nat) (hj : j < n) (hlink : Cond.fieldLink own idx ref (T j).2.1 (T j).2.2.1 ∈ GW) (href : ref = (T j).1) (hfin : (T j).2.2.2 = false) (hn : narrow (ty0 j) v = v) (hfit : fits (ty0 j) v = true) (hl : j < fs.length) (hoff : ∀ c' k' : Nat, ¬ (c' = ck ∧ k' = k) → S'.1 c' k' = S.1 c' k' ∧ S'.2 c' k' = S.2 c' k') (hon : wCe w (S'.1 ck k) (S'.2 ck k) ck k = .inr (ci, fs.set j v)) (hdg : decode cc pc = .ok (.putfield idx, 3)) (e : pc + 3 = pc')
    (kk : GV X w nL cn sn S' L pc' st) : GV X w nL cn sn S L pc (v :: .ref (wA w ck k) :: st) := by
  obtain ⟨p, l, en, R, s, m, args, below, meth, c, Q⟩ := X
  obtain ⟨hx, hb, -, ho, hts, hK, -, hw, -⟩ := h0
  subst e
  subst href
  intro H locs ls hP hS0 hl0
  have hap := va_apart (own := own) hts hin ty0 hty hnm hK hc
  have hP0 := hP ck k hk
  rw [he] at hP0
  obtain ⟨r, h1, cell, q1, q2, q3, q4⟩ := hP0
  have hr : r = (C, T, n) := Option.some.inj (h1.symm.trans hc)
  subst hr
  obtain ⟨hS, hfc, kC, hkC, hkind⟩ := hK.1 ci _ hc
  obtain ⟨cf, kf, fi, f, hi, hsl⟩ := hS j hj
  have hlay := hts _ (hin _ (u_in_lay hj))
  unfold u_lay at hlay
  rw [if_neg (by rw [hfin]; decide)] at hlay
  have hst := (u_facts hfc hkC (u_lays hts hin hj) hi).1
  have h6 := u_store hfc hkC hkind hlay hi (hty j hj) hn hfit
  refine W.putK hx hb (f := f) ⟨ho, hts _ hlink, ⟨_, _, _, hi⟩, hst⟩ (by rw [q2]; exact h6) q1 q3 (by rw [hsl]; exact k2_hasslot (q4 j hj)) rfl rfl hdg fun H' e1 e2 e3 => ?_
  rw [hsl] at e1 ⊢
  exact kk H' _ ls (hp_put hw hP hk hoff (by rw [hon]; exact ⟨_, hc, t_OB.to (V := updV (vp_V fs) j v) ⟨_, e1, q2, q3, t_set q4 hap hj v⟩ (fun i _ => vp_updV_set hl v i)⟩) e3) (hS0.put e2 e3 (Or.inl ⟨ck, k, hk, rfl⟩)) hl0
theorem r_putN (h0 : CX own cc nL rm X w) {ck k ci n idx : Nat} {C ref host : String} {T : u_T} {fs : List Value} {v : Value} (hk : k < wN w ck) (he : wCe w (S.1 ck k) (S.2 ck k) ck k = .inr (ci, fs)) (hc : (wCl w)[ci]? = some (C, T, n)) (hin : ∀ t ∈ u_ws C T n, t ∈ GW) (ty0 : Nat → FieldType) (hty : ∀ k, k < n → parseFieldDescriptor (T k).2.2.1 = some (ty0 k)) (hnm : ∀ a, a < n → ∀ b, b < n → a ≠ b → (T a).2.1 ≠ (T b).2.1) (j : Nat) (hj : j < n) (hlink : Cond.fieldLinkNest own idx ref (T j).2.1 (T j).2.2.1 host ∈ NW) (href : ref = (T j).1) (hfin : (T j).2.2.2 = false) (hn : narrow (ty0 j) v = v) (hfit : fits (ty0 j) v = true) (hl : j < fs.length) (hoff : ∀ c' k' : Nat, ¬ (c' = ck ∧ k' = k) → S'.1 c' k' = S.1 c' k' ∧ S'.2 c' k' = S.2 c' k') (hon : wCe w (S'.1 ck k) (S'.2 ck k) ck k = .inr (ci, fs.set j v)) (hdg : decode cc pc = .ok (.putfield idx, 3)) (e : pc + 3 = pc')
    (kk : GV X w nL cn sn S' L pc' st) : GV X w nL cn sn S L pc (v :: .ref (wA w ck k) :: st) := by
  obtain ⟨p, l, en, R, s, m, args, below, meth, c, Q⟩ := X
  obtain ⟨hx, hb, -, ho, hts, hK, -, hw, hN, -⟩ := h0
  subst e
  subst href
  intro H locs ls hP hS0 hl0
  have hap := va_apart (own := own) hts hin ty0 hty hnm hK hc
  have hP0 := hP ck k hk
  rw [he] at hP0
  obtain ⟨r, h1, cell, q1, q2, q3, q4⟩ := hP0
  have hr : r = (C, T, n) := Option.some.inj (h1.symm.trans hc)
  subst hr
  obtain ⟨hS, hfc, kC, hkC, hkind⟩ := hK.1 ci _ hc
  obtain ⟨cf, kf, fi, f, hi, hsl⟩ := hS j hj
  have hlay := hts _ (hin _ (u_in_lay hj))
  unfold u_lay at hlay
  rw [if_neg (by rw [hfin]; decide)] at hlay
  have hst := (u_facts hfc hkC (u_lays hts hin hj) hi).1
  have h6 := u_store hfc hkC hkind hlay hi (hty j hj) hn hfit
  refine va_WputK hx hb (f := f) ho (va_Nw.use rfl (hN _ hlink)) hi hst (by rw [q2]; exact h6) q1 q3 (by rw [hsl]; exact k2_hasslot (q4 j hj)) rfl rfl hdg fun H' e1 e2 e3 => ?_
  rw [hsl] at e1 ⊢
  exact kk H' _ ls (hp_put hw hP hk hoff (by rw [hon]; exact ⟨_, hc, t_OB.to (V := updV (vp_V fs) j v) ⟨_, e1, q2, q3, t_set q4 hap hj v⟩ (fun i _ => vp_updV_set hl v i)⟩) e3) (hS0.put e2 e3 (Or.inl ⟨ck, k, hk, rfl⟩)) hl0
end RF
section RA
variable {own : String} {cc : ByteArray} {nL : Nat} {rm : Room} {X : MX} {w : WX} {cn sn : Nat} {S : Mem} {L : List (Nat × Value)} {pc pc' : Nat} {st : List Value} {α : Type} {A : Option α} {z : α}
theorem r_alen (h0 : CX own cc nL rm X w) {ck k : Nat} (t0 : Nat) {cA : ClassId} {x : vp_A} {ty : FieldType} {v : Int32} (hk : k < wN w ck) (he : wCe w (S.1 ck k) (S.2 ck k) ck k = .inl (cA, x)) (ht : (wTy w)[t0]? = some (cA, ty)) (hv : Int32.ofNat x.1 = v) (hdg : decode cc pc = .ok (.arraylength, 1)) (e : pc + 1 = pc')
    (kk : GV X w nL cn sn S L pc' (.int v :: st)) : GV X w nL cn sn S L pc (.ref (wA w ck k) :: st) := by
  obtain ⟨p, l, en, R, s, m, args, below, meth, c, Q⟩ := X
  obtain ⟨hx, hb, -, ho, hts, hK, -, hw, hN, -⟩ := h0
  subst e
  intro H locs ls hP hS hl
  exact va_alen (D := wD w) hx hb hK (hp_one hP hk he) 0 t0 rfl ht hv hdg (kk H locs ls hP hS hl)
theorem r_iald (h0 : CX own cc nL rm X w) {ck k : Nat} (t0 : Nat) {cA : ClassId} {n : Nat} (hk : k < wN w ck) (he : wCe w (S.1 ck k) (S.2 ck k) ck k = .inl (cA, n, .inl (S.1 ck k))) (ht : (wTy w)[t0]? = some (cA, .int)) {i : Int32} (hdg : decode cc pc = .ok (.iaload, 1)) (e : pc + 1 = pc') (h : gd (inb i n) A = some z)
    (kk : A = some z → GV X w nL cn sn S L pc' (.int (S.1 ck k i.toNatClampNeg) :: st)) : GV X w nL cn sn S L pc (.int i :: .ref (wA w ck k) :: st) := by
  obtain ⟨p, l, en, R, s, m, args, below, meth, c, Q⟩ := X
  obtain ⟨hx, hb, -, ho, hts, hK, -, hw, hN, -⟩ := h0
  obtain ⟨hin, hA⟩ := gd_some h
  subst e
  intro H locs ls hP hS hl
  exact va_iald (D := wD w) hx hb hK (hp_one hP hk he) 0 t0 rfl ht (inb_in hin) hdg (kk hA H locs ls hP hS hl)
theorem r_zald (h0 : CX own cc nL rm X w) {ck k : Nat} (t0 : Nat) {cA : ClassId} {n : Nat} (hk : k < wN w ck) (he : wCe w (S.1 ck k) (S.2 ck k) ck k = .inl (cA, n, .inl (S.1 ck k))) (ht : (wTy w)[t0]? = some (cA, .boolean)) {i : Int32} (hdg : decode cc pc = .ok (.baload, 1)) (e : pc + 1 = pc') (h : gd (inb i n) A = some z)
    (kk : A = some z → GV X w nL cn sn S L pc' (.int (S.1 ck k i.toNatClampNeg) :: st)) : GV X w nL cn sn S L pc (.int i :: .ref (wA w ck k) :: st) := by
  obtain ⟨p, l, en, R, s, m, args, below, meth, c, Q⟩ := X
  obtain ⟨hx, hb, -, ho, hts, hK, -, hw, hN, -⟩ := h0
  obtain ⟨hin, hA⟩ := gd_some h
  subst e
  intro H locs ls hP hS hl
  exact va_zald (D := wD w) hx hb hK (hp_one hP hk he) 0 t0 rfl ht (inb_in hin) hdg (kk hA H locs ls hP hS hl)
theorem r_lald (h0 : CX own cc nL rm X w) {ck k : Nat} (t0 : Nat) {cA : ClassId} {n : Nat} (hk : k < wN w ck) (he : wCe w (S.1 ck k) (S.2 ck k) ck k = .inl (cA, n, .inr (.inl (S.2 ck k)))) (ht : (wTy w)[t0]? = some (cA, .long)) {i : Int32} (hdg : decode cc pc = .ok (.laload, 1)) (e : pc + 1 = pc') (h : gd (inb i n) A = some z)
    (kk : A = some z → GV X w nL cn sn S L pc' (.long (S.2 ck k i.toNatClampNeg) :: st)) : GV X w nL cn sn S L pc (.int i :: .ref (wA w ck k) :: st) := by
  obtain ⟨p, l, en, R, s, m, args, below, meth, c, Q⟩ := X
  obtain ⟨hx, hb, -, ho, hts, hK, -, hw, hN, -⟩ := h0
  obtain ⟨hin, hA⟩ := gd_some h
  subst e
  intro H locs ls hP hS hl
  exact va_lald (D := wD w) hx hb hK (hp_one hP hk he) 0 t0 rfl ht (inb_in hin) hdg (kk hA H locs ls hP hS hl)
/-- an array of references to the world's objects of kind cq, all there -/
theorem r_aald (h0 : CX own cc nL rm X w) {ck k cq : Nat} (t0 : Nat) {cA : ClassId} {C : String} {n : Nat} (hk : k < wN w ck) (he : wCe w (S.1 ck k) (S.2 ck k) ck k = .inl (cA, n, .inr (.inr (.inr (.inr (fun j => some (wA w cq j))))))) (ht : (wTy w)[t0]? = some (cA, .object C)) {i : Int32} (hdg : decode cc pc = .ok (.aaload, 1)) (e : pc + 1 = pc') (h : gd (inb i n) A = some z)
    (kk : A = some z → inb i n = true → GV X w nL cn sn S L pc' (.ref (wA w cq i.toNatClampNeg) :: st)) : GV X w nL cn sn S L pc (.int i :: .ref (wA w ck k) :: st) := by
  obtain ⟨p, l, en, R, s, m, args, below, meth, c, Q⟩ := X
  obtain ⟨hx, hb, -, ho, hts, hK, -, hw, hN, -⟩ := h0
  obtain ⟨hin, hA⟩ := gd_some h
  subst e
  intro H locs ls hP hS hl
  exact va_aldq (D := wD w) hx hb hK (hp_one hP hk he) 0 t0 rfl ht (inb_in hin) hdg (kk hA hin H locs ls hP hS hl)
theorem r_iast (h0 : CX own cc nL rm X w) {ck k : Nat} (t0 : Nat) {cA : ClassId} {n : Nat} (hk : k < wN w ck) (he : ∀ (f : Nat → Int32) (g : Nat → Int64), wCe w f g ck k = .inl (cA, n, .inl f)) (ht : (wTy w)[t0]? = some (cA, .int)) {i x : Int32} (hdg : decode cc pc = .ok (.iastore, 1)) (e : pc + 1 = pc') (h : gd (inb i n) A = some z)
    (kk : A = some z → GV X w nL cn sn (wI S ck k i.toNatClampNeg x) L pc' st) : GV X w nL cn sn S L pc (.int x :: .int i :: .ref (wA w ck k) :: st) := by
  obtain ⟨p, l, en, R, s, m, args, below, meth, c, Q⟩ := X
  obtain ⟨hx, hb, -, ho, hts, hK, -, hw, hN, -⟩ := h0
  obtain ⟨hin, hA⟩ := gd_some h
  subst e
  intro H locs ls hP hS hl
  have hP0 := hP ck k hk
  rw [he] at hP0
  refine W.iast hx hb hP0 ((hK.2 t0 _ ht).1 n (fun j => .int (S.1 ck k j))) (fun q => by cases q) (by show ¬ (i < 0 ∨ (arrV _ _ _).slots.size ≤ _); rw [arrV_size]; exact inb_in hin) rfl rfl hdg fun H1 e z oq => ?_
  refine kk hA H1 _ ls (hp_put hw hP hk wI_off ?_ oq) (hS.put z oq (Or.inl ⟨ck, k, hk, rfl⟩)) hl
  rw [he, wI_on]
  show H1[_]? = some (vp_cell _ _)
  rw [e]
  rw [vp_cell_i, vp_cell_i, arrV_store]
  congr 2
  funext q
  by_cases hq : q = i.toNatClampNeg
  · subst hq
    simp [updV, upd]
  · simp [updV, upd, hq]
theorem r_zast (h0 : CX own cc nL rm X w) {ck k : Nat} (t0 : Nat) {cA : ClassId} {n : Nat} (hk : k < wN w ck) (he : ∀ (f : Nat → Int32) (g : Nat → Int64), wCe w f g ck k = .inl (cA, n, .inl f)) (ht : (wTy w)[t0]? = some (cA, .boolean)) {i x : Int32} (hdg : decode cc pc = .ok (.bastore, 1)) (e : pc + 1 = pc') (h : gd (inb i n) A = some z)
    (kk : A = some z → GV X w nL cn sn (wI S ck k i.toNatClampNeg (nb x)) L pc' st) : GV X w nL cn sn S L pc (.int x :: .int i :: .ref (wA w ck k) :: st) := by
  obtain ⟨p, l, en, R, s, m, args, below, meth, c, Q⟩ := X
  obtain ⟨hx, hb, -, ho, hts, hK, -, hw, hN, -⟩ := h0
  obtain ⟨hin, hA⟩ := gd_some h
  subst e
  intro H locs ls hP hS hl
  have hP0 := hP ck k hk
  rw [he] at hP0
  refine W.zast hx hb hP0 ((hK.2 t0 _ ht).1 n (fun j => .int (S.1 ck k j))) (fun q => by cases q) (by show ¬ (i < 0 ∨ (arrV _ _ _).slots.size ≤ _); rw [arrV_size]; exact inb_in hin) rfl rfl hdg fun H1 e z oq => ?_
  refine kk hA H1 _ ls (hp_put hw hP hk wI_off ?_ oq) (hS.put z oq (Or.inl ⟨ck, k, hk, rfl⟩)) hl
  rw [he, wI_on]
  show H1[_]? = some (vp_cell _ _)
  rw [e]
  rw [vp_cell_i, vp_cell_i, arrV_store]
  congr 2
  funext q
  by_cases hq : q = i.toNatClampNeg
  · subst hq
    simp [updV, upd, nb, narrow]
  · simp [updV, upd, hq]
theorem r_last (h0 : CX own cc nL rm X w) {ck k : Nat} (t0 : Nat) {cA : ClassId} {n : Nat} (hk : k < wN w ck) (he : ∀ (f : Nat → Int32) (g : Nat → Int64), wCe w f g ck k = .inl (cA, n, .inr (.inl g))) (ht : (wTy w)[t0]? = some (cA, .long)) {i : Int32} {x : Int64} (hdg : decode cc pc = .ok (.lastore, 1)) (e : pc + 1 = pc') (h : gd (inb i n) A = some z)
    (kk : A = some z → GV X w nL cn sn (wL S ck k i.toNatClampNeg x) L pc' st) : GV X w nL cn sn S L pc (.long x :: .int i :: .ref (wA w ck k) :: st) := by
  obtain ⟨p, l, en, R, s, m, args, below, meth, c, Q⟩ := X
  obtain ⟨hx, hb, -, ho, hts, hK, -, hw, hN, -⟩ := h0
  obtain ⟨hin, hA⟩ := gd_some h
  subst e
  intro H locs ls hP hS hl
  have hP0 := hP ck k hk
  rw [he] at hP0
  refine W.last hx hb hP0 ((hK.2 t0 _ ht).1 n (fun j => .long (S.2 ck k j))) (fun q => by cases q) (by show ¬ (i < 0 ∨ (arrV _ _ _).slots.size ≤ _); rw [arrV_size]; exact inb_in hin) rfl rfl hdg fun H1 e z oq => ?_
  refine kk hA H1 _ ls (hp_put hw hP hk wL_off ?_ oq) (hS.put z oq (Or.inl ⟨ck, k, hk, rfl⟩)) hl
  rw [he, wL_on]
  show H1[_]? = some (vp_cell _ _)
  rw [e]
  rw [vp_cell_l, vp_cell_l, arrV_store]
  congr 2
  funext q
  by_cases hq : q = i.toNatClampNeg
  · subst hq
    simp [updV, vp_updL]
  · simp [updV, vp_updL, hq]
end RA
section RC
variable {own : String} {cc : ByteArray} {nL : Nat} {rm : Room} {X : MX} {w : WX} {S S' : Mem} {L : List (Nat × Value)} {pc pc' : Nat} {st : List Value}
theorem run_go {p : Program} {l : Launch} {e : Env} {R : Room} {s : State} {m : MethodId} {args : Array Value} {below : List Frame} {meth : Method} {c : Code} {H : Heap} {locs : List Loc} {cells slots mc ms : Nat} {Q : State → Prop} {ls : Array Slot} {rest st0 : List Value} {a : Array Value} {A0 A1 : Nat → Prop} {H0 : Heap} {free : Addr → Prop} {o : Option Value} {B : Heap → Prop}
    (hr : va_Run p l e R s m args below meth c H locs cells slots mc ms (F0 m pc ls st0) rest (Qo o B A1 a) free) (hS : va_S A0 H0 H locs) (hA : ∀ q, q < H.size → A1 q → A0 q) (hf : ∀ q, free q → A0 q)
    (kk : ∀ (H1 : Heap) (locs1 : List Loc), B H1 → va_S A0 H0 H1 locs1 → W p l e R s m args below meth c H1 locs1 (cells + mc) (slots + ms) Q (F0 m (pc + 3) ls (o.toList ++ rest))) : W p l e R s m args below meth c H locs cells slots Q (F0 m pc ls st0) := by
  intro T hT X
  obtain ⟨v, st₀, t, T', L, h0, X', hL, e1, e2, ⟨⟨hv, hb⟩, hz, hk⟩, st⟩ := hr T hT X
  cases hv
  rw [h0] at hz hk
  obtain ⟨t2, a1, b1⟩ := kk T'.heap (locs ++ L) (by rw [e1]; exact hb)
    ⟨Nat.le_trans hS.1 (by rw [e1]; exact hz), fun q h1 h2 => by rw [e1, hk q (Nat.lt_of_lt_of_le h1 hS.1) (fun z => h2 (hA q (Nat.lt_of_lt_of_le h1 hS.1) z))]; exact hS.2.1 q h1 h2, fun q hq => by
      rcases List.mem_append.mp hq with h | h
      · exact hS.2.2 q h
      · exact hf _ (hL q h)⟩ T' rfl X'
  exact ⟨t2, st t2 a1, b1⟩
theorem AA_up {w : WX} {a b : Nat} (h : a ≤ b) : ∀ q, AA w b q → AA w a q := fun _ hq => hq.imp id (fun z => Nat.le_trans h z)
theorem pc_in {w : WX} {S : Mem} {s : State} {H : Heap} {av : List Value} (hP : hp w S H) (hK : va_K (wD w) (wCl w) (wTy w) s) (hN : ∀ t ∈ NW, va_Nw t s) (hw : wok w) : ∀ U : State, U.heap = H → s.WarmedH U.vm → PCx w av S H.size av.toArray U :=
  fun U hU hW => ⟨rfl, by rw [hU], by rw [hU]; exact hP, va_K.moved hW.alike hK, nw_warm hW hN, hw⟩
/-- THE CALLS of a callee under contract, by the entry idx of own's pool, told once an entry -/
def gcV (w : WX) (own : String) (idx ck : Nat) (y : MethodName) (bytes : ByteArray) (maxL : Nat) (ret : Option FieldType) (n : Nat) : Prop :=
  ∀ {cc : ByteArray} {nL : Nat} {rm rc : Room} {X : MX} {S S' : Mem} {L : List (Nat × Value)} {pc pc' k cn sn : Nat} {st st2 As rest : List Value} {o : Option Value}, CX own cc nL rm X w → k < wN w ck → ctN y bytes maxL ret rc w (.ref (wA w ck k) :: As) S o S' → st = As.reverse ++ .ref (wA w ck k) :: rest → As.length = n → decode cc pc = .ok (.invokevirtual idx, 3) → pc + 3 = pc' → (rest.map fun v => v.category).sum ≤ 8 → (rc.cells = 0 ∧ rc.slots = 0 ∧ rc.frames + 1 ≤ rm.frames ∧ 8 + (maxL + 11) + rc.locals ≤ rm.locals) → (cn ≤ rm.cells ∧ sn ≤ rm.slots) → o.toList ++ rest = st2 → GV X w nL cn sn S' L pc' st2 → GV X w nL cn sn S L pc st
def gcS (w : WX) (own : String) (idx : Nat) (y : MethodName) (bytes : ByteArray) (maxL : Nat) (ret : Option FieldType) (n : Nat) : Prop :=
  ∀ {cc : ByteArray} {nL : Nat} {rm rc : Room} {X : MX} {S S' : Mem} {L : List (Nat × Value)} {pc pc' cn sn : Nat} {st st2 As rest : List Value} {o : Option Value}, CX own cc nL rm X w → ctN y bytes maxL ret rc w As S o S' → st = As.reverse ++ rest → As.length = n → decode cc pc = .ok (.invokestatic idx, 3) → pc + 3 = pc' → (rest.map fun v => v.category).sum ≤ 8 → (rc.cells = 0 ∧ rc.slots = 0 ∧ rc.frames + 1 ≤ rm.frames ∧ 8 + (maxL + 11) + rc.locals ≤ rm.locals) → (cn ≤ rm.cells ∧ sn ≤ rm.slots) → o.toList ++ rest = st2 → GV X w nL cn sn S' L pc' st2 → GV X w nL cn sn S L pc st
def isObj (w : WX) (C : String) (ck : Nat) : Prop := ∃ (ci : Nat) (T : u_T) (n : Nat), (wCl w)[ci]? = some (C, T, n) ∧ ∀ (f : Nat → Int32) (g : Nat → Int64) (k : Nat), ∃ fs, wCe w f g ck k = .inr (ci, fs)
abbrev plainY (y : MethodName) (n : Nat) : Prop := y.cls ≠ "java/lang/invoke/MethodHandle" ∧ y.cls ≠ "java/lang/invoke/VarHandle" ∧ (parseMethodDescriptor y.desc).map (fun d => d.parameters.length) = some n
theorem grecv {w : WX} {C : String} {ck k : Nat} {S : Mem} {H : Heap} {s : State} (ho : isObj w C ck) (hP : hp w S H) (hK : va_K (wD w) (wCl w) (wTy w) s) (hk : k < wN w ck) : ∃ cellB : Cell, H[wA w ck k]? = some cellB ∧ cellB.vm.isStatics = false ∧ s.vm.findClass C = some cellB.cls := by
  obtain ⟨ci, T, n, hc, hf⟩ := ho
  obtain ⟨fs, he⟩ := hf (S.1 ck k) (S.2 ck k) k
  exact va_recv hK (hp_one hP hk he) hc (q0 := 0) rfl
theorem mkV {own C : String} {idx ck maxL n : Nat} {y : MethodName} {bytes : ByteArray} {ret : Option FieldType} (ho : isObj w C ck) (hl : Cond.methodLink own idx y ∈ GW) (hi : Cond.instanceMethod y ∈ GW) (hs : Cond.selects C y y ∈ GW) (hc : Cond.code y bytes maxL ret ∈ GW) (hini : Cond.initialized y.cls ∈ GW) (hd : plainY y n) : gcV w own idx ck y bytes maxL ret n := by
  intro cc nL rm rc X S S' L pc pc' k cn sn st st2 As rest o h0 hk hM hst hn hdg e hW hR hcs h2 kk
  obtain ⟨p, l, en, R, s, m, args, below, meth, c, Q⟩ := X
  obtain ⟨hx, hb, hml, hown, hts, hK, -, hw, hN, rfl⟩ := h0
  subst e
  subst hst
  subst h2
  intro H locs ls hP hS hls
  refine run_go (va_runV (As := As) (rest := rest) ⟨hx, hb, hml, hown, hts⟩ (hM l H.size) ⟨callB_of n hts (goodGW hc) rfl hR.1 hR.2.1 (hts _ hini) (hts _ hl) hd ⟨hR.2.2.1, hR.2.2.2⟩, hts _ hi, hts _ hs⟩ ⟨pc_blind, grecv ho hP hK hk, pc_in hP hK hN hw⟩ rfl hn hls.1 rfl (lv_room hW) hdg ⟨hcs.1, hcs.2⟩) hS (fun q _ h => AA_up hS.1 q h) (fun q h => AA_up hS.1 q h) (fun H1 locs1 hB hS1 => kk H1 locs1 ls hB hS1 hls)
theorem mkVN {own C host : String} {idx ck maxL n : Nat} {y : MethodName} {bytes : ByteArray} {ret : Option FieldType} (ho : isObj w C ck) (hl : Cond.methodLinkNest own idx y host ∈ NW) (hi : Cond.instanceMethod y ∈ GW) (hs : Cond.selects C y y ∈ GW) (hc : Cond.code y bytes maxL ret ∈ GW) (hini : Cond.initialized y.cls ∈ GW) (hd : plainY y n) : gcV w own idx ck y bytes maxL ret n := by
  intro cc nL rm rc X S S' L pc pc' k cn sn st st2 As rest o h0 hk hM hst hn hdg e hW hR hcs h2 kk
  obtain ⟨p, l, en, R, s, m, args, below, meth, c, Q⟩ := X
  obtain ⟨hx, hb, hml, hown, hts, hK, -, hw, hN, rfl⟩ := h0
  subst e
  subst hst
  subst h2
  intro H locs ls hP hS hls
  refine run_go (va_runVN (As := As) (rest := rest) ⟨hx, hb, hml, hown, hts⟩ (hM l H.size) ⟨va_cnB n hts (goodGW hc) rfl hR.1 hR.2.1 (hN _ hl) (hts _ hini) hd ⟨hR.2.2.1, hR.2.2.2⟩, hts _ hi, hts _ hs⟩ ⟨pc_blind, grecv ho hP hK hk, pc_in hP hK hN hw⟩ rfl hn hls.1 rfl (lv_room hW) hdg ⟨hcs.1, hcs.2⟩) hS (fun q _ h => AA_up hS.1 q h) (fun q h => AA_up hS.1 q h) (fun H1 locs1 hB hS1 => kk H1 locs1 ls hB hS1 hls)
theorem mkS {own : String} {idx maxL n : Nat} {y : MethodName} {bytes : ByteArray} {ret : Option FieldType} (hl : Cond.methodLink own idx y ∈ GW) (hi : Cond.static y ∈ GW) (hc : Cond.code y bytes maxL ret ∈ GW) (hini : Cond.initialized y.cls ∈ GW) (hd : plainY y n) : gcS w own idx y bytes maxL ret n := by
  intro cc nL rm rc X S S' L pc pc' cn sn st st2 As rest o h0 hM hst hn hdg e hW hR hcs h2 kk
  obtain ⟨p, l, en, R, s, m, args, below, meth, c, Q⟩ := X
  obtain ⟨hx, hb, hml, hown, hts, hK, -, hw, hN, rfl⟩ := h0
  subst e
  subst hst
  subst h2
  intro H locs ls hP hS hls
  refine run_go (va_runS (As := As) (rest := rest) ⟨hx, hb, hml, hown, hts⟩ (hM l H.size) ⟨callB_of n hts (goodGW hc) rfl hR.1 hR.2.1 (hts _ hini) (hts _ hl) hd ⟨hR.2.2.1, hR.2.2.2⟩, hts _ hi⟩ ⟨pc_blind, pc_in hP hK hN hw⟩ rfl hn hls.1 rfl (lv_room hW) hdg ⟨hcs.1, hcs.2⟩) hS (fun q _ h => AA_up hS.1 q h) (fun q h => AA_up hS.1 q h) (fun H1 locs1 hB hS1 => kk H1 locs1 ls hB hS1 hls)
theorem mkSN {own host : String} {idx maxL n : Nat} {y : MethodName} {bytes : ByteArray} {ret : Option FieldType} (hl : Cond.methodLinkNest own idx y host ∈ NW) (hi : Cond.static y ∈ GW) (hc : Cond.code y bytes maxL ret ∈ GW) (hini : Cond.initialized y.cls ∈ GW) (hd : plainY y n) : gcS w own idx y bytes maxL ret n := by
  intro cc nL rm rc X S S' L pc pc' cn sn st st2 As rest o h0 hM hst hn hdg e hW hR hcs h2 kk
  obtain ⟨p, l, en, R, s, m, args, below, meth, c, Q⟩ := X
  obtain ⟨hx, hb, hml, hown, hts, hK, -, hw, hN, rfl⟩ := h0
  subst e
  subst hst
  subst h2
  intro H locs ls hP hS hls
  refine run_go (va_runSN (As := As) (rest := rest) ⟨hx, hb, hml, hown, hts⟩ (hM l H.size) ⟨va_cnB n hts (goodGW hc) rfl hR.1 hR.2.1 (hN _ hl) (hts _ hini) hd ⟨hR.2.2.1, hR.2.2.2⟩, hts _ hi, trivial⟩ ⟨pc_blind, pc_in hP hK hN hw⟩ rfl hn hls.1 rfl (lv_room hW) hdg ⟨hcs.1, hcs.2⟩) hS (fun q _ h => AA_up hS.1 q h) (fun q h => AA_up hS.1 q h) (fun H1 locs1 hB hS1 => kk H1 locs1 ls hB hS1 hls)
theorem go_V {idx ck maxL n k cn sn : Nat} {cc bytes : ByteArray} {own : String} {y : MethodName} {ret : Option FieldType} {rm rc : Room} {st st2 : List Value} {o : Option Value} (hc : gcV w own idx ck y bytes maxL ret n) (As rest : List Value) (h0 : CX own cc nL rm X w) (hk : k < wN w ck) (hM : ctN y bytes maxL ret rc w (.ref (wA w ck k) :: As) S o S') (hst : st = As.reverse ++ .ref (wA w ck k) :: rest) (hn : As.length = n) (hdg : decode cc pc = .ok (.invokevirtual idx, 3)) (e : pc + 3 = pc') (hW : (rest.map fun v => v.category).sum ≤ 8) (hR : rc.cells = 0 ∧ rc.slots = 0 ∧ rc.frames + 1 ≤ rm.frames ∧ 8 + (maxL + 11) + rc.locals ≤ rm.locals) (hcs : cn ≤ rm.cells ∧ sn ≤ rm.slots) (h2 : o.toList ++ rest = st2) (kk : GV X w nL cn sn S' L pc' st2) : GV X w nL cn sn S L pc st := hc h0 hk hM hst hn hdg e hW hR hcs h2 kk
theorem go_S {idx maxL n cn sn : Nat} {cc bytes : ByteArray} {own : String} {y : MethodName} {ret : Option FieldType} {rm rc : Room} {st st2 : List Value} {o : Option Value} (hc : gcS w own idx y bytes maxL ret n) (As rest : List Value) (h0 : CX own cc nL rm X w) (hM : ctN y bytes maxL ret rc w As S o S') (hst : st = As.reverse ++ rest) (hn : As.length = n) (hdg : decode cc pc = .ok (.invokestatic idx, 3)) (e : pc + 3 = pc') (hW : (rest.map fun v => v.category).sum ≤ 8) (hR : rc.cells = 0 ∧ rc.slots = 0 ∧ rc.frames + 1 ≤ rm.frames ∧ 8 + (maxL + 11) + rc.locals ≤ rm.locals) (hcs : cn ≤ rm.cells ∧ sn ≤ rm.slots) (h2 : o.toList ++ rest = st2) (kk : GV X w nL cn sn S' L pc' st2) : GV X w nL cn sn S L pc st := hc h0 hM hst hn hdg e hW hR hcs h2 kk
/-- Math.max and Math.min of ints -/
def jmax (x y : Int32) : Int32 := if x < y then y else x
def jmin (x y : Int32) : Int32 := if y < x then y else x
theorem r_max {idx cn sn : Nat} (h0 : CX own cc nL rm X w) (hl : Cond.methodLink own idx Lib.Math.max.name ∈ GW) (hi : Cond.static Lib.Math.max.name ∈ GW) (hini : Cond.initialized "java/lang/Math" ∈ GW) (hc : Cond.code Lib.Math.max.name Lib.Math.max.code 2 (some .int) ∈ GW) {x y : Int32} (hdg : decode cc pc = .ok (.invokestatic idx, 3)) (e : pc + 3 = pc') (hW : (st.map fun v => v.category).sum ≤ 8) (hR : 1 ≤ rm.frames ∧ 21 ≤ rm.locals) (hcs : cn ≤ rm.cells ∧ sn ≤ rm.slots) (k : GV X w nL cn sn S L pc' (.int (jmax x y) :: st)) : GV X w nL cn sn S L pc (.int y :: .int x :: st) := by
  obtain ⟨p, l, en, R, s, m, args, below, meth, c, Q⟩ := X
  obtain ⟨hx, hb, hml, hown, hts, hK, -, hw, hN, rfl⟩ := h0
  subst e
  intro H locs ls hP hS hls
  exact va_mmax hx hb (by rw [hls.1]; exact hml) hown (hts _ hl) (hts _ hi) (hts _ hini) (hts _ hc) hR.1 (by omega) hcs.1 hcs.2 hdg (k H locs ls hP hS hls)
theorem r_min {idx cn sn : Nat} (h0 : CX own cc nL rm X w) (hl : Cond.methodLink own idx Lib.Math.min.name ∈ GW) (hi : Cond.static Lib.Math.min.name ∈ GW) (hini : Cond.initialized "java/lang/Math" ∈ GW) (hc : Cond.code Lib.Math.min.name Lib.Math.min.code 2 (some .int) ∈ GW) {x y : Int32} (hdg : decode cc pc = .ok (.invokestatic idx, 3)) (e : pc + 3 = pc') (hW : (st.map fun v => v.category).sum ≤ 8) (hR : 1 ≤ rm.frames ∧ 21 ≤ rm.locals) (hcs : cn ≤ rm.cells ∧ sn ≤ rm.slots) (k : GV X w nL cn sn S L pc' (.int (jmin x y) :: st)) : GV X w nL cn sn S L pc (.int y :: .int x :: st) := by
  obtain ⟨p, l, en, R, s, m, args, below, meth, c, Q⟩ := X
  obtain ⟨hx, hb, hml, hown, hts, hK, -, hw, hN, rfl⟩ := h0
  subst e
  intro H locs ls hP hS hls
  exact va_mmin hx hb (by rw [hls.1]; exact hml) hown (hts _ hl) (hts _ hi) (hts _ hini) (hts _ hc) hR.1 (by omega) hcs.1 hcs.2 hdg (k H locs ls hP hS hls)
end RC
end
section
/-! THE LAYOUT: what the objects and arrays of one class instance, and of one model, are: by kind and number. Written by program (wip/whole/gen). -/
abbrev GC : Type := va_G × ClassId × ClassId × (Nat → Nat → Nat)
abbrev clC : List vw_C := [(RX0, TX0, 5), (RX1, TX1, 3), (RX2, TX2, 2), (RX3, TX3, 17), (RX4, TX4, 4), (RX5, TX5, 2), (RX6, TX6, 6), (RX7, TX7, 3)]
def cellC (cI cO : ClassId) (ad : Nat → Nat → Nat) (f : Nat → Int32) (h : Nat → Int64) (c k : Nat) : va_E := match c with
  | 0 => .inr (0, [.ref (ad 1 0), .ref (ad 2 0), .ref (ad 2 1), .ref (ad 2 2), .ref (ad 2 3)])
  | 1 => .inr (1, [.ref (ad 10 0), .int (f 1), .int (f 2)])
  | 2 => .inr (2, [.ref (ad 5 (2 * k)), .ref (ad 5 (2 * k + 1))])
  | 3 => .inr (3, [.ref (ad 11 k), .ref (ad 12 k), .ref (ad 13 k), .ref (ad 14 k), .ref (ad 15 k), .ref (ad 16 k), .ref (ad 4 k), .int (f 7), .int (f 8), .int (f 9), .int (f 10), .int (f 11), .int (f 12), .int (f 13), .int (f 14), .int (f 15), .int (f 16)])
  | 4 => .inr (4, [.ref (ad 17 k), .int (f 1), .int (f 2), .int (f 3)])
  | 5 => .inr (5, [.long (h 0), .long (h 1)])
  | 6 => .inr (6, [.ref (ad 1 0), .int (f 1), .int (f 2), .int (f 3), .int (f 4), .int (f 5)])
  | 7 => .inr (7, [.ref (ad 1 0), .ref (ad 0 0), .ref (ad 6 0)])
  | 10 => .inl (cO, 5, .inr (.inr (.inr (.inr (fun j => some (ad 3 j))))))
  | 11 => .inl (cI, 16, .inl f)
  | 12 => .inl (cI, 4, .inl f)
  | 13 => .inl (cI, 4, .inl f)
  | 14 => .inl (cI, 4, .inl f)
  | 15 => .inl (cI, 4, .inl f)
  | 16 => .inl (cI, 90, .inl f)
  | 17 => .inl (cI, 61, .inl f)
  | _ => .inr (0, [])
def NC (c : Nat) : Nat := match c with
  | 0 => 1
  | 1 => 1
  | 2 => 4
  | 3 => 5
  | 4 => 5
  | 5 => 8
  | 6 => 1
  | 7 => 1
  | 10 => 1
  | 11 => 5
  | 12 => 5
  | 13 => 5
  | 14 => 5
  | 15 => 5
  | 16 => 5
  | 17 => 5
  | _ => 0
def wC (g : GC) : WX := (g.1, clC, [(g.2.1, .int), (g.2.2.1, .object "Greenwave$Junction")], cellC g.2.1 g.2.2.1 g.2.2.2, NC, g.2.2.2)
abbrev GR : Type := va_G × ClassId × ClassId × (Nat → Nat → Nat)
abbrev clR : List vw_C := [(RX8, TX8, 27)]
def cellR (cI cZ : ClassId) (ad : Nat → Nat → Nat) (f : Nat → Int32) (_ : Nat → Int64) (c _ : Nat) : va_E := match c with
  | 8 => .inr (0, [.int (f 0), .int (f 1), .int (f 2), .int (f 3), .ref (ad 20 0), .ref (ad 21 0), .ref (ad 22 0), .ref (ad 23 0), .ref (ad 24 0), .ref (ad 25 0), .ref (ad 26 0), .ref (ad 27 0), .ref (ad 28 0), .ref (ad 29 0), .int (f 14), .int (f 15), .int (f 16), .int (f 17), .ref (ad 30 0), .ref (ad 31 0), .ref (ad 32 0), .ref (ad 33 0), .ref (ad 34 0), .ref (ad 35 0), .ref (ad 36 0), .ref (ad 37 0), .ref (ad 38 0)])
  | 20 => .inl (cI, 80, .inl f)
  | 21 => .inl (cI, 20, .inl f)
  | 22 => .inl (cI, 5, .inl f)
  | 23 => .inl (cI, 20, .inl f)
  | 24 => .inl (cI, 5, .inl f)
  | 25 => .inl (cI, 4, .inl f)
  | 26 => .inl (cI, 4, .inl f)
  | 27 => .inl (cI, 20, .inl f)
  | 28 => .inl (cI, 20, .inl f)
  | 29 => .inl (cZ, 5, .inl f)
  | 30 => .inl (cI, 5, .inl f)
  | 31 => .inl (cI, 5, .inl f)
  | 32 => .inl (cI, 4, .inl f)
  | 33 => .inl (cI, 160, .inl f)
  | 34 => .inl (cZ, 5, .inl f)
  | 35 => .inl (cI, 5, .inl f)
  | 36 => .inl (cI, 5, .inl f)
  | 37 => .inl (cI, 5, .inl f)
  | 38 => .inl (cI, 5, .inl f)
  | _ => .inr (0, [])
def NR (c : Nat) : Nat := match c with
  | 8 => 1
  | 20 => 1
  | 21 => 1
  | 22 => 1
  | 23 => 1
  | 24 => 1
  | 25 => 1
  | 26 => 1
  | 27 => 1
  | 28 => 1
  | 29 => 1
  | 30 => 1
  | 31 => 1
  | 32 => 1
  | 33 => 1
  | 34 => 1
  | 35 => 1
  | 36 => 1
  | 37 => 1
  | 38 => 1
  | _ => 0
def wR (g : GR) : WX := (g.1, clR, [(g.2.1, .int), (g.2.2.1, .boolean)], cellR g.2.1 g.2.2.1 g.2.2.2, NR, g.2.2.2)
def isIA (w : WX) (ck len : Nat) : Prop := ∃ cA : ClassId, (wTy w)[0]? = some (cA, .int) ∧ ∀ (f : Nat → Int32) (h : Nat → Int64) (k : Nat), wCe w f h ck k = .inl (cA, len, .inl f)
def isZA (w : WX) (ck len : Nat) : Prop := ∃ cA : ClassId, (wTy w)[1]? = some (cA, .boolean) ∧ ∀ (f : Nat → Int32) (h : Nat → Int64) (k : Nat), wCe w f h ck k = .inl (cA, len, .inl f)
theorem ia_11 (g : GC) : isIA (wC g) 11 16 := ⟨g.2.1, rfl, fun _ _ _ => rfl⟩
theorem ia_12 (g : GC) : isIA (wC g) 12 4 := ⟨g.2.1, rfl, fun _ _ _ => rfl⟩
theorem ia_13 (g : GC) : isIA (wC g) 13 4 := ⟨g.2.1, rfl, fun _ _ _ => rfl⟩
theorem ia_14 (g : GC) : isIA (wC g) 14 4 := ⟨g.2.1, rfl, fun _ _ _ => rfl⟩
theorem ia_15 (g : GC) : isIA (wC g) 15 4 := ⟨g.2.1, rfl, fun _ _ _ => rfl⟩
theorem ia_16 (g : GC) : isIA (wC g) 16 90 := ⟨g.2.1, rfl, fun _ _ _ => rfl⟩
theorem ia_17 (g : GC) : isIA (wC g) 17 61 := ⟨g.2.1, rfl, fun _ _ _ => rfl⟩
theorem ia_20 (g : GR) : isIA (wR g) 20 80 := ⟨g.2.1, rfl, fun _ _ _ => rfl⟩
theorem ia_21 (g : GR) : isIA (wR g) 21 20 := ⟨g.2.1, rfl, fun _ _ _ => rfl⟩
theorem ia_22 (g : GR) : isIA (wR g) 22 5 := ⟨g.2.1, rfl, fun _ _ _ => rfl⟩
theorem ia_23 (g : GR) : isIA (wR g) 23 20 := ⟨g.2.1, rfl, fun _ _ _ => rfl⟩
theorem ia_24 (g : GR) : isIA (wR g) 24 5 := ⟨g.2.1, rfl, fun _ _ _ => rfl⟩
theorem ia_25 (g : GR) : isIA (wR g) 25 4 := ⟨g.2.1, rfl, fun _ _ _ => rfl⟩
theorem ia_26 (g : GR) : isIA (wR g) 26 4 := ⟨g.2.1, rfl, fun _ _ _ => rfl⟩
theorem ia_27 (g : GR) : isIA (wR g) 27 20 := ⟨g.2.1, rfl, fun _ _ _ => rfl⟩
theorem ia_28 (g : GR) : isIA (wR g) 28 20 := ⟨g.2.1, rfl, fun _ _ _ => rfl⟩
theorem iz_29 (g : GR) : isZA (wR g) 29 5 := ⟨g.2.2.1, rfl, fun _ _ _ => rfl⟩
theorem ia_30 (g : GR) : isIA (wR g) 30 5 := ⟨g.2.1, rfl, fun _ _ _ => rfl⟩
theorem ia_31 (g : GR) : isIA (wR g) 31 5 := ⟨g.2.1, rfl, fun _ _ _ => rfl⟩
theorem ia_32 (g : GR) : isIA (wR g) 32 4 := ⟨g.2.1, rfl, fun _ _ _ => rfl⟩
theorem ia_33 (g : GR) : isIA (wR g) 33 160 := ⟨g.2.1, rfl, fun _ _ _ => rfl⟩
theorem iz_34 (g : GR) : isZA (wR g) 34 5 := ⟨g.2.2.1, rfl, fun _ _ _ => rfl⟩
theorem ia_35 (g : GR) : isIA (wR g) 35 5 := ⟨g.2.1, rfl, fun _ _ _ => rfl⟩
theorem ia_36 (g : GR) : isIA (wR g) 36 5 := ⟨g.2.1, rfl, fun _ _ _ => rfl⟩
theorem ia_37 (g : GR) : isIA (wR g) 37 5 := ⟨g.2.1, rfl, fun _ _ _ => rfl⟩
theorem ia_38 (g : GR) : isIA (wR g) 38 5 := ⟨g.2.1, rfl, fun _ _ _ => rfl⟩
theorem ob_0 (g : GC) : isObj (wC g) RX0 0 := ⟨0, TX0, 5, rfl, fun _ _ _ => ⟨_, rfl⟩⟩
theorem ob_1 (g : GC) : isObj (wC g) RX1 1 := ⟨1, TX1, 3, rfl, fun _ _ _ => ⟨_, rfl⟩⟩
theorem ob_2 (g : GC) : isObj (wC g) RX2 2 := ⟨2, TX2, 2, rfl, fun _ _ _ => ⟨_, rfl⟩⟩
theorem ob_3 (g : GC) : isObj (wC g) RX3 3 := ⟨3, TX3, 17, rfl, fun _ _ _ => ⟨_, rfl⟩⟩
theorem ob_4 (g : GC) : isObj (wC g) RX4 4 := ⟨4, TX4, 4, rfl, fun _ _ _ => ⟨_, rfl⟩⟩
theorem ob_5 (g : GC) : isObj (wC g) RX5 5 := ⟨5, TX5, 2, rfl, fun _ _ _ => ⟨_, rfl⟩⟩
theorem ob_6 (g : GC) : isObj (wC g) RX6 6 := ⟨6, TX6, 6, rfl, fun _ _ _ => ⟨_, rfl⟩⟩
theorem ob_7 (g : GC) : isObj (wC g) RX7 7 := ⟨7, TX7, 3, rfl, fun _ _ _ => ⟨_, rfl⟩⟩
theorem ob_8 (g : GR) : isObj (wR g) RX8 8 := ⟨0, TX8, 27, rfl, fun _ _ _ => ⟨_, rfl⟩⟩
theorem inX0_0 : u_lay RX0 TX0 0 ∈ GW := gw_of (i := 243) (by decide +kernel) (by decide +kernel)
theorem inX0_1 : u_lay RX0 TX0 1 ∈ GW := gw_of (i := 245) (by decide +kernel) (by decide +kernel)
theorem inX0_2 : u_lay RX0 TX0 2 ∈ GW := gw_of (i := 247) (by decide +kernel) (by decide +kernel)
theorem inX0_3 : u_lay RX0 TX0 3 ∈ GW := gw_of (i := 249) (by decide +kernel) (by decide +kernel)
theorem inX0_4 : u_lay RX0 TX0 4 ∈ GW := gw_of (i := 251) (by decide +kernel) (by decide +kernel)
theorem inX0 : ∀ t ∈ u_ws RX0 TX0 5, t ∈ GW := by
  intro t ht
  obtain ⟨j, hj, rfl⟩ := List.mem_map.mp ht
  have hj := List.mem_range.mp hj
  match j, hj with
  | 0, _ => exact inX0_0
  | 1, _ => exact inX0_1
  | 2, _ => exact inX0_2
  | 3, _ => exact inX0_3
  | 4, _ => exact inX0_4
  | j + 5, h => exact absurd h (by omega)
theorem inX1_0 : u_lay RX1 TX1 0 ∈ GW := gw_of (i := 197) (by decide +kernel) (by decide +kernel)
theorem inX1_1 : u_lay RX1 TX1 1 ∈ GW := gw_of (i := 199) (by decide +kernel) (by decide +kernel)
theorem inX1_2 : u_lay RX1 TX1 2 ∈ GW := gw_of (i := 201) (by decide +kernel) (by decide +kernel)
theorem inX1 : ∀ t ∈ u_ws RX1 TX1 3, t ∈ GW := by
  intro t ht
  obtain ⟨j, hj, rfl⟩ := List.mem_map.mp ht
  have hj := List.mem_range.mp hj
  match j, hj with
  | 0, _ => exact inX1_0
  | 1, _ => exact inX1_1
  | 2, _ => exact inX1_2
  | j + 3, h => exact absurd h (by omega)
theorem inX2_0 : u_lay RX2 TX2 0 ∈ GW := gw_of (i := 233) (by decide +kernel) (by decide +kernel)
theorem inX2_1 : u_lay RX2 TX2 1 ∈ GW := gw_of (i := 235) (by decide +kernel) (by decide +kernel)
theorem inX2 : ∀ t ∈ u_ws RX2 TX2 2, t ∈ GW := by
  intro t ht
  obtain ⟨j, hj, rfl⟩ := List.mem_map.mp ht
  have hj := List.mem_range.mp hj
  match j, hj with
  | 0, _ => exact inX2_0
  | 1, _ => exact inX2_1
  | j + 2, h => exact absurd h (by omega)
theorem inX3_0 : u_lay RX3 TX3 0 ∈ GW := gw_of (i := 154) (by decide +kernel) (by decide +kernel)
theorem inX3_1 : u_lay RX3 TX3 1 ∈ GW := gw_of (i := 156) (by decide +kernel) (by decide +kernel)
theorem inX3_2 : u_lay RX3 TX3 2 ∈ GW := gw_of (i := 158) (by decide +kernel) (by decide +kernel)
theorem inX3_3 : u_lay RX3 TX3 3 ∈ GW := gw_of (i := 160) (by decide +kernel) (by decide +kernel)
theorem inX3_4 : u_lay RX3 TX3 4 ∈ GW := gw_of (i := 162) (by decide +kernel) (by decide +kernel)
theorem inX3_5 : u_lay RX3 TX3 5 ∈ GW := gw_of (i := 164) (by decide +kernel) (by decide +kernel)
theorem inX3_6 : u_lay RX3 TX3 6 ∈ GW := gw_of (i := 166) (by decide +kernel) (by decide +kernel)
theorem inX3_7 : u_lay RX3 TX3 7 ∈ GW := gw_of (i := 168) (by decide +kernel) (by decide +kernel)
theorem inX3_8 : u_lay RX3 TX3 8 ∈ GW := gw_of (i := 170) (by decide +kernel) (by decide +kernel)
theorem inX3_9 : u_lay RX3 TX3 9 ∈ GW := gw_of (i := 172) (by decide +kernel) (by decide +kernel)
theorem inX3_10 : u_lay RX3 TX3 10 ∈ GW := gw_of (i := 174) (by decide +kernel) (by decide +kernel)
theorem inX3_11 : u_lay RX3 TX3 11 ∈ GW := gw_of (i := 176) (by decide +kernel) (by decide +kernel)
theorem inX3_12 : u_lay RX3 TX3 12 ∈ GW := gw_of (i := 178) (by decide +kernel) (by decide +kernel)
theorem inX3_13 : u_lay RX3 TX3 13 ∈ GW := gw_of (i := 180) (by decide +kernel) (by decide +kernel)
theorem inX3_14 : u_lay RX3 TX3 14 ∈ GW := gw_of (i := 182) (by decide +kernel) (by decide +kernel)
theorem inX3_15 : u_lay RX3 TX3 15 ∈ GW := gw_of (i := 184) (by decide +kernel) (by decide +kernel)
theorem inX3_16 : u_lay RX3 TX3 16 ∈ GW := gw_of (i := 186) (by decide +kernel) (by decide +kernel)
theorem inX3 : ∀ t ∈ u_ws RX3 TX3 17, t ∈ GW := by
  intro t ht
  obtain ⟨j, hj, rfl⟩ := List.mem_map.mp ht
  have hj := List.mem_range.mp hj
  match j, hj with
  | 0, _ => exact inX3_0
  | 1, _ => exact inX3_1
  | 2, _ => exact inX3_2
  | 3, _ => exact inX3_3
  | 4, _ => exact inX3_4
  | 5, _ => exact inX3_5
  | 6, _ => exact inX3_6
  | 7, _ => exact inX3_7
  | 8, _ => exact inX3_8
  | 9, _ => exact inX3_9
  | 10, _ => exact inX3_10
  | 11, _ => exact inX3_11
  | 12, _ => exact inX3_12
  | 13, _ => exact inX3_13
  | 14, _ => exact inX3_14
  | 15, _ => exact inX3_15
  | 16, _ => exact inX3_16
  | j + 17, h => exact absurd h (by omega)
theorem inX4_0 : u_lay RX4 TX4 0 ∈ GW := gw_of (i := 114) (by decide +kernel) (by decide +kernel)
theorem inX4_1 : u_lay RX4 TX4 1 ∈ GW := gw_of (i := 116) (by decide +kernel) (by decide +kernel)
theorem inX4_2 : u_lay RX4 TX4 2 ∈ GW := gw_of (i := 118) (by decide +kernel) (by decide +kernel)
theorem inX4_3 : u_lay RX4 TX4 3 ∈ GW := gw_of (i := 120) (by decide +kernel) (by decide +kernel)
theorem inX4 : ∀ t ∈ u_ws RX4 TX4 4, t ∈ GW := by
  intro t ht
  obtain ⟨j, hj, rfl⟩ := List.mem_map.mp ht
  have hj := List.mem_range.mp hj
  match j, hj with
  | 0, _ => exact inX4_0
  | 1, _ => exact inX4_1
  | 2, _ => exact inX4_2
  | 3, _ => exact inX4_3
  | j + 4, h => exact absurd h (by omega)
theorem inX5_0 : u_lay RX5 TX5 0 ∈ GW := gw_of (i := 224) (by decide +kernel) (by decide +kernel)
theorem inX5_1 : u_lay RX5 TX5 1 ∈ GW := gw_of (i := 226) (by decide +kernel) (by decide +kernel)
theorem inX5 : ∀ t ∈ u_ws RX5 TX5 2, t ∈ GW := by
  intro t ht
  obtain ⟨j, hj, rfl⟩ := List.mem_map.mp ht
  have hj := List.mem_range.mp hj
  match j, hj with
  | 0, _ => exact inX5_0
  | 1, _ => exact inX5_1
  | j + 2, h => exact absurd h (by omega)
theorem inX6_0 : u_lay RX6 TX6 0 ∈ GW := gw_of (i := 270) (by decide +kernel) (by decide +kernel)
theorem inX6_1 : u_lay RX6 TX6 1 ∈ GW := gw_of (i := 272) (by decide +kernel) (by decide +kernel)
theorem inX6_2 : u_lay RX6 TX6 2 ∈ GW := gw_of (i := 274) (by decide +kernel) (by decide +kernel)
theorem inX6_3 : u_lay RX6 TX6 3 ∈ GW := gw_of (i := 276) (by decide +kernel) (by decide +kernel)
theorem inX6_4 : u_lay RX6 TX6 4 ∈ GW := gw_of (i := 278) (by decide +kernel) (by decide +kernel)
theorem inX6_5 : u_lay RX6 TX6 5 ∈ GW := gw_of (i := 280) (by decide +kernel) (by decide +kernel)
theorem inX6 : ∀ t ∈ u_ws RX6 TX6 6, t ∈ GW := by
  intro t ht
  obtain ⟨j, hj, rfl⟩ := List.mem_map.mp ht
  have hj := List.mem_range.mp hj
  match j, hj with
  | 0, _ => exact inX6_0
  | 1, _ => exact inX6_1
  | 2, _ => exact inX6_2
  | 3, _ => exact inX6_3
  | 4, _ => exact inX6_4
  | 5, _ => exact inX6_5
  | j + 6, h => exact absurd h (by omega)
theorem inX7_0 : u_lay RX7 TX7 0 ∈ GW := gw_of (i := 425) (by decide +kernel) (by decide +kernel)
theorem inX7_1 : u_lay RX7 TX7 1 ∈ GW := gw_of (i := 427) (by decide +kernel) (by decide +kernel)
theorem inX7_2 : u_lay RX7 TX7 2 ∈ GW := gw_of (i := 429) (by decide +kernel) (by decide +kernel)
theorem inX7 : ∀ t ∈ u_ws RX7 TX7 3, t ∈ GW := by
  intro t ht
  obtain ⟨j, hj, rfl⟩ := List.mem_map.mp ht
  have hj := List.mem_range.mp hj
  match j, hj with
  | 0, _ => exact inX7_0
  | 1, _ => exact inX7_1
  | 2, _ => exact inX7_2
  | j + 3, h => exact absurd h (by omega)
theorem inX8_0 : u_lay RX8 TX8 0 ∈ GW := gw_of (i := 946) (by decide +kernel) (by decide +kernel)
theorem inX8_1 : u_lay RX8 TX8 1 ∈ GW := gw_of (i := 948) (by decide +kernel) (by decide +kernel)
theorem inX8_2 : u_lay RX8 TX8 2 ∈ GW := gw_of (i := 950) (by decide +kernel) (by decide +kernel)
theorem inX8_3 : u_lay RX8 TX8 3 ∈ GW := gw_of (i := 952) (by decide +kernel) (by decide +kernel)
theorem inX8_4 : u_lay RX8 TX8 4 ∈ GW := gw_of (i := 954) (by decide +kernel) (by decide +kernel)
theorem inX8_5 : u_lay RX8 TX8 5 ∈ GW := gw_of (i := 956) (by decide +kernel) (by decide +kernel)
theorem inX8_6 : u_lay RX8 TX8 6 ∈ GW := gw_of (i := 958) (by decide +kernel) (by decide +kernel)
theorem inX8_7 : u_lay RX8 TX8 7 ∈ GW := gw_of (i := 960) (by decide +kernel) (by decide +kernel)
theorem inX8_8 : u_lay RX8 TX8 8 ∈ GW := gw_of (i := 962) (by decide +kernel) (by decide +kernel)
theorem inX8_9 : u_lay RX8 TX8 9 ∈ GW := gw_of (i := 964) (by decide +kernel) (by decide +kernel)
theorem inX8_10 : u_lay RX8 TX8 10 ∈ GW := gw_of (i := 966) (by decide +kernel) (by decide +kernel)
theorem inX8_11 : u_lay RX8 TX8 11 ∈ GW := gw_of (i := 968) (by decide +kernel) (by decide +kernel)
theorem inX8_12 : u_lay RX8 TX8 12 ∈ GW := gw_of (i := 970) (by decide +kernel) (by decide +kernel)
theorem inX8_13 : u_lay RX8 TX8 13 ∈ GW := gw_of (i := 972) (by decide +kernel) (by decide +kernel)
theorem inX8_14 : u_lay RX8 TX8 14 ∈ GW := gw_of (i := 974) (by decide +kernel) (by decide +kernel)
theorem inX8_15 : u_lay RX8 TX8 15 ∈ GW := gw_of (i := 976) (by decide +kernel) (by decide +kernel)
theorem inX8_16 : u_lay RX8 TX8 16 ∈ GW := gw_of (i := 978) (by decide +kernel) (by decide +kernel)
theorem inX8_17 : u_lay RX8 TX8 17 ∈ GW := gw_of (i := 980) (by decide +kernel) (by decide +kernel)
theorem inX8_18 : u_lay RX8 TX8 18 ∈ GW := gw_of (i := 982) (by decide +kernel) (by decide +kernel)
theorem inX8_19 : u_lay RX8 TX8 19 ∈ GW := gw_of (i := 984) (by decide +kernel) (by decide +kernel)
theorem inX8_20 : u_lay RX8 TX8 20 ∈ GW := gw_of (i := 986) (by decide +kernel) (by decide +kernel)
theorem inX8_21 : u_lay RX8 TX8 21 ∈ GW := gw_of (i := 988) (by decide +kernel) (by decide +kernel)
theorem inX8_22 : u_lay RX8 TX8 22 ∈ GW := gw_of (i := 990) (by decide +kernel) (by decide +kernel)
theorem inX8_23 : u_lay RX8 TX8 23 ∈ GW := gw_of (i := 992) (by decide +kernel) (by decide +kernel)
theorem inX8_24 : u_lay RX8 TX8 24 ∈ GW := gw_of (i := 994) (by decide +kernel) (by decide +kernel)
theorem inX8_25 : u_lay RX8 TX8 25 ∈ GW := gw_of (i := 996) (by decide +kernel) (by decide +kernel)
theorem inX8_26 : u_lay RX8 TX8 26 ∈ GW := gw_of (i := 998) (by decide +kernel) (by decide +kernel)
theorem inX8 : ∀ t ∈ u_ws RX8 TX8 27, t ∈ GW := by
  intro t ht
  obtain ⟨j, hj, rfl⟩ := List.mem_map.mp ht
  have hj := List.mem_range.mp hj
  match j, hj with
  | 0, _ => exact inX8_0
  | 1, _ => exact inX8_1
  | 2, _ => exact inX8_2
  | 3, _ => exact inX8_3
  | 4, _ => exact inX8_4
  | 5, _ => exact inX8_5
  | 6, _ => exact inX8_6
  | 7, _ => exact inX8_7
  | 8, _ => exact inX8_8
  | 9, _ => exact inX8_9
  | 10, _ => exact inX8_10
  | 11, _ => exact inX8_11
  | 12, _ => exact inX8_12
  | 13, _ => exact inX8_13
  | 14, _ => exact inX8_14
  | 15, _ => exact inX8_15
  | 16, _ => exact inX8_16
  | 17, _ => exact inX8_17
  | 18, _ => exact inX8_18
  | 19, _ => exact inX8_19
  | 20, _ => exact inX8_20
  | 21, _ => exact inX8_21
  | 22, _ => exact inX8_22
  | 23, _ => exact inX8_23
  | 24, _ => exact inX8_24
  | 25, _ => exact inX8_25
  | 26, _ => exact inX8_26
  | j + 27, h => exact absurd h (by omega)
theorem nbz {v : Int32} (h : nb v = v) : narrow .boolean (.int v) = .int v := congrArg Value.int h
theorem inb_lt {i : Int32} {n : Nat} (h : inb i n = true) : i.toNatClampNeg < n := Nat.not_le.mp fun q => inb_in h (Or.inr q)
section RAA
variable {own : String} {cc : ByteArray} {nL : Nat} {rm : Room} {X : MX} {w : WX} {cn sn : Nat} {S : Mem} {L : List (Nat × Value)} {pc pc' : Nat} {st : List Value} {α : Type} {A : Option α} {z : α} {ck k n : Nat}
theorem r_alenA (h0 : CX own cc nL rm X w) (ha : isIA w ck n) (hk : k < wN w ck) (hdg : decode cc pc = .ok (.arraylength, 1)) (e : pc + 1 = pc') (kk : GV X w nL cn sn S L pc' (.int (nI n) :: st)) : GV X w nL cn sn S L pc (.ref (wA w ck k) :: st) := by
  obtain ⟨cA, h1, h2⟩ := ha
  exact r_alen h0 0 hk (h2 _ _ _) h1 rfl hdg e kk
theorem r_ialdA (h0 : CX own cc nL rm X w) (ha : isIA w ck n) (hk : k < wN w ck) {i : Int32} (hdg : decode cc pc = .ok (.iaload, 1)) (e : pc + 1 = pc') (h : gd (inb i n) A = some z) (kk : A = some z → GV X w nL cn sn S L pc' (.int (S.1 ck k i.toNatClampNeg) :: st)) : GV X w nL cn sn S L pc (.int i :: .ref (wA w ck k) :: st) := by
  obtain ⟨cA, h1, h2⟩ := ha
  exact r_iald h0 0 hk (h2 _ _ _) h1 hdg e h kk
theorem r_zaldA (h0 : CX own cc nL rm X w) (ha : isZA w ck n) (hk : k < wN w ck) {i : Int32} (hdg : decode cc pc = .ok (.baload, 1)) (e : pc + 1 = pc') (h : gd (inb i n) A = some z) (kk : A = some z → GV X w nL cn sn S L pc' (.int (S.1 ck k i.toNatClampNeg) :: st)) : GV X w nL cn sn S L pc (.int i :: .ref (wA w ck k) :: st) := by
  obtain ⟨cA, h1, h2⟩ := ha
  exact r_zald h0 1 hk (h2 _ _ _) h1 hdg e h kk
theorem r_iastA (h0 : CX own cc nL rm X w) (ha : isIA w ck n) (hk : k < wN w ck) {i x : Int32} (hdg : decode cc pc = .ok (.iastore, 1)) (e : pc + 1 = pc') (h : gd (inb i n) A = some z) (kk : A = some z → GV X w nL cn sn (wI S ck k i.toNatClampNeg x) L pc' st) : GV X w nL cn sn S L pc (.int x :: .int i :: .ref (wA w ck k) :: st) := by
  obtain ⟨cA, h1, h2⟩ := ha
  exact r_iast h0 0 hk (fun f g => h2 f g k) h1 hdg e h kk
theorem r_zastA (h0 : CX own cc nL rm X w) (ha : isZA w ck n) (hk : k < wN w ck) {i x : Int32} (hdg : decode cc pc = .ok (.bastore, 1)) (e : pc + 1 = pc') (h : gd (inb i n) A = some z) (kk : A = some z → GV X w nL cn sn (wI S ck k i.toNatClampNeg (nb x)) L pc' st) : GV X w nL cn sn S L pc (.int x :: .int i :: .ref (wA w ck k) :: st) := by
  obtain ⟨cA, h1, h2⟩ := ha
  exact r_zast h0 1 hk (fun f g => h2 f g k) h1 hdg e h kk
end RAA
theorem kb_8 : (Int8.ofInt (8)).toInt32 = (8 : Int32) := by decide
theorem kb_9 : (Int8.ofInt (9)).toInt32 = (9 : Int32) := by decide
theorem kb_10 : (Int8.ofInt (10)).toInt32 = (10 : Int32) := by decide
theorem kb_12 : (Int8.ofInt (12)).toInt32 = (12 : Int32) := by decide
theorem kb_15 : (Int8.ofInt (15)).toInt32 = (15 : Int32) := by decide
theorem kb_16 : (Int8.ofInt (16)).toInt32 = (16 : Int32) := by decide
theorem kb_20 : (Int8.ofInt (20)).toInt32 = (20 : Int32) := by decide
theorem kb_30 : (Int8.ofInt (30)).toInt32 = (30 : Int32) := by decide
theorem kb_32 : (Int8.ofInt (32)).toInt32 = (32 : Int32) := by decide
theorem kb_40 : (Int8.ofInt (40)).toInt32 = (40 : Int32) := by decide
theorem kb_60 : (Int8.ofInt (60)).toInt32 = (60 : Int32) := by decide
theorem kb_61 : (Int8.ofInt (61)).toInt32 = (61 : Int32) := by decide
theorem kb_63 : (Int8.ofInt (63)).toInt32 = (63 : Int32) := by decide
theorem kb_64 : (Int8.ofInt (64)).toInt32 = (64 : Int32) := by decide
theorem kb_80 : (Int8.ofInt (80)).toInt32 = (80 : Int32) := by decide
theorem kb_90 : (Int8.ofInt (90)).toInt32 = (90 : Int32) := by decide
theorem kb_127 : (Int8.ofInt (127)).toInt32 = (127 : Int32) := by decide
theorem ki_m1 : Int32.ofInt (-1) = (-1 : Int32) := by decide
theorem ki_0 : Int32.ofInt (0) = (0 : Int32) := by decide
theorem ki_1 : Int32.ofInt (1) = (1 : Int32) := by decide
theorem ki_2 : Int32.ofInt (2) = (2 : Int32) := by decide
theorem ki_3 : Int32.ofInt (3) = (3 : Int32) := by decide
theorem ki_4 : Int32.ofInt (4) = (4 : Int32) := by decide
theorem ki_5 : Int32.ofInt (5) = (5 : Int32) := by decide
theorem ks_600 : (Int16.ofInt (600)).toInt32 = (600 : Int32) := by decide
theorem ks_1800 : (Int16.ofInt (1800)).toInt32 = (1800 : Int32) := by decide
theorem ks_3600 : (Int16.ofInt (3600)).toInt32 = (3600 : Int32) := by decide
theorem ks_7200 : (Int16.ofInt (7200)).toInt32 = (7200 : Int32) := by decide
end
section
def f_X3_hasBusIn_13 (fu : Nat) (k : Nat) (x1 : Int32) (S : Mem) (t0 : Int32) : Option Int32 :=
  some (nb t0)
def f_X3_hasBusIn (fu : Nat) (k : Nat) (x1 : Int32) (S : Mem) : Option Int32 :=
  (if (S.1 3 k 13) ≤ x1 then f_X3_hasBusIn_13 fu k x1 S 0 else f_X3_hasBusIn_13 fu k x1 S 1)
def f_X7_modulo_21 (fu : Nat) (x0 : Int32) (x1 : Int32) (S : Mem) (t0 : Int32) : Option Int32 :=
  some t0
def f_X7_modulo (fu : Nat) (x0 : Int32) (x1 : Int32) (S : Mem) : Option Int32 :=
  (if (0 : Int32) < x1 then gd (!(x1 == 0)) ((if (0 : Int32) ≤ (x0 - x0 / x1 * x1) then f_X7_modulo_21 fu x0 x1 S (x0 - x0 / x1 * x1) else f_X7_modulo_21 fu x0 x1 S ((x0 - x0 / x1 * x1) + x1))) else some 0)
def f_X3_placeInCycle (fu : Nat) (k : Nat) (x1 : Int32) (S : Mem) : Option Int32 :=
  b1 (f_X7_modulo fu (x1 - (S.1 3 k 9)) (S.1 3 k 8) S) (fun r10 => some r10)
def f_X7_read_17 (fu : Nat) (ck len k : Nat) (x1 : Int32) (S : Mem) (t0 : Int32) : Option Int32 :=
  some t0
def f_X7_read_16 (fu : Nat) (ck len k : Nat) (x1 : Int32) (S : Mem)  : Option Int32 :=
  f_X7_read_17 fu ck len k x1 S 0
def f_X7_read (fu : Nat) (ck len k : Nat) (x1 : Int32) (S : Mem) : Option Int32 :=
  (if x1 < 0 then f_X7_read_16 fu ck len k x1 S else (if (nI len) ≤ x1 then f_X7_read_16 fu ck len k x1 S else gd (inb x1 len) (f_X7_read_17 fu ck len k x1 S (S.1 ck k (x1 : Int32).toNatClampNeg))))
def f_X3_changedGreen_32 (fu : Nat) (k : Nat) (x1 : Int32) (S : Mem) (t0 : Int32) : Option Int32 :=
  b1 (f_X7_read fu 14 4 k x1 S) (fun r38 => some (r38 + t0))
def f_X3_changedGreen (fu : Nat) (k : Nat) (x1 : Int32) (S : Mem) : Option Int32 :=
  (if x1 = (S.1 3 k 15) then f_X3_changedGreen_32 fu k x1 S (S.1 3 k 16) else (if x1 = (S.1 3 k 14) then f_X3_changedGreen_32 fu k x1 S (-(S.1 3 k 16)) else f_X3_changedGreen_32 fu k x1 S 0))
def f_X3_phaseIn_46 (fu : Nat) (K15 : Int32 → Int32 → Int32 → Option Int32) (k : Nat) (x1 : Int32) (S : Mem) (x2 : Int32) (x3 : Int32) (x4 : Int32) (t0 : Int32) : Option Int32 :=
  (if t0 ≤ x3 then b1 (f_X7_read fu 15 4 k x4 S) (fun r69 => (if r69 ≤ (x3 - t0) then b1 (f_X7_read fu 15 4 k x4 S) (fun r84 => K15 x2 ((x3 - t0) - r84) (x4 + 1)) else some (-1))) else some x4)
def f_X3_phaseIn_15 (fu : Nat) (k : Nat) (x1 : Int32) (S : Mem) : Nat → Int32 → Int32 → Int32 → Option Int32
  | 0, _, _, _ => none
  | n + 1, x2, x3, x4 => (if (S.1 3 k 7) ≤ x4 then some (-1) else (if x2 = 0 then b1 (f_X7_read fu 14 4 k x4 S) (fun r43 => f_X3_phaseIn_46 fu (f_X3_phaseIn_15 fu k x1 S n) k x1 S x2 x3 x4 r43) else b1 (f_X3_changedGreen fu k x4 S) (fun r31 => f_X3_phaseIn_46 fu (f_X3_phaseIn_15 fu k x1 S n) k x1 S x2 x3 x4 r31)))
def f_X3_phaseIn (fu : Nat) (k : Nat) (x1 : Int32) (S : Mem) : Option Int32 :=
  b1 (f_X3_hasBusIn fu k x1 S) (fun r2 => b1 (f_X3_placeInCycle fu k x1 S) (fun r8 => f_X3_phaseIn_15 fu k x1 S fu r2 r8 0))
end
section
theorem v_150 : Cond.fieldLink RX3 50 RX3 "busCycleEnd" "I" ∈ GW := gw_of (i := 150) (by decide +kernel) (by decide +kernel)
theorem gf_X3_50 {cc : ByteArray} {nL : Nat} {rm : Room} {X : MX} {g : GC} {cn sn : Nat} {S : Mem} {L : List (Nat × Value)} {pc pc' : Nat} {st : List Value} {k : Nat} (h0 : CX RX3 cc nL rm X (wC g)) (hk : k < 5) (hdg : decode cc pc = .ok (.getfield 50, 3)) (e : pc + 3 = pc') (kk : GV X (wC g) nL cn sn S L pc' (.int (S.1 3 k 13) :: st)) : GV X (wC g) nL cn sn S L pc (.ref (wA (wC g) 3 k) :: st) :=
  r_get (T := TX3) h0 hk rfl rfl inX3 13 (by decide) v_150 rfl rfl hdg e kk
theorem v_138 : Cond.fieldLink RX3 41 RX3 "start" "I" ∈ GW := gw_of (i := 138) (by decide +kernel) (by decide +kernel)
theorem gf_X3_41 {cc : ByteArray} {nL : Nat} {rm : Room} {X : MX} {g : GC} {cn sn : Nat} {S : Mem} {L : List (Nat × Value)} {pc pc' : Nat} {st : List Value} {k : Nat} (h0 : CX RX3 cc nL rm X (wC g)) (hk : k < 5) (hdg : decode cc pc = .ok (.getfield 41, 3)) (e : pc + 3 = pc') (kk : GV X (wC g) nL cn sn S L pc' (.int (S.1 3 k 9) :: st)) : GV X (wC g) nL cn sn S L pc (.ref (wA (wC g) 3 k) :: st) :=
  r_get (T := TX3) h0 hk rfl rfl inX3 9 (by decide) v_138 rfl rfl hdg e kk
theorem v_137 : Cond.fieldLink RX3 37 RX3 "cycle" "I" ∈ GW := gw_of (i := 137) (by decide +kernel) (by decide +kernel)
theorem gf_X3_37 {cc : ByteArray} {nL : Nat} {rm : Room} {X : MX} {g : GC} {cn sn : Nat} {S : Mem} {L : List (Nat × Value)} {pc pc' : Nat} {st : List Value} {k : Nat} (h0 : CX RX3 cc nL rm X (wC g)) (hk : k < 5) (hdg : decode cc pc = .ok (.getfield 37, 3)) (e : pc + 3 = pc') (kk : GV X (wC g) nL cn sn S L pc' (.int (S.1 3 k 8) :: st)) : GV X (wC g) nL cn sn S L pc (.ref (wA (wC g) 3 k) :: st) :=
  r_get (T := TX3) h0 hk rfl rfl inX3 8 (by decide) v_137 rfl rfl hdg e kk
theorem v_640 : Cond.methodLinkNest RX3 134 yX7_modulo "Greenwave" ∈ NW := nw_of (i := 640) (by decide +kernel) (by decide +kernel)
theorem v_642 : Cond.code yX7_modulo cX7_modulo 3 (some .int) ∈ GW := gw_of (i := 642) (by decide +kernel) (by decide +kernel)
theorem v_60 : Cond.initialized RX7 ∈ GW := gw_of (i := 60) (by decide +kernel) (by decide +kernel)
theorem v_641 : Cond.static yX7_modulo ∈ GW := gw_of (i := 641) (by decide +kernel) (by decide +kernel)
theorem k_X3_134 (g : GC) : gcS (wC g) RX3 134 yX7_modulo cX7_modulo 3 (some .int) 2 := mkSN v_640 v_641 v_642 v_60 ⟨by decide +kernel, by decide +kernel, by decide +kernel⟩
theorem v_152 : Cond.fieldLink RX3 56 RX3 "taker" "I" ∈ GW := gw_of (i := 152) (by decide +kernel) (by decide +kernel)
theorem gf_X3_56 {cc : ByteArray} {nL : Nat} {rm : Room} {X : MX} {g : GC} {cn sn : Nat} {S : Mem} {L : List (Nat × Value)} {pc pc' : Nat} {st : List Value} {k : Nat} (h0 : CX RX3 cc nL rm X (wC g)) (hk : k < 5) (hdg : decode cc pc = .ok (.getfield 56, 3)) (e : pc + 3 = pc') (kk : GV X (wC g) nL cn sn S L pc' (.int (S.1 3 k 15) :: st)) : GV X (wC g) nL cn sn S L pc (.ref (wA (wC g) 3 k) :: st) :=
  r_get (T := TX3) h0 hk rfl rfl inX3 15 (by decide) v_152 rfl rfl hdg e kk
theorem v_151 : Cond.fieldLink RX3 53 RX3 "giver" "I" ∈ GW := gw_of (i := 151) (by decide +kernel) (by decide +kernel)
theorem gf_X3_53 {cc : ByteArray} {nL : Nat} {rm : Room} {X : MX} {g : GC} {cn sn : Nat} {S : Mem} {L : List (Nat × Value)} {pc pc' : Nat} {st : List Value} {k : Nat} (h0 : CX RX3 cc nL rm X (wC g)) (hk : k < 5) (hdg : decode cc pc = .ok (.getfield 53, 3)) (e : pc + 3 = pc') (kk : GV X (wC g) nL cn sn S L pc' (.int (S.1 3 k 14) :: st)) : GV X (wC g) nL cn sn S L pc (.ref (wA (wC g) 3 k) :: st) :=
  r_get (T := TX3) h0 hk rfl rfl inX3 14 (by decide) v_151 rfl rfl hdg e kk
theorem v_153 : Cond.fieldLink RX3 59 RX3 "given" "I" ∈ GW := gw_of (i := 153) (by decide +kernel) (by decide +kernel)
theorem gf_X3_59 {cc : ByteArray} {nL : Nat} {rm : Room} {X : MX} {g : GC} {cn sn : Nat} {S : Mem} {L : List (Nat × Value)} {pc pc' : Nat} {st : List Value} {k : Nat} (h0 : CX RX3 cc nL rm X (wC g)) (hk : k < 5) (hdg : decode cc pc = .ok (.getfield 59, 3)) (e : pc + 3 = pc') (kk : GV X (wC g) nL cn sn S L pc' (.int (S.1 3 k 16) :: st)) : GV X (wC g) nL cn sn S L pc (.ref (wA (wC g) 3 k) :: st) :=
  r_get (T := TX3) h0 hk rfl rfl inX3 16 (by decide) v_153 rfl rfl hdg e kk
theorem v_127 : Cond.fieldLink RX3 21 RX3 "greens" "[I" ∈ GW := gw_of (i := 127) (by decide +kernel) (by decide +kernel)
theorem gf_X3_21 {cc : ByteArray} {nL : Nat} {rm : Room} {X : MX} {g : GC} {cn sn : Nat} {S : Mem} {L : List (Nat × Value)} {pc pc' : Nat} {st : List Value} {k : Nat} (h0 : CX RX3 cc nL rm X (wC g)) (hk : k < 5) (hdg : decode cc pc = .ok (.getfield 21, 3)) (e : pc + 3 = pc') (kk : GV X (wC g) nL cn sn S L pc' (.ref (wA (wC g) 14 k) :: st)) : GV X (wC g) nL cn sn S L pc (.ref (wA (wC g) 3 k) :: st) :=
  r_get (T := TX3) h0 hk rfl rfl inX3 3 (by decide) v_127 rfl rfl hdg e kk
theorem v_386 : Cond.methodLinkNest RX3 82 yX7_read "Greenwave" ∈ NW := nw_of (i := 386) (by decide +kernel) (by decide +kernel)
theorem v_388 : Cond.code yX7_read cX7_read 2 (some .int) ∈ GW := gw_of (i := 388) (by decide +kernel) (by decide +kernel)
theorem v_387 : Cond.static yX7_read ∈ GW := gw_of (i := 387) (by decide +kernel) (by decide +kernel)
theorem k_X3_82 (g : GC) : gcS (wC g) RX3 82 yX7_read cX7_read 2 (some .int) 2 := mkSN v_386 v_387 v_388 v_60 ⟨by decide +kernel, by decide +kernel, by decide +kernel⟩
theorem v_826 : Cond.methodLink RX3 147 yX3_hasBusIn ∈ GW := gw_of (i := 826) (by decide +kernel) (by decide +kernel)
theorem v_829 : Cond.code yX3_hasBusIn cX3_hasBusIn 2 (some .boolean) ∈ GW := gw_of (i := 829) (by decide +kernel) (by decide +kernel)
theorem v_62 : Cond.initialized RX3 ∈ GW := gw_of (i := 62) (by decide +kernel) (by decide +kernel)
theorem v_827 : Cond.instanceMethod yX3_hasBusIn ∈ GW := gw_of (i := 827) (by decide +kernel) (by decide +kernel)
theorem v_828 : Cond.selects RX3 yX3_hasBusIn yX3_hasBusIn ∈ GW := gw_of (i := 828) (by decide +kernel) (by decide +kernel)
theorem k_X3_147 (g : GC) : gcV (wC g) RX3 147 3 yX3_hasBusIn cX3_hasBusIn 2 (some .boolean) 1 := mkV (ob_3 g) v_826 v_827 v_828 v_829 v_62 ⟨by decide +kernel, by decide +kernel, by decide +kernel⟩
theorem v_830 : Cond.methodLink RX3 150 yX3_placeInCycle ∈ GW := gw_of (i := 830) (by decide +kernel) (by decide +kernel)
theorem v_833 : Cond.code yX3_placeInCycle cX3_placeInCycle 2 (some .int) ∈ GW := gw_of (i := 833) (by decide +kernel) (by decide +kernel)
theorem v_832 : Cond.instanceMethod yX3_placeInCycle ∈ GW := gw_of (i := 832) (by decide +kernel) (by decide +kernel)
theorem v_22 : Cond.selects RX3 yX3_placeInCycle yX3_placeInCycle ∈ GW := gw_of (i := 22) (by decide +kernel) (by decide +kernel)
theorem k_X3_150 (g : GC) : gcV (wC g) RX3 150 3 yX3_placeInCycle cX3_placeInCycle 2 (some .int) 1 := mkV (ob_3 g) v_830 v_832 v_22 v_833 v_62 ⟨by decide +kernel, by decide +kernel, by decide +kernel⟩
theorem v_136 : Cond.fieldLink RX3 90 RX3 "phases" "I" ∈ GW := gw_of (i := 136) (by decide +kernel) (by decide +kernel)
theorem gf_X3_90 {cc : ByteArray} {nL : Nat} {rm : Room} {X : MX} {g : GC} {cn sn : Nat} {S : Mem} {L : List (Nat × Value)} {pc pc' : Nat} {st : List Value} {k : Nat} (h0 : CX RX3 cc nL rm X (wC g)) (hk : k < 5) (hdg : decode cc pc = .ok (.getfield 90, 3)) (e : pc + 3 = pc') (kk : GV X (wC g) nL cn sn S L pc' (.int (S.1 3 k 7) :: st)) : GV X (wC g) nL cn sn S L pc (.ref (wA (wC g) 3 k) :: st) :=
  r_get (T := TX3) h0 hk rfl rfl inX3 7 (by decide) v_136 rfl rfl hdg e kk
theorem v_834 : Cond.methodLink RX3 153 yX3_changedGreen ∈ GW := gw_of (i := 834) (by decide +kernel) (by decide +kernel)
theorem v_837 : Cond.code yX3_changedGreen cX3_changedGreen 3 (some .int) ∈ GW := gw_of (i := 837) (by decide +kernel) (by decide +kernel)
theorem v_836 : Cond.instanceMethod yX3_changedGreen ∈ GW := gw_of (i := 836) (by decide +kernel) (by decide +kernel)
theorem v_23 : Cond.selects RX3 yX3_changedGreen yX3_changedGreen ∈ GW := gw_of (i := 23) (by decide +kernel) (by decide +kernel)
theorem k_X3_153 (g : GC) : gcV (wC g) RX3 153 3 yX3_changedGreen cX3_changedGreen 3 (some .int) 1 := mkV (ob_3 g) v_834 v_836 v_23 v_837 v_62 ⟨by decide +kernel, by decide +kernel, by decide +kernel⟩
theorem v_129 : Cond.fieldLink RX3 24 RX3 "clearings" "[I" ∈ GW := gw_of (i := 129) (by decide +kernel) (by decide +kernel)
theorem gf_X3_24 {cc : ByteArray} {nL : Nat} {rm : Room} {X : MX} {g : GC} {cn sn : Nat} {S : Mem} {L : List (Nat × Value)} {pc pc' : Nat} {st : List Value} {k : Nat} (h0 : CX RX3 cc nL rm X (wC g)) (hk : k < 5) (hdg : decode cc pc = .ok (.getfield 24, 3)) (e : pc + 3 = pc') (kk : GV X (wC g) nL cn sn S L pc' (.ref (wA (wC g) 15 k) :: st)) : GV X (wC g) nL cn sn S L pc (.ref (wA (wC g) 3 k) :: st) :=
  r_get (T := TX3) h0 hk rfl rfl inX3 4 (by decide) v_129 rfl rfl hdg e kk
abbrev rm_X3_hasBusIn : Room := { frames := 0, cells := 0, slots := 0, locals := 0 }
abbrev rm_X7_modulo : Room := { frames := 0, cells := 0, slots := 0, locals := 0 }
abbrev rm_X3_placeInCycle : Room := { frames := 1, cells := 0, slots := 0, locals := 22 }
abbrev rm_X7_read : Room := { frames := 0, cells := 0, slots := 0, locals := 0 }
abbrev rm_X3_changedGreen : Room := { frames := 1, cells := 0, slots := 0, locals := 21 }
abbrev rm_X3_phaseIn : Room := { frames := 2, cells := 0, slots := 0, locals := 43 }
theorem w_X3_hasBusIn_13 {g : GC} {X : MX} {r : Int32}  (h0 : CX RX3 cX3_hasBusIn 2 rm_X3_hasBusIn X (wC g)) (fu : Nat) (k : Nat) (hk : k < 5) (x1 : Int32) (S : Mem) (hE : EN (some .boolean) (some (.int r)) S X (wC g)) : ∀ (t0 : Int32), f_X3_hasBusIn_13 fu k x1 S t0 = some r → GV X (wC g) 2 0 0 S [] 13 [.int t0] := by
  intro t0 h
  rw [f_X3_hasBusIn_13] at h
  exact r_zretR h0 hE dX3_hasBusIn_13 h
/-- the machine does what f_X3_hasBusIn says -/
theorem c_X3_hasBusIn (g : GC) (fu : Nat) (k : Nat) (hk : k < 5) (x1 : Int32) (S : Mem) {r : Int32}  (h : f_X3_hasBusIn fu k x1 S = some r) : ctN yX3_hasBusIn cX3_hasBusIn 2 (some .boolean) rm_X3_hasBusIn (wC g) [.ref (wA (wC g) 3 k), .int x1] S (some (.int r)) S := by
  refine ct_of (own := RX3) (L := [(0, .ref (wA (wC g) 3 k)), (1, .int x1)]) (by decide +kernel) rfl (Nat.le_of_ble_eq_true rfl) rfl (fun X h0 hE => ?_)
  rw [f_X3_hasBusIn] at h
  refine r_iload_n (pc' := 1) h0 1 dX3_hasBusIn_0 rfl rfl rfl ?_
  refine r_aload_n (pc' := 2) h0 0 dX3_hasBusIn_1 rfl rfl rfl ?_
  refine gf_X3_50 (pc' := 5) h0 hk dX3_hasBusIn_2 rfl ?_
  refine r_ic_ge (pt := 12) (pf := 8) h0 dX3_hasBusIn_5 rfl rfl h (fun c5 h => ?_) (fun c5 h => ?_)
  · refine r_iconst (pc' := 13) h0 dX3_hasBusIn_12 ki_0 rfl ?_
    refine r_sub (L' := []) [] rfl ?_
    exact w_X3_hasBusIn_13 h0 fu k hk x1 S hE 0 h
  · refine r_iconst (pc' := 9) h0 dX3_hasBusIn_8 ki_1 rfl ?_
    refine r_goto (pc' := 13) h0 dX3_hasBusIn_9 rfl ?_
    refine r_sub (L' := []) [] rfl ?_
    exact w_X3_hasBusIn_13 h0 fu k hk x1 S hE 1 h
theorem w_X7_modulo_21 {g : GC} {X : MX} {r : Int32}  (h0 : CX RX7 cX7_modulo 3 rm_X7_modulo X (wC g)) (fu : Nat) (x0 : Int32) (x1 : Int32) (S : Mem) (hE : EN (some .int) (some (.int r)) S X (wC g)) : ∀ (t0 : Int32), f_X7_modulo_21 fu x0 x1 S t0 = some r → GV X (wC g) 3 0 0 S [] 21 [.int t0] := by
  intro t0 h
  rw [f_X7_modulo_21] at h
  exact r_iretR h0 hE dX7_modulo_21 h
/-- the machine does what f_X7_modulo says -/
theorem c_X7_modulo (g : GC) (fu : Nat) (x0 : Int32) (x1 : Int32) (S : Mem) {r : Int32}  (h : f_X7_modulo fu x0 x1 S = some r) : ctN yX7_modulo cX7_modulo 3 (some .int) rm_X7_modulo (wC g) [.int x0, .int x1] S (some (.int r)) S := by
  refine ct_of (own := RX7) (L := [(0, .int x0), (1, .int x1)]) (by decide +kernel) rfl (Nat.le_of_ble_eq_true rfl) rfl (fun X h0 hE => ?_)
  rw [f_X7_modulo] at h
  refine r_iload_n (pc' := 1) h0 1 dX7_modulo_0 rfl rfl rfl ?_
  refine r_if_gt (pt := 6) (pf := 4) h0 dX7_modulo_1 rfl rfl h (fun c1 h => ?_) (fun c1 h => ?_)
  · refine r_iload_n (pc' := 7) h0 0 dX7_modulo_6 rfl rfl rfl ?_
    refine r_iload_n (pc' := 8) h0 1 dX7_modulo_7 rfl rfl rfl ?_
    refine r_irem (pc' := 9) h0 dX7_modulo_8 rfl h (fun h => ?_)
    refine r_istore_n (pc' := 10) (L' := [(2, .int (x0 - x0 / x1 * x1)), (0, .int x0), (1, .int x1)]) h0 dX7_modulo_9 rfl (Nat.le_of_ble_eq_true rfl) rfl rfl ?_
    refine r_iload_n (pc' := 11) h0 0 dX7_modulo_10 rfl rfl rfl ?_
    refine r_if_ge (pt := 20) (pf := 14) h0 dX7_modulo_11 rfl rfl h (fun c11 h => ?_) (fun c11 h => ?_)
    · refine r_iload_n (pc' := 21) h0 0 dX7_modulo_20 rfl rfl rfl ?_
      refine r_sub (L' := []) [] rfl ?_
      exact w_X7_modulo_21 h0 fu x0 x1 S hE (x0 - x0 / x1 * x1) h
    · refine r_iload_n (pc' := 15) h0 0 dX7_modulo_14 rfl rfl rfl ?_
      refine r_iload_n (pc' := 16) h0 2 dX7_modulo_15 rfl rfl rfl ?_
      refine r_iadd (pc' := 17) h0 dX7_modulo_16 rfl ?_
      refine r_goto (pc' := 21) h0 dX7_modulo_17 rfl ?_
      refine r_sub (L' := []) [] rfl ?_
      exact w_X7_modulo_21 h0 fu x0 x1 S hE ((x0 - x0 / x1 * x1) + x1) h
  · refine r_iconst (pc' := 5) h0 dX7_modulo_4 ki_0 rfl ?_
    exact r_iretR h0 hE dX7_modulo_5 h
/-- the machine does what f_X3_placeInCycle says -/
theorem c_X3_placeInCycle (g : GC) (fu : Nat) (k : Nat) (hk : k < 5) (x1 : Int32) (S : Mem) {r : Int32}  (h : f_X3_placeInCycle fu k x1 S = some r) : ctN yX3_placeInCycle cX3_placeInCycle 2 (some .int) rm_X3_placeInCycle (wC g) [.ref (wA (wC g) 3 k), .int x1] S (some (.int r)) S := by
  refine ct_of (own := RX3) (L := [(0, .ref (wA (wC g) 3 k)), (1, .int x1)]) (by decide +kernel) rfl (Nat.le_of_ble_eq_true rfl) rfl (fun X h0 hE => ?_)
  rw [f_X3_placeInCycle] at h
  refine r_iload_n (pc' := 1) h0 1 dX3_placeInCycle_0 rfl rfl rfl ?_
  refine r_aload_n (pc' := 2) h0 0 dX3_placeInCycle_1 rfl rfl rfl ?_
  refine gf_X3_41 (pc' := 5) h0 hk dX3_placeInCycle_2 rfl ?_
  refine r_isub (pc' := 6) h0 dX3_placeInCycle_5 rfl ?_
  refine r_aload_n (pc' := 7) h0 0 dX3_placeInCycle_6 rfl rfl rfl ?_
  refine gf_X3_37 (pc' := 10) h0 hk dX3_placeInCycle_7 rfl ?_
  obtain ⟨r10, h10, h⟩ := b1_some h
  refine go_S (k_X3_134 g) (st2 := [.int r10]) (pc' := 13) [.int (x1 - (S.1 3 k 9)), .int (S.1 3 k 8)] [] h0 (c_X7_modulo g fu (x1 - (S.1 3 k 9)) (S.1 3 k 8) S h10) rfl rfl dX3_placeInCycle_10 rfl (Nat.le_of_ble_eq_true rfl) ⟨rfl, rfl, Nat.le_of_ble_eq_true rfl, Nat.le_of_ble_eq_true rfl⟩ ⟨Nat.le_of_ble_eq_true rfl, Nat.le_of_ble_eq_true rfl⟩ rfl ?_
  exact r_iretR h0 hE dX3_placeInCycle_13 h
theorem w_X7_read_17 {g : GC} {X : MX} {r : Int32}  (h0 : CX RX7 cX7_read 2 rm_X7_read X (wC g)) (fu : Nat) (ck len k : Nat) (hia : isIA (wC g) ck len) (hk : k < wN (wC g) ck) (x1 : Int32) (S : Mem) (hE : EN (some .int) (some (.int r)) S X (wC g)) : ∀ (t0 : Int32), f_X7_read_17 fu ck len k x1 S t0 = some r → GV X (wC g) 2 0 0 S [] 17 [.int t0] := by
  intro t0 h
  rw [f_X7_read_17] at h
  exact r_iretR h0 hE dX7_read_17 h
theorem w_X7_read_16 {g : GC} {X : MX} {r : Int32}  (h0 : CX RX7 cX7_read 2 rm_X7_read X (wC g)) (fu : Nat) (ck len k : Nat) (hia : isIA (wC g) ck len) (hk : k < wN (wC g) ck) (x1 : Int32) (S : Mem) (hE : EN (some .int) (some (.int r)) S X (wC g)) : f_X7_read_16 fu ck len k x1 S = some r → GV X (wC g) 2 0 0 S [] 16 [] := by
  intro  h
  rw [f_X7_read_16] at h
  refine r_iconst (pc' := 17) h0 dX7_read_16 ki_0 rfl ?_
  exact w_X7_read_17 h0 fu ck len k hia hk x1 S hE 0 h
/-- the machine does what f_X7_read says -/
theorem c_X7_read (g : GC) (fu : Nat) (ck len k : Nat) (hia : isIA (wC g) ck len) (hk : k < wN (wC g) ck) (x1 : Int32) (S : Mem) {r : Int32}  (h : f_X7_read fu ck len k x1 S = some r) : ctN yX7_read cX7_read 2 (some .int) rm_X7_read (wC g) [.ref (wA (wC g) ck k), .int x1] S (some (.int r)) S := by
  refine ct_of (own := RX7) (L := [(0, .ref (wA (wC g) ck k)), (1, .int x1)]) (by decide +kernel) rfl (Nat.le_of_ble_eq_true rfl) rfl (fun X h0 hE => ?_)
  rw [f_X7_read] at h
  refine r_iload_n (pc' := 1) h0 1 dX7_read_0 rfl rfl rfl ?_
  refine r_if_lt (pt := 16) (pf := 4) h0 dX7_read_1 rfl rfl h (fun c1 h => ?_) (fun c1 h => ?_)
  · refine r_sub (L' := []) [] rfl ?_
    exact w_X7_read_16 h0 fu ck len k hia hk x1 S hE h
  · refine r_iload_n (pc' := 5) h0 1 dX7_read_4 rfl rfl rfl ?_
    refine r_aload_n (pc' := 6) h0 0 dX7_read_5 rfl rfl rfl ?_
    refine r_alenA (pc' := 7) h0 hia hk dX7_read_6 rfl ?_
    refine r_ic_ge (pt := 16) (pf := 10) h0 dX7_read_7 rfl rfl h (fun c7 h => ?_) (fun c7 h => ?_)
    · refine r_sub (L' := []) [] rfl ?_
      exact w_X7_read_16 h0 fu ck len k hia hk x1 S hE h
    · refine r_aload_n (pc' := 11) h0 0 dX7_read_10 rfl rfl rfl ?_
      refine r_iload_n (pc' := 12) h0 1 dX7_read_11 rfl rfl rfl ?_
      refine r_ialdA (pc' := 13) h0 hia hk dX7_read_12 rfl h (fun h => ?_)
      refine r_goto (pc' := 17) h0 dX7_read_13 rfl ?_
      refine r_sub (L' := []) [] rfl ?_
      exact w_X7_read_17 h0 fu ck len k hia hk x1 S hE (S.1 ck k (x1 : Int32).toNatClampNeg) h
theorem w_X3_changedGreen_32 {g : GC} {X : MX} {r : Int32}  (h0 : CX RX3 cX3_changedGreen 3 rm_X3_changedGreen X (wC g)) (fu : Nat) (k : Nat) (hk : k < 5) (x1 : Int32) (S : Mem) (hE : EN (some .int) (some (.int r)) S X (wC g)) : ∀ (t0 : Int32), f_X3_changedGreen_32 fu k x1 S t0 = some r → GV X (wC g) 3 0 0 S [(0, .ref (wA (wC g) 3 k)), (1, .int x1)] 32 [.int t0] := by
  intro t0 h
  rw [f_X3_changedGreen_32] at h
  refine r_istore_n (pc' := 33) (L' := [(2, .int t0), (0, .ref (wA (wC g) 3 k)), (1, .int x1)]) h0 dX3_changedGreen_32 rfl (Nat.le_of_ble_eq_true rfl) rfl rfl ?_
  refine r_aload_n (pc' := 34) h0 1 dX3_changedGreen_33 rfl rfl rfl ?_
  refine gf_X3_21 (pc' := 37) h0 hk dX3_changedGreen_34 rfl ?_
  refine r_iload_n (pc' := 38) h0 2 dX3_changedGreen_37 rfl rfl rfl ?_
  obtain ⟨r38, h38, h⟩ := b1_some h
  refine go_S (k_X3_82 g) (st2 := [.int r38]) (pc' := 41) [.ref (wA (wC g) 14 k), .int x1] [] h0 (c_X7_read g fu 14 4 k (ia_14 g) hk x1 S h38) rfl rfl dX3_changedGreen_38 rfl (Nat.le_of_ble_eq_true rfl) ⟨rfl, rfl, Nat.le_of_ble_eq_true rfl, Nat.le_of_ble_eq_true rfl⟩ ⟨Nat.le_of_ble_eq_true rfl, Nat.le_of_ble_eq_true rfl⟩ rfl ?_
  refine r_iload_n (pc' := 42) h0 0 dX3_changedGreen_41 rfl rfl rfl ?_
  refine r_iadd (pc' := 43) h0 dX3_changedGreen_42 rfl ?_
  exact r_iretR h0 hE dX3_changedGreen_43 h
/-- the machine does what f_X3_changedGreen says -/
theorem c_X3_changedGreen (g : GC) (fu : Nat) (k : Nat) (hk : k < 5) (x1 : Int32) (S : Mem) {r : Int32}  (h : f_X3_changedGreen fu k x1 S = some r) : ctN yX3_changedGreen cX3_changedGreen 3 (some .int) rm_X3_changedGreen (wC g) [.ref (wA (wC g) 3 k), .int x1] S (some (.int r)) S := by
  refine ct_of (own := RX3) (L := [(0, .ref (wA (wC g) 3 k)), (1, .int x1)]) (by decide +kernel) rfl (Nat.le_of_ble_eq_true rfl) rfl (fun X h0 hE => ?_)
  rw [f_X3_changedGreen] at h
  refine r_iload_n (pc' := 1) h0 1 dX3_changedGreen_0 rfl rfl rfl ?_
  refine r_aload_n (pc' := 2) h0 0 dX3_changedGreen_1 rfl rfl rfl ?_
  refine gf_X3_56 (pc' := 5) h0 hk dX3_changedGreen_2 rfl ?_
  refine r_ic_ne (pt := 15) (pf := 8) h0 dX3_changedGreen_5 rfl rfl h (fun c5 h => ?_) (fun c5 h => ?_)
  · refine r_iload_n (pc' := 16) h0 1 dX3_changedGreen_15 rfl rfl rfl ?_
    refine r_aload_n (pc' := 17) h0 0 dX3_changedGreen_16 rfl rfl rfl ?_
    refine gf_X3_53 (pc' := 20) h0 hk dX3_changedGreen_17 rfl ?_
    refine r_ic_ne (pt := 31) (pf := 23) h0 dX3_changedGreen_20 rfl rfl h (fun c20 h => ?_) (fun c20 h => ?_)
    · refine r_iconst (pc' := 32) h0 dX3_changedGreen_31 ki_0 rfl ?_
      exact w_X3_changedGreen_32 h0 fu k hk x1 S hE 0 h
    · refine r_aload_n (pc' := 24) h0 0 dX3_changedGreen_23 rfl rfl rfl ?_
      refine gf_X3_59 (pc' := 27) h0 hk dX3_changedGreen_24 rfl ?_
      refine r_ineg (pc' := 28) h0 dX3_changedGreen_27 rfl ?_
      refine r_goto (pc' := 32) h0 dX3_changedGreen_28 rfl ?_
      exact w_X3_changedGreen_32 h0 fu k hk x1 S hE (-(S.1 3 k 16)) h
  · refine r_aload_n (pc' := 9) h0 0 dX3_changedGreen_8 rfl rfl rfl ?_
    refine gf_X3_59 (pc' := 12) h0 hk dX3_changedGreen_9 rfl ?_
    refine r_goto (pc' := 32) h0 dX3_changedGreen_12 rfl ?_
    exact w_X3_changedGreen_32 h0 fu k hk x1 S hE (S.1 3 k 16) h
theorem w_X3_phaseIn_46 {g : GC} {X : MX} {r : Int32}  (h0 : CX RX3 cX3_phaseIn 6 rm_X3_phaseIn X (wC g)) (fu : Nat) (k : Nat) (hk : k < 5) (x1 : Int32) (S : Mem) (hE : EN (some .int) (some (.int r)) S X (wC g)) (K15 : Int32 → Int32 → Int32 → Option Int32) (kK15 : ∀ (x2 : Int32) (x3 : Int32) (x4 : Int32), K15 x2 x3 x4 = some r → GV X (wC g) 6 0 0 S [(0, .ref (wA (wC g) 3 k)), (2, .int x2), (3, .int x3), (4, .int x4)] 15 []) : ∀ (x2 : Int32) (x3 : Int32) (x4 : Int32) (t0 : Int32), f_X3_phaseIn_46 fu K15 k x1 S x2 x3 x4 t0 = some r → GV X (wC g) 6 0 0 S [(0, .ref (wA (wC g) 3 k)), (2, .int x2), (3, .int x3), (4, .int x4)] 46 [.int t0] := by
  intro x2 x3 x4 t0 h
  rw [f_X3_phaseIn_46] at h
  refine r_istore (pc' := 48) (L' := [(5, .int t0), (0, .ref (wA (wC g) 3 k)), (2, .int x2), (3, .int x3), (4, .int x4)]) h0 dX3_phaseIn_46 (Nat.le_of_ble_eq_true rfl) rfl rfl ?_
  refine r_iload_n (pc' := 49) h0 3 dX3_phaseIn_48 rfl rfl rfl ?_
  refine r_iload (pc' := 51) h0 0 dX3_phaseIn_49 rfl rfl ?_
  refine r_ic_ge (pt := 57) (pf := 54) h0 dX3_phaseIn_51 rfl rfl h (fun c51 h => ?_) (fun c51 h => ?_)
  · refine r_iload_n (pc' := 58) h0 3 dX3_phaseIn_57 rfl rfl rfl ?_
    refine r_iload (pc' := 60) h0 0 dX3_phaseIn_58 rfl rfl ?_
    refine r_isub (pc' := 61) h0 dX3_phaseIn_60 rfl ?_
    refine r_istore_n (pc' := 62) (L' := [(3, .int (x3 - t0)), (5, .int t0), (0, .ref (wA (wC g) 3 k)), (2, .int x2), (4, .int x4)]) h0 dX3_phaseIn_61 rfl (Nat.le_of_ble_eq_true rfl) rfl rfl ?_
    refine r_iload_n (pc' := 63) h0 0 dX3_phaseIn_62 rfl rfl rfl ?_
    refine r_aload_n (pc' := 64) h0 2 dX3_phaseIn_63 rfl rfl rfl ?_
    refine gf_X3_24 (pc' := 67) h0 hk dX3_phaseIn_64 rfl ?_
    refine r_iload (pc' := 69) h0 4 dX3_phaseIn_67 rfl rfl ?_
    obtain ⟨r69, h69, h⟩ := b1_some h
    refine go_S (k_X3_82 g) (st2 := [.int r69, .int (x3 - t0)]) (pc' := 72) [.ref (wA (wC g) 15 k), .int x4] [.int (x3 - t0)] h0 (c_X7_read g fu 15 4 k (ia_15 g) hk x4 S h69) rfl rfl dX3_phaseIn_69 rfl (Nat.le_of_ble_eq_true rfl) ⟨rfl, rfl, Nat.le_of_ble_eq_true rfl, Nat.le_of_ble_eq_true rfl⟩ ⟨Nat.le_of_ble_eq_true rfl, Nat.le_of_ble_eq_true rfl⟩ rfl ?_
    refine r_ic_ge (pt := 77) (pf := 75) h0 dX3_phaseIn_72 rfl rfl h (fun c72 h => ?_) (fun c72 h => ?_)
    · refine r_iload_n (pc' := 78) h0 0 dX3_phaseIn_77 rfl rfl rfl ?_
      refine r_aload_n (pc' := 79) h0 2 dX3_phaseIn_78 rfl rfl rfl ?_
      refine gf_X3_24 (pc' := 82) h0 hk dX3_phaseIn_79 rfl ?_
      refine r_iload (pc' := 84) h0 4 dX3_phaseIn_82 rfl rfl ?_
      obtain ⟨r84, h84, h⟩ := b1_some h
      refine go_S (k_X3_82 g) (st2 := [.int r84, .int (x3 - t0)]) (pc' := 87) [.ref (wA (wC g) 15 k), .int x4] [.int (x3 - t0)] h0 (c_X7_read g fu 15 4 k (ia_15 g) hk x4 S h84) rfl rfl dX3_phaseIn_84 rfl (Nat.le_of_ble_eq_true rfl) ⟨rfl, rfl, Nat.le_of_ble_eq_true rfl, Nat.le_of_ble_eq_true rfl⟩ ⟨Nat.le_of_ble_eq_true rfl, Nat.le_of_ble_eq_true rfl⟩ rfl ?_
      refine r_isub (pc' := 88) h0 dX3_phaseIn_87 rfl ?_
      refine r_istore_n (pc' := 89) (L' := [(3, .int ((x3 - t0) - r84)), (5, .int t0), (0, .ref (wA (wC g) 3 k)), (2, .int x2), (4, .int x4)]) h0 dX3_phaseIn_88 rfl (Nat.le_of_ble_eq_true rfl) rfl rfl ?_
      refine r_iinc (pc' := 92) (L' := [(4, .int (x4 + 1)), (3, .int ((x3 - t0) - r84)), (5, .int t0), (0, .ref (wA (wC g) 3 k)), (2, .int x2)]) h0 4 dX3_phaseIn_89 rfl ki_1 (Nat.le_of_ble_eq_true rfl) rfl rfl ?_
      refine r_goto (pc' := 15) h0 dX3_phaseIn_92 rfl ?_
      refine r_sub (L' := [(0, .ref (wA (wC g) 3 k)), (2, .int x2), (3, .int ((x3 - t0) - r84)), (4, .int (x4 + 1))]) [3, 4, 1, 0] rfl ?_
      exact kK15 x2 ((x3 - t0) - r84) (x4 + 1) h
    · refine r_iconst (pc' := 76) h0 dX3_phaseIn_75 ki_m1 rfl ?_
      exact r_iretR h0 hE dX3_phaseIn_76 h
  · refine r_iload (pc' := 56) h0 4 dX3_phaseIn_54 rfl rfl ?_
    exact r_iretR h0 hE dX3_phaseIn_56 h
theorem w_X3_phaseIn_15 {g : GC} {X : MX} {r : Int32}  (h0 : CX RX3 cX3_phaseIn 6 rm_X3_phaseIn X (wC g)) (fu : Nat) (k : Nat) (hk : k < 5) (x1 : Int32) (S : Mem) (hE : EN (some .int) (some (.int r)) S X (wC g)) : ∀ (n : Nat) (x2 : Int32) (x3 : Int32) (x4 : Int32), f_X3_phaseIn_15 fu k x1 S n x2 x3 x4 = some r → GV X (wC g) 6 0 0 S [(0, .ref (wA (wC g) 3 k)), (2, .int x2), (3, .int x3), (4, .int x4)] 15 [] := by
  intro n
  induction n with
  | zero =>
    intro x2 x3 x4 h
    exact nomatch (show none = _ from h)
  | succ n ih =>
    intro x2 x3 x4 h
    rw [f_X3_phaseIn_15] at h
    refine r_iload (pc' := 17) h0 3 dX3_phaseIn_15 rfl rfl ?_
    refine r_aload_n (pc' := 18) h0 0 dX3_phaseIn_17 rfl rfl rfl ?_
    refine gf_X3_90 (pc' := 21) h0 hk dX3_phaseIn_18 rfl ?_
    refine r_ic_ge (pt := 95) (pf := 24) h0 dX3_phaseIn_21 rfl rfl h (fun c21 h => ?_) (fun c21 h => ?_)
    · refine r_iconst (pc' := 96) h0 dX3_phaseIn_95 ki_m1 rfl ?_
      exact r_iretR h0 hE dX3_phaseIn_96 h
    · refine r_iload_n (pc' := 25) h0 1 dX3_phaseIn_24 rfl rfl rfl ?_
      refine r_if_eq (pt := 37) (pf := 28) h0 dX3_phaseIn_25 rfl rfl h (fun c25 h => ?_) (fun c25 h => ?_)
      · refine r_aload_n (pc' := 38) h0 0 dX3_phaseIn_37 rfl rfl rfl ?_
        refine gf_X3_21 (pc' := 41) h0 hk dX3_phaseIn_38 rfl ?_
        refine r_iload (pc' := 43) h0 3 dX3_phaseIn_41 rfl rfl ?_
        obtain ⟨r43, h43, h⟩ := b1_some h
        refine go_S (k_X3_82 g) (st2 := [.int r43]) (pc' := 46) [.ref (wA (wC g) 14 k), .int x4] [] h0 (c_X7_read g fu 14 4 k (ia_14 g) hk x4 S h43) rfl rfl dX3_phaseIn_43 rfl (Nat.le_of_ble_eq_true rfl) ⟨rfl, rfl, Nat.le_of_ble_eq_true rfl, Nat.le_of_ble_eq_true rfl⟩ ⟨Nat.le_of_ble_eq_true rfl, Nat.le_of_ble_eq_true rfl⟩ rfl ?_
        exact w_X3_phaseIn_46 h0 fu k hk x1 S hE (f_X3_phaseIn_15 fu k x1 S n) ih x2 x3 x4 r43 h
      · refine r_aload_n (pc' := 29) h0 0 dX3_phaseIn_28 rfl rfl rfl ?_
        refine r_iload (pc' := 31) h0 3 dX3_phaseIn_29 rfl rfl ?_
        obtain ⟨r31, h31, h⟩ := b1_some h
        refine go_V (k_X3_153 g) (st2 := [.int r31]) (pc' := 34) [.int x4] [] h0 hk (c_X3_changedGreen g fu k hk x4 S h31) rfl rfl dX3_phaseIn_31 rfl (Nat.le_of_ble_eq_true rfl) ⟨rfl, rfl, Nat.le_of_ble_eq_true rfl, Nat.le_of_ble_eq_true rfl⟩ ⟨Nat.le_of_ble_eq_true rfl, Nat.le_of_ble_eq_true rfl⟩ rfl ?_
        refine r_goto (pc' := 46) h0 dX3_phaseIn_34 rfl ?_
        exact w_X3_phaseIn_46 h0 fu k hk x1 S hE (f_X3_phaseIn_15 fu k x1 S n) ih x2 x3 x4 r31 h
/-- the machine does what f_X3_phaseIn says -/
theorem c_X3_phaseIn (g : GC) (fu : Nat) (k : Nat) (hk : k < 5) (x1 : Int32) (S : Mem) {r : Int32}  (h : f_X3_phaseIn fu k x1 S = some r) : ctN yX3_phaseIn cX3_phaseIn 6 (some .int) rm_X3_phaseIn (wC g) [.ref (wA (wC g) 3 k), .int x1] S (some (.int r)) S := by
  refine ct_of (own := RX3) (L := [(0, .ref (wA (wC g) 3 k)), (1, .int x1)]) (by decide +kernel) rfl (Nat.le_of_ble_eq_true rfl) rfl (fun X h0 hE => ?_)
  rw [f_X3_phaseIn] at h
  refine r_aload_n (pc' := 1) h0 0 dX3_phaseIn_0 rfl rfl rfl ?_
  refine r_iload_n (pc' := 2) h0 1 dX3_phaseIn_1 rfl rfl rfl ?_
  obtain ⟨r2, h2, h⟩ := b1_some h
  refine go_V (k_X3_147 g) (st2 := [.int r2]) (pc' := 5) [.int x1] [] h0 hk (c_X3_hasBusIn g fu k hk x1 S h2) rfl rfl dX3_phaseIn_2 rfl (Nat.le_of_ble_eq_true rfl) ⟨rfl, rfl, Nat.le_of_ble_eq_true rfl, Nat.le_of_ble_eq_true rfl⟩ ⟨Nat.le_of_ble_eq_true rfl, Nat.le_of_ble_eq_true rfl⟩ rfl ?_
  refine r_istore_n (pc' := 6) (L' := [(2, .int r2), (0, .ref (wA (wC g) 3 k)), (1, .int x1)]) h0 dX3_phaseIn_5 rfl (Nat.le_of_ble_eq_true rfl) rfl rfl ?_
  refine r_aload_n (pc' := 7) h0 1 dX3_phaseIn_6 rfl rfl rfl ?_
  refine r_iload_n (pc' := 8) h0 2 dX3_phaseIn_7 rfl rfl rfl ?_
  obtain ⟨r8, h8, h⟩ := b1_some h
  refine go_V (k_X3_150 g) (st2 := [.int r8]) (pc' := 11) [.int x1] [] h0 hk (c_X3_placeInCycle g fu k hk x1 S h8) rfl rfl dX3_phaseIn_8 rfl (Nat.le_of_ble_eq_true rfl) ⟨rfl, rfl, Nat.le_of_ble_eq_true rfl, Nat.le_of_ble_eq_true rfl⟩ ⟨Nat.le_of_ble_eq_true rfl, Nat.le_of_ble_eq_true rfl⟩ rfl ?_
  refine r_istore_n (pc' := 12) (L' := [(3, .int r8), (2, .int r2), (0, .ref (wA (wC g) 3 k)), (1, .int x1)]) h0 dX3_phaseIn_11 rfl (Nat.le_of_ble_eq_true rfl) rfl rfl ?_
  refine r_iconst (pc' := 13) h0 dX3_phaseIn_12 ki_0 rfl ?_
  refine r_istore (pc' := 15) (L' := [(4, .int 0), (3, .int r8), (2, .int r2), (0, .ref (wA (wC g) 3 k)), (1, .int x1)]) h0 dX3_phaseIn_13 (Nat.le_of_ble_eq_true rfl) rfl rfl ?_
  refine r_sub (L' := [(0, .ref (wA (wC g) 3 k)), (2, .int r2), (3, .int r8), (4, .int 0)]) [3, 2, 1, 0] rfl ?_
  exact w_X3_phaseIn_15 h0 fu k hk x1 S hE fu r2 r8 0 h
end
