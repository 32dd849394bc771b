theorem dX0_init_0 : decode cX0_init 0 = .ok (.aload_n 0, 1) := by decide +kernel
theorem dX0_init_1 : decode cX0_init 1 = .ok (.invokespecial 3, 3) := by decide +kernel
theorem dX0_init_4 : decode cX0_init 4 = .ok (.aload_n 0, 1) := by decide +kernel
theorem dX0_init_5 : decode cX0_init 5 = .ok (.new 9, 3) := by decide +kernel
theorem dX0_init_8 : decode cX0_init 8 = .ok (.dup, 1) := by decide +kernel
theorem dX0_init_9 : decode cX0_init 9 = .ok (.invokespecial 11, 3) := by decide +kernel
theorem dX0_init_12 : decode cX0_init 12 = .ok (.putfield 12, 3) := by decide +kernel
theorem dX0_init_15 : decode cX0_init 15 = .ok (.aload_n 0, 1) := by decide +kernel
theorem dX0_init_16 : decode cX0_init 16 = .ok (.new 9, 3) := by decide +kernel
theorem dX0_init_19 : decode cX0_init 19 = .ok (.dup, 1) := by decide +kernel
theorem dX0_init_20 : decode cX0_init 20 = .ok (.invokespecial 11, 3) := by decide +kernel
theorem dX0_init_23 : decode cX0_init 23 = .ok (.putfield 18, 3) := by decide +kernel
theorem dX0_init_26 : decode cX0_init 26 = .ok (.aload_n 0, 1) := by decide +kernel
theorem dX0_init_27 : decode cX0_init 27 = .ok (.new 9, 3) := by decide +kernel
theorem dX0_init_30 : decode cX0_init 30 = .ok (.dup, 1) := by decide +kernel
theorem dX0_init_31 : decode cX0_init 31 = .ok (.invokespecial 11, 3) := by decide +kernel
theorem dX0_init_34 : decode cX0_init 34 = .ok (.putfield 21, 3) := by decide +kernel
theorem dX0_init_37 : decode cX0_init 37 = .ok (.aload_n 0, 1) := by decide +kernel
theorem dX0_init_38 : decode cX0_init 38 = .ok (.new 9, 3) := by decide +kernel
theorem dX0_init_41 : decode cX0_init 41 = .ok (.dup, 1) := by decide +kernel
theorem dX0_init_42 : decode cX0_init 42 = .ok (.invokespecial 11, 3) := by decide +kernel
theorem dX0_init_45 : decode cX0_init 45 = .ok (.putfield 24, 3) := by decide +kernel
theorem dX0_init_48 : decode cX0_init 48 = .ok (.aload_n 0, 1) := by decide +kernel
theorem dX0_init_49 : decode cX0_init 49 = .ok (.aload_n 1, 1) := by decide +kernel
theorem dX0_init_50 : decode cX0_init 50 = .ok (.putfield 27, 3) := by decide +kernel
theorem dX0_init_53 : decode cX0_init 53 = .ok (.return_, 1) := by decide +kernel
theorem dX0_fillFrom_0 : decode cX0_fillFrom 0 = .ok (.aload_n 0, 1) := by decide +kernel
theorem dX0_fillFrom_1 : decode cX0_fillFrom 1 = .ok (.getfield 27, 3) := by decide +kernel
theorem dX0_fillFrom_4 : decode cX0_fillFrom 4 = .ok (.iload_n 1, 1) := by decide +kernel
theorem dX0_fillFrom_5 : decode cX0_fillFrom 5 = .ok (.invokevirtual 31, 3) := by decide +kernel
theorem dX0_fillFrom_8 : decode cX0_fillFrom 8 = .ok (.astore 4, 2) := by decide +kernel
theorem dX0_fillFrom_10 : decode cX0_fillFrom 10 = .ok (.aload_n 0, 1) := by decide +kernel
theorem dX0_fillFrom_11 : decode cX0_fillFrom 11 = .ok (.getfield 27, 3) := by decide +kernel
theorem dX0_fillFrom_14 : decode cX0_fillFrom 14 = .ok (.iconst 0, 1) := by decide +kernel
theorem dX0_fillFrom_15 : decode cX0_fillFrom 15 = .ok (.iload_n 1, 1) := by decide +kernel
theorem dX0_fillFrom_16 : decode cX0_fillFrom 16 = .ok (.invokevirtual 37, 3) := by decide +kernel
theorem dX0_fillFrom_19 : decode cX0_fillFrom 19 = .ok (.istore 5, 2) := by decide +kernel
theorem dX0_fillFrom_21 : decode cX0_fillFrom 21 = .ok (.aload_n 0, 1) := by decide +kernel
theorem dX0_fillFrom_22 : decode cX0_fillFrom 22 = .ok (.getfield 27, 3) := by decide +kernel
theorem dX0_fillFrom_25 : decode cX0_fillFrom 25 = .ok (.iload_n 1, 1) := by decide +kernel
theorem dX0_fillFrom_26 : decode cX0_fillFrom 26 = .ok (.aload_n 0, 1) := by decide +kernel
theorem dX0_fillFrom_27 : decode cX0_fillFrom 27 = .ok (.getfield 27, 3) := by decide +kernel
theorem dX0_fillFrom_30 : decode cX0_fillFrom 30 = .ok (.getfield 41, 3) := by decide +kernel
theorem dX0_fillFrom_33 : decode cX0_fillFrom 33 = .ok (.iconst 1, 1) := by decide +kernel
theorem dX0_fillFrom_34 : decode cX0_fillFrom 34 = .ok (.isub, 1) := by decide +kernel
theorem dX0_fillFrom_35 : decode cX0_fillFrom 35 = .ok (.invokevirtual 37, 3) := by decide +kernel
theorem dX0_fillFrom_38 : decode cX0_fillFrom 38 = .ok (.istore 6, 2) := by decide +kernel
theorem dX0_fillFrom_40 : decode cX0_fillFrom 40 = .ok (.aload_n 3, 1) := by decide +kernel
theorem dX0_fillFrom_41 : decode cX0_fillFrom 41 = .ok (.invokevirtual 45, 3) := by decide +kernel
theorem dX0_fillFrom_44 : decode cX0_fillFrom 44 = .ok (.iconst 0, 1) := by decide +kernel
theorem dX0_fillFrom_45 : decode cX0_fillFrom 45 = .ok (.istore 7, 2) := by decide +kernel
theorem dX0_fillFrom_47 : decode cX0_fillFrom 47 = .ok (.iload 7, 2) := by decide +kernel
theorem dX0_fillFrom_49 : decode cX0_fillFrom 49 = .ok (.aload_n 0, 1) := by decide +kernel
theorem dX0_fillFrom_50 : decode cX0_fillFrom 50 = .ok (.getfield 27, 3) := by decide +kernel
theorem dX0_fillFrom_53 : decode cX0_fillFrom 53 = .ok (.getfield 48, 3) := by decide +kernel
theorem dX0_fillFrom_56 : decode cX0_fillFrom 56 = .ok (.if_icmp .ge 57, 3) := by decide +kernel
theorem dX0_fillFrom_59 : decode cX0_fillFrom 59 = .ok (.aload 4, 2) := by decide +kernel
theorem dX0_fillFrom_61 : decode cX0_fillFrom 61 = .ok (.iload_n 2, 1) := by decide +kernel
theorem dX0_fillFrom_62 : decode cX0_fillFrom 62 = .ok (.iconst 0, 1) := by decide +kernel
theorem dX0_fillFrom_63 : decode cX0_fillFrom 63 = .ok (.iload 7, 2) := by decide +kernel
theorem dX0_fillFrom_65 : decode cX0_fillFrom 65 = .ok (.iload 5, 2) := by decide +kernel
theorem dX0_fillFrom_67 : decode cX0_fillFrom 67 = .ok (.iadd, 1) := by decide +kernel
theorem dX0_fillFrom_68 : decode cX0_fillFrom 68 = .ok (.invokevirtual 51, 3) := by decide +kernel
theorem dX0_fillFrom_71 : decode cX0_fillFrom 71 = .ok (.ifCond .eq 12, 3) := by decide +kernel
theorem dX0_fillFrom_74 : decode cX0_fillFrom 74 = .ok (.aload_n 3, 1) := by decide +kernel
theorem dX0_fillFrom_75 : decode cX0_fillFrom 75 = .ok (.getfield 57, 3) := by decide +kernel
theorem dX0_fillFrom_78 : decode cX0_fillFrom 78 = .ok (.iload 7, 2) := by decide +kernel
theorem dX0_fillFrom_80 : decode cX0_fillFrom 80 = .ok (.invokevirtual 61, 3) := by decide +kernel
theorem dX0_fillFrom_83 : decode cX0_fillFrom 83 = .ok (.aload 4, 2) := by decide +kernel
theorem dX0_fillFrom_85 : decode cX0_fillFrom 85 = .ok (.iload_n 2, 1) := by decide +kernel
theorem dX0_fillFrom_86 : decode cX0_fillFrom 86 = .ok (.iconst 1, 1) := by decide +kernel
theorem dX0_fillFrom_87 : decode cX0_fillFrom 87 = .ok (.iload 7, 2) := by decide +kernel
theorem dX0_fillFrom_89 : decode cX0_fillFrom 89 = .ok (.iload 6, 2) := by decide +kernel
theorem dX0_fillFrom_91 : decode cX0_fillFrom 91 = .ok (.iadd, 1) := by decide +kernel
theorem dX0_fillFrom_92 : decode cX0_fillFrom 92 = .ok (.invokevirtual 51, 3) := by decide +kernel
theorem dX0_fillFrom_95 : decode cX0_fillFrom 95 = .ok (.ifCond .eq 12, 3) := by decide +kernel
theorem dX0_fillFrom_98 : decode cX0_fillFrom 98 = .ok (.aload_n 3, 1) := by decide +kernel
theorem dX0_fillFrom_99 : decode cX0_fillFrom 99 = .ok (.getfield 67, 3) := by decide +kernel
theorem dX0_fillFrom_102 : decode cX0_fillFrom 102 = .ok (.iload 7, 2) := by decide +kernel
theorem dX0_fillFrom_104 : decode cX0_fillFrom 104 = .ok (.invokevirtual 61, 3) := by decide +kernel
theorem dX0_fillFrom_107 : decode cX0_fillFrom 107 = .ok (.iinc 7 1, 3) := by decide +kernel
theorem dX0_fillFrom_110 : decode cX0_fillFrom 110 = .ok (.goto (-63), 3) := by decide +kernel
theorem dX0_fillFrom_113 : decode cX0_fillFrom 113 = .ok (.return_, 1) := by decide +kernel
theorem dX0_fillCommon_0 : decode cX0_fillCommon 0 = .ok (.aload_n 0, 1) := by decide +kernel
theorem dX0_fillCommon_1 : decode cX0_fillCommon 1 = .ok (.getfield 12, 3) := by decide +kernel
theorem dX0_fillCommon_4 : decode cX0_fillCommon 4 = .ok (.invokevirtual 45, 3) := by decide +kernel
theorem dX0_fillCommon_7 : decode cX0_fillCommon 7 = .ok (.aload_n 0, 1) := by decide +kernel
theorem dX0_fillCommon_8 : decode cX0_fillCommon 8 = .ok (.getfield 12, 3) := by decide +kernel
theorem dX0_fillCommon_11 : decode cX0_fillCommon 11 = .ok (.aload_n 0, 1) := by decide +kernel
theorem dX0_fillCommon_12 : decode cX0_fillCommon 12 = .ok (.getfield 27, 3) := by decide +kernel
theorem dX0_fillCommon_15 : decode cX0_fillCommon 15 = .ok (.getfield 48, 3) := by decide +kernel
theorem dX0_fillCommon_18 : decode cX0_fillCommon 18 = .ok (.invokevirtual 70, 3) := by decide +kernel
theorem dX0_fillCommon_21 : decode cX0_fillCommon 21 = .ok (.iconst 0, 1) := by decide +kernel
theorem dX0_fillCommon_22 : decode cX0_fillCommon 22 = .ok (.istore_n 2, 1) := by decide +kernel
theorem dX0_fillCommon_23 : decode cX0_fillCommon 23 = .ok (.iload_n 2, 1) := by decide +kernel
theorem dX0_fillCommon_24 : decode cX0_fillCommon 24 = .ok (.aload_n 0, 1) := by decide +kernel
theorem dX0_fillCommon_25 : decode cX0_fillCommon 25 = .ok (.getfield 27, 3) := by decide +kernel
theorem dX0_fillCommon_28 : decode cX0_fillCommon 28 = .ok (.getfield 41, 3) := by decide +kernel
theorem dX0_fillCommon_31 : decode cX0_fillCommon 31 = .ok (.if_icmp .ge 49, 3) := by decide +kernel
theorem dX0_fillCommon_34 : decode cX0_fillCommon 34 = .ok (.iload_n 2, 1) := by decide +kernel
theorem dX0_fillCommon_35 : decode cX0_fillCommon 35 = .ok (.iload_n 1, 1) := by decide +kernel
theorem dX0_fillCommon_36 : decode cX0_fillCommon 36 = .ok (.if_icmp .eq 38, 3) := by decide +kernel
theorem dX0_fillCommon_39 : decode cX0_fillCommon 39 = .ok (.aload_n 0, 1) := by decide +kernel
theorem dX0_fillCommon_40 : decode cX0_fillCommon 40 = .ok (.iload_n 2, 1) := by decide +kernel
theorem dX0_fillCommon_41 : decode cX0_fillCommon 41 = .ok (.aload_n 0, 1) := by decide +kernel
theorem dX0_fillCommon_42 : decode cX0_fillCommon 42 = .ok (.getfield 27, 3) := by decide +kernel
theorem dX0_fillCommon_45 : decode cX0_fillCommon 45 = .ok (.iload_n 2, 1) := by decide +kernel
theorem dX0_fillCommon_46 : decode cX0_fillCommon 46 = .ok (.invokevirtual 31, 3) := by decide +kernel
theorem dX0_fillCommon_49 : decode cX0_fillCommon 49 = .ok (.getfield 73, 3) := by decide +kernel
theorem dX0_fillCommon_52 : decode cX0_fillCommon 52 = .ok (.aload_n 0, 1) := by decide +kernel
theorem dX0_fillCommon_53 : decode cX0_fillCommon 53 = .ok (.getfield 18, 3) := by decide +kernel
theorem dX0_fillCommon_56 : decode cX0_fillCommon 56 = .ok (.invokevirtual 76, 3) := by decide +kernel
theorem dX0_fillCommon_59 : decode cX0_fillCommon 59 = .ok (.aload_n 0, 1) := by decide +kernel
theorem dX0_fillCommon_60 : decode cX0_fillCommon 60 = .ok (.getfield 12, 3) := by decide +kernel
theorem dX0_fillCommon_63 : decode cX0_fillCommon 63 = .ok (.aload_n 0, 1) := by decide +kernel
theorem dX0_fillCommon_64 : decode cX0_fillCommon 64 = .ok (.getfield 12, 3) := by decide +kernel
theorem dX0_fillCommon_67 : decode cX0_fillCommon 67 = .ok (.aload_n 0, 1) := by decide +kernel
theorem dX0_fillCommon_68 : decode cX0_fillCommon 68 = .ok (.getfield 18, 3) := by decide +kernel
theorem dX0_fillCommon_71 : decode cX0_fillCommon 71 = .ok (.invokevirtual 80, 3) := by decide +kernel
theorem dX0_fillCommon_74 : decode cX0_fillCommon 74 = .ok (.iinc 2 1, 3) := by decide +kernel
theorem dX0_fillCommon_77 : decode cX0_fillCommon 77 = .ok (.goto (-54), 3) := by decide +kernel
theorem dX0_fillCommon_80 : decode cX0_fillCommon 80 = .ok (.return_, 1) := by decide +kernel
theorem dX0_width_0 : decode cX0_width 0 = .ok (.aload_n 0, 1) := by decide +kernel
theorem dX0_width_1 : decode cX0_width 1 = .ok (.iconst (-1), 1) := by decide +kernel
theorem dX0_width_2 : decode cX0_width 2 = .ok (.invokevirtual 84, 3) := by decide +kernel
theorem dX0_width_5 : decode cX0_width 5 = .ok (.iload_n 1, 1) := by decide +kernel
theorem dX0_width_6 : decode cX0_width 6 = .ok (.ifCond .eq 13, 3) := by decide +kernel
theorem dX0_width_9 : decode cX0_width 9 = .ok (.aload_n 0, 1) := by decide +kernel
theorem dX0_width_10 : decode cX0_width 10 = .ok (.getfield 12, 3) := by decide +kernel
theorem dX0_width_13 : decode cX0_width 13 = .ok (.getfield 57, 3) := by decide +kernel
theorem dX0_width_16 : decode cX0_width 16 = .ok (.goto 10, 3) := by decide +kernel
theorem dX0_width_19 : decode cX0_width 19 = .ok (.aload_n 0, 1) := by decide +kernel
theorem dX0_width_20 : decode cX0_width 20 = .ok (.getfield 12, 3) := by decide +kernel
theorem dX0_width_23 : decode cX0_width 23 = .ok (.getfield 67, 3) := by decide +kernel
theorem dX0_width_26 : decode cX0_width 26 = .ok (.astore_n 2, 1) := by decide +kernel
theorem dX0_width_27 : decode cX0_width 27 = .ok (.aload_n 2, 1) := by decide +kernel
theorem dX0_width_28 : decode cX0_width 28 = .ok (.aload_n 2, 1) := by decide +kernel
theorem dX0_width_29 : decode cX0_width 29 = .ok (.invokevirtual 87, 3) := by decide +kernel
theorem dX0_width_32 : decode cX0_width 32 = .ok (.ireturn, 1) := by decide +kernel
theorem dX0_improveOffsets_0 : decode cX0_improveOffsets 0 = .ok (.iconst 1, 1) := by decide +kernel
theorem dX0_improveOffsets_1 : decode cX0_improveOffsets 1 = .ok (.istore_n 1, 1) := by decide +kernel
theorem dX0_improveOffsets_2 : decode cX0_improveOffsets 2 = .ok (.iconst 0, 1) := by decide +kernel
theorem dX0_improveOffsets_3 : decode cX0_improveOffsets 3 = .ok (.istore_n 2, 1) := by decide +kernel
theorem dX0_improveOffsets_4 : decode cX0_improveOffsets 4 = .ok (.iload_n 2, 1) := by decide +kernel
theorem dX0_improveOffsets_5 : decode cX0_improveOffsets 5 = .ok (.bipush 10, 2) := by decide +kernel
theorem dX0_improveOffsets_7 : decode cX0_improveOffsets 7 = .ok (.if_icmp .ge 42, 3) := by decide +kernel
theorem dX0_improveOffsets_10 : decode cX0_improveOffsets 10 = .ok (.iload_n 1, 1) := by decide +kernel
theorem dX0_improveOffsets_11 : decode cX0_improveOffsets 11 = .ok (.ifCond .eq 38, 3) := by decide +kernel
theorem dX0_improveOffsets_14 : decode cX0_improveOffsets 14 = .ok (.iconst 0, 1) := by decide +kernel
theorem dX0_improveOffsets_15 : decode cX0_improveOffsets 15 = .ok (.istore_n 1, 1) := by decide +kernel
theorem dX0_improveOffsets_16 : decode cX0_improveOffsets 16 = .ok (.iconst 1, 1) := by decide +kernel
theorem dX0_improveOffsets_17 : decode cX0_improveOffsets 17 = .ok (.istore_n 3, 1) := by decide +kernel
theorem dX0_improveOffsets_18 : decode cX0_improveOffsets 18 = .ok (.iload_n 3, 1) := by decide +kernel
theorem dX0_improveOffsets_19 : decode cX0_improveOffsets 19 = .ok (.aload_n 0, 1) := by decide +kernel
theorem dX0_improveOffsets_20 : decode cX0_improveOffsets 20 = .ok (.getfield 27, 3) := by decide +kernel
theorem dX0_improveOffsets_23 : decode cX0_improveOffsets 23 = .ok (.getfield 41, 3) := by decide +kernel
theorem dX0_improveOffsets_26 : decode cX0_improveOffsets 26 = .ok (.if_icmp .ge 17, 3) := by decide +kernel
theorem dX0_improveOffsets_29 : decode cX0_improveOffsets 29 = .ok (.iload_n 1, 1) := by decide +kernel
theorem dX0_improveOffsets_30 : decode cX0_improveOffsets 30 = .ok (.aload_n 0, 1) := by decide +kernel
theorem dX0_improveOffsets_31 : decode cX0_improveOffsets 31 = .ok (.iload_n 3, 1) := by decide +kernel
theorem dX0_improveOffsets_32 : decode cX0_improveOffsets 32 = .ok (.invokevirtual 91, 3) := by decide +kernel
theorem dX0_improveOffsets_35 : decode cX0_improveOffsets 35 = .ok (.ior, 1) := by decide +kernel
theorem dX0_improveOffsets_36 : decode cX0_improveOffsets 36 = .ok (.istore_n 1, 1) := by decide +kernel
theorem dX0_improveOffsets_37 : decode cX0_improveOffsets 37 = .ok (.iinc 3 1, 3) := by decide +kernel
theorem dX0_improveOffsets_40 : decode cX0_improveOffsets 40 = .ok (.goto (-22), 3) := by decide +kernel
theorem dX0_improveOffsets_43 : decode cX0_improveOffsets 43 = .ok (.iinc 2 1, 3) := by decide +kernel
theorem dX0_improveOffsets_46 : decode cX0_improveOffsets 46 = .ok (.goto (-42), 3) := by decide +kernel
theorem dX0_improveOffsets_49 : decode cX0_improveOffsets 49 = .ok (.aload_n 0, 1) := by decide +kernel
theorem dX0_improveOffsets_50 : decode cX0_improveOffsets 50 = .ok (.iconst (-1), 1) := by decide +kernel
theorem dX0_improveOffsets_51 : decode cX0_improveOffsets 51 = .ok (.invokevirtual 84, 3) := by decide +kernel
theorem dX0_improveOffsets_54 : decode cX0_improveOffsets 54 = .ok (.aload_n 0, 1) := by decide +kernel
theorem dX0_improveOffsets_55 : decode cX0_improveOffsets 55 = .ok (.getfield 12, 3) := by decide +kernel
theorem dX0_improveOffsets_58 : decode cX0_improveOffsets 58 = .ok (.aload_n 0, 1) := by decide +kernel
theorem dX0_improveOffsets_59 : decode cX0_improveOffsets 59 = .ok (.getfield 12, 3) := by decide +kernel
theorem dX0_improveOffsets_62 : decode cX0_improveOffsets 62 = .ok (.invokevirtual 95, 3) := by decide +kernel
theorem dX0_improveOffsets_65 : decode cX0_improveOffsets 65 = .ok (.ireturn, 1) := by decide +kernel
theorem dX0_improveOffset_0 : decode cX0_improveOffset 0 = .ok (.aload_n 0, 1) := by decide +kernel
theorem dX0_improveOffset_1 : decode cX0_improveOffset 1 = .ok (.getfield 27, 3) := by decide +kernel
theorem dX0_improveOffset_4 : decode cX0_improveOffset 4 = .ok (.iload_n 1, 1) := by decide +kernel
theorem dX0_improveOffset_5 : decode cX0_improveOffset 5 = .ok (.invokevirtual 31, 3) := by decide +kernel
theorem dX0_improveOffset_8 : decode cX0_improveOffset 8 = .ok (.astore_n 2, 1) := by decide +kernel
theorem dX0_improveOffset_9 : decode cX0_improveOffset 9 = .ok (.aload_n 2, 1) := by decide +kernel
theorem dX0_improveOffset_10 : decode cX0_improveOffset 10 = .ok (.getfield 73, 3) := by decide +kernel
theorem dX0_improveOffset_13 : decode cX0_improveOffset 13 = .ok (.istore_n 3, 1) := by decide +kernel
theorem dX0_improveOffset_14 : decode cX0_improveOffset 14 = .ok (.aload_n 0, 1) := by decide +kernel
theorem dX0_improveOffset_15 : decode cX0_improveOffset 15 = .ok (.iload_n 1, 1) := by decide +kernel
theorem dX0_improveOffset_16 : decode cX0_improveOffset 16 = .ok (.invokevirtual 84, 3) := by decide +kernel
theorem dX0_improveOffset_19 : decode cX0_improveOffset 19 = .ok (.aload_n 0, 1) := by decide +kernel
theorem dX0_improveOffset_20 : decode cX0_improveOffset 20 = .ok (.iload_n 1, 1) := by decide +kernel
theorem dX0_improveOffset_21 : decode cX0_improveOffset 21 = .ok (.iconst 0, 1) := by decide +kernel
theorem dX0_improveOffset_22 : decode cX0_improveOffset 22 = .ok (.aload_n 0, 1) := by decide +kernel
theorem dX0_improveOffset_23 : decode cX0_improveOffset 23 = .ok (.getfield 18, 3) := by decide +kernel
theorem dX0_improveOffset_26 : decode cX0_improveOffset 26 = .ok (.invokevirtual 76, 3) := by decide +kernel
theorem dX0_improveOffset_29 : decode cX0_improveOffset 29 = .ok (.aload_n 2, 1) := by decide +kernel
theorem dX0_improveOffset_30 : decode cX0_improveOffset 30 = .ok (.aload_n 0, 1) := by decide +kernel
theorem dX0_improveOffset_31 : decode cX0_improveOffset 31 = .ok (.invokevirtual 98, 3) := by decide +kernel
theorem dX0_improveOffset_34 : decode cX0_improveOffset 34 = .ok (.putfield 73, 3) := by decide +kernel
theorem dX0_improveOffset_37 : decode cX0_improveOffset 37 = .ok (.aload_n 2, 1) := by decide +kernel
theorem dX0_improveOffset_38 : decode cX0_improveOffset 38 = .ok (.getfield 73, 3) := by decide +kernel
theorem dX0_improveOffset_41 : decode cX0_improveOffset 41 = .ok (.iload_n 3, 1) := by decide +kernel
theorem dX0_improveOffset_42 : decode cX0_improveOffset 42 = .ok (.if_icmp .eq 7, 3) := by decide +kernel
theorem dX0_improveOffset_45 : decode cX0_improveOffset 45 = .ok (.iconst 1, 1) := by decide +kernel
theorem dX0_improveOffset_46 : decode cX0_improveOffset 46 = .ok (.goto 4, 3) := by decide +kernel
theorem dX0_improveOffset_49 : decode cX0_improveOffset 49 = .ok (.iconst 0, 1) := by decide +kernel
theorem dX0_improveOffset_50 : decode cX0_improveOffset 50 = .ok (.ireturn, 1) := by decide +kernel
theorem dX0_lowestBestOffset_0 : decode cX0_lowestBestOffset 0 = .ok (.iconst 0, 1) := by decide +kernel
theorem dX0_lowestBestOffset_1 : decode cX0_lowestBestOffset 1 = .ok (.istore_n 1, 1) := by decide +kernel
theorem dX0_lowestBestOffset_2 : decode cX0_lowestBestOffset 2 = .ok (.iconst 0, 1) := by decide +kernel
theorem dX0_lowestBestOffset_3 : decode cX0_lowestBestOffset 3 = .ok (.istore_n 2, 1) := by decide +kernel
theorem dX0_lowestBestOffset_4 : decode cX0_lowestBestOffset 4 = .ok (.iconst 0, 1) := by decide +kernel
theorem dX0_lowestBestOffset_5 : decode cX0_lowestBestOffset 5 = .ok (.istore_n 3, 1) := by decide +kernel
theorem dX0_lowestBestOffset_6 : decode cX0_lowestBestOffset 6 = .ok (.iload_n 3, 1) := by decide +kernel
theorem dX0_lowestBestOffset_7 : decode cX0_lowestBestOffset 7 = .ok (.aload_n 0, 1) := by decide +kernel
theorem dX0_lowestBestOffset_8 : decode cX0_lowestBestOffset 8 = .ok (.getfield 27, 3) := by decide +kernel
theorem dX0_lowestBestOffset_11 : decode cX0_lowestBestOffset 11 = .ok (.getfield 48, 3) := by decide +kernel
theorem dX0_lowestBestOffset_14 : decode cX0_lowestBestOffset 14 = .ok (.if_icmp .ge 47, 3) := by decide +kernel
theorem dX0_lowestBestOffset_17 : decode cX0_lowestBestOffset 17 = .ok (.aload_n 0, 1) := by decide +kernel
theorem dX0_lowestBestOffset_18 : decode cX0_lowestBestOffset 18 = .ok (.getfield 12, 3) := by decide +kernel
theorem dX0_lowestBestOffset_21 : decode cX0_lowestBestOffset 21 = .ok (.aload_n 0, 1) := by decide +kernel
theorem dX0_lowestBestOffset_22 : decode cX0_lowestBestOffset 22 = .ok (.getfield 18, 3) := by decide +kernel
theorem dX0_lowestBestOffset_25 : decode cX0_lowestBestOffset 25 = .ok (.invokevirtual 95, 3) := by decide +kernel
theorem dX0_lowestBestOffset_28 : decode cX0_lowestBestOffset 28 = .ok (.istore 4, 2) := by decide +kernel
theorem dX0_lowestBestOffset_30 : decode cX0_lowestBestOffset 30 = .ok (.iload 4, 2) := by decide +kernel
theorem dX0_lowestBestOffset_32 : decode cX0_lowestBestOffset 32 = .ok (.iload_n 2, 1) := by decide +kernel
theorem dX0_lowestBestOffset_33 : decode cX0_lowestBestOffset 33 = .ok (.if_icmp .le 8, 3) := by decide +kernel
theorem dX0_lowestBestOffset_36 : decode cX0_lowestBestOffset 36 = .ok (.iload 4, 2) := by decide +kernel
theorem dX0_lowestBestOffset_38 : decode cX0_lowestBestOffset 38 = .ok (.istore_n 2, 1) := by decide +kernel
theorem dX0_lowestBestOffset_39 : decode cX0_lowestBestOffset 39 = .ok (.iload_n 3, 1) := by decide +kernel
theorem dX0_lowestBestOffset_40 : decode cX0_lowestBestOffset 40 = .ok (.istore_n 1, 1) := by decide +kernel
theorem dX0_lowestBestOffset_41 : decode cX0_lowestBestOffset 41 = .ok (.aload_n 0, 1) := by decide +kernel
theorem dX0_lowestBestOffset_42 : decode cX0_lowestBestOffset 42 = .ok (.getfield 18, 3) := by decide +kernel
theorem dX0_lowestBestOffset_45 : decode cX0_lowestBestOffset 45 = .ok (.aload_n 0, 1) := by decide +kernel
theorem dX0_lowestBestOffset_46 : decode cX0_lowestBestOffset 46 = .ok (.getfield 27, 3) := by decide +kernel
theorem dX0_lowestBestOffset_49 : decode cX0_lowestBestOffset 49 = .ok (.getfield 48, 3) := by decide +kernel
theorem dX0_lowestBestOffset_52 : decode cX0_lowestBestOffset 52 = .ok (.invokevirtual 102, 3) := by decide +kernel
theorem dX0_lowestBestOffset_55 : decode cX0_lowestBestOffset 55 = .ok (.iinc 3 1, 3) := by decide +kernel
theorem dX0_lowestBestOffset_58 : decode cX0_lowestBestOffset 58 = .ok (.goto (-52), 3) := by decide +kernel
theorem dX0_lowestBestOffset_61 : decode cX0_lowestBestOffset 61 = .ok (.iload_n 1, 1) := by decide +kernel
theorem dX0_lowestBestOffset_62 : decode cX0_lowestBestOffset 62 = .ok (.ireturn, 1) := by decide +kernel
theorem dX1_init_0 : decode cX1_init 0 = .ok (.aload_n 0, 1) := by decide +kernel
theorem dX1_init_1 : decode cX1_init 1 = .ok (.invokespecial 3, 3) := by decide +kernel
theorem dX1_init_4 : decode cX1_init 4 = .ok (.aload_n 0, 1) := by decide +kernel
theorem dX1_init_5 : decode cX1_init 5 = .ok (.iconst 5, 1) := by decide +kernel
theorem dX1_init_6 : decode cX1_init 6 = .ok (.anewarray 9, 3) := by decide +kernel
theorem dX1_init_9 : decode cX1_init 9 = .ok (.putfield 11, 3) := by decide +kernel
theorem dX1_init_12 : decode cX1_init 12 = .ok (.iconst 0, 1) := by decide +kernel
theorem dX1_init_13 : decode cX1_init 13 = .ok (.istore_n 1, 1) := by decide +kernel
theorem dX1_init_14 : decode cX1_init 14 = .ok (.iload_n 1, 1) := by decide +kernel
theorem dX1_init_15 : decode cX1_init 15 = .ok (.aload_n 0, 1) := by decide +kernel
theorem dX1_init_16 : decode cX1_init 16 = .ok (.getfield 11, 3) := by decide +kernel
theorem dX1_init_19 : decode cX1_init 19 = .ok (.arraylength, 1) := by decide +kernel
theorem dX1_init_20 : decode cX1_init 20 = .ok (.if_icmp .ge 22, 3) := by decide +kernel
theorem dX1_init_23 : decode cX1_init 23 = .ok (.aload_n 0, 1) := by decide +kernel
theorem dX1_init_24 : decode cX1_init 24 = .ok (.getfield 11, 3) := by decide +kernel
theorem dX1_init_27 : decode cX1_init 27 = .ok (.iload_n 1, 1) := by decide +kernel
theorem dX1_init_28 : decode cX1_init 28 = .ok (.new 9, 3) := by decide +kernel
theorem dX1_init_31 : decode cX1_init 31 = .ok (.dup, 1) := by decide +kernel
theorem dX1_init_32 : decode cX1_init 32 = .ok (.invokespecial 17, 3) := by decide +kernel
theorem dX1_init_35 : decode cX1_init 35 = .ok (.aastore, 1) := by decide +kernel
theorem dX1_init_36 : decode cX1_init 36 = .ok (.iinc 1 1, 3) := by decide +kernel
theorem dX1_init_39 : decode cX1_init 39 = .ok (.goto (-25), 3) := by decide +kernel
theorem dX1_init_42 : decode cX1_init 42 = .ok (.return_, 1) := by decide +kernel
theorem dX1_reset_0 : decode cX1_reset 0 = .ok (.aload_n 0, 1) := by decide +kernel
theorem dX1_reset_1 : decode cX1_reset 1 = .ok (.iload_n 1, 1) := by decide +kernel
theorem dX1_reset_2 : decode cX1_reset 2 = .ok (.putfield 18, 3) := by decide +kernel
theorem dX1_reset_5 : decode cX1_reset 5 = .ok (.aload_n 0, 1) := by decide +kernel
theorem dX1_reset_6 : decode cX1_reset 6 = .ok (.iload_n 2, 1) := by decide +kernel
theorem dX1_reset_7 : decode cX1_reset 7 = .ok (.putfield 22, 3) := by decide +kernel
theorem dX1_reset_10 : decode cX1_reset 10 = .ok (.iconst 0, 1) := by decide +kernel
theorem dX1_reset_11 : decode cX1_reset 11 = .ok (.istore_n 3, 1) := by decide +kernel
theorem dX1_reset_12 : decode cX1_reset 12 = .ok (.iload_n 3, 1) := by decide +kernel
theorem dX1_reset_13 : decode cX1_reset 13 = .ok (.aload_n 0, 1) := by decide +kernel
theorem dX1_reset_14 : decode cX1_reset 14 = .ok (.getfield 18, 3) := by decide +kernel
theorem dX1_reset_17 : decode cX1_reset 17 = .ok (.if_icmp .ge 18, 3) := by decide +kernel
theorem dX1_reset_20 : decode cX1_reset 20 = .ok (.aload_n 0, 1) := by decide +kernel
theorem dX1_reset_21 : decode cX1_reset 21 = .ok (.iload_n 3, 1) := by decide +kernel
theorem dX1_reset_22 : decode cX1_reset 22 = .ok (.invokevirtual 25, 3) := by decide +kernel
theorem dX1_reset_25 : decode cX1_reset 25 = .ok (.iload_n 2, 1) := by decide +kernel
theorem dX1_reset_26 : decode cX1_reset 26 = .ok (.invokevirtual 29, 3) := by decide +kernel
theorem dX1_reset_29 : decode cX1_reset 29 = .ok (.iinc 3 1, 3) := by decide +kernel
theorem dX1_reset_32 : decode cX1_reset 32 = .ok (.goto (-20), 3) := by decide +kernel
theorem dX1_reset_35 : decode cX1_reset 35 = .ok (.return_, 1) := by decide +kernel
theorem dX1_at_0 : decode cX1_at 0 = .ok (.iload_n 1, 1) := by decide +kernel
theorem dX1_at_1 : decode cX1_at 1 = .ok (.ifCond .lt 29, 3) := by decide +kernel
theorem dX1_at_4 : decode cX1_at 4 = .ok (.iload_n 1, 1) := by decide +kernel
theorem dX1_at_5 : decode cX1_at 5 = .ok (.aload_n 0, 1) := by decide +kernel
theorem dX1_at_6 : decode cX1_at 6 = .ok (.getfield 18, 3) := by decide +kernel
theorem dX1_at_9 : decode cX1_at 9 = .ok (.if_icmp .ge 21, 3) := by decide +kernel
theorem dX1_at_12 : decode cX1_at 12 = .ok (.iload_n 1, 1) := by decide +kernel
theorem dX1_at_13 : decode cX1_at 13 = .ok (.aload_n 0, 1) := by decide +kernel
theorem dX1_at_14 : decode cX1_at 14 = .ok (.getfield 11, 3) := by decide +kernel
theorem dX1_at_17 : decode cX1_at 17 = .ok (.arraylength, 1) := by decide +kernel
theorem dX1_at_18 : decode cX1_at 18 = .ok (.if_icmp .ge 12, 3) := by decide +kernel
theorem dX1_at_21 : decode cX1_at 21 = .ok (.aload_n 0, 1) := by decide +kernel
theorem dX1_at_22 : decode cX1_at 22 = .ok (.getfield 11, 3) := by decide +kernel
theorem dX1_at_25 : decode cX1_at 25 = .ok (.iload_n 1, 1) := by decide +kernel
theorem dX1_at_26 : decode cX1_at 26 = .ok (.aaload, 1) := by decide +kernel
theorem dX1_at_27 : decode cX1_at 27 = .ok (.ifnonnull 13, 3) := by decide +kernel
theorem dX1_at_30 : decode cX1_at 30 = .ok (.new 33, 3) := by decide +kernel
theorem dX1_at_33 : decode cX1_at 33 = .ok (.dup, 1) := by decide +kernel
theorem dX1_at_34 : decode cX1_at 34 = .ok (.ldc 35, 2) := by decide +kernel
theorem dX1_at_36 : decode cX1_at 36 = .ok (.invokespecial 37, 3) := by decide +kernel
theorem dX1_at_39 : decode cX1_at 39 = .ok (.athrow, 1) := by decide +kernel
theorem dX1_at_40 : decode cX1_at 40 = .ok (.aload_n 0, 1) := by decide +kernel
theorem dX1_at_41 : decode cX1_at 41 = .ok (.getfield 11, 3) := by decide +kernel
theorem dX1_at_44 : decode cX1_at 44 = .ok (.iload_n 1, 1) := by decide +kernel
theorem dX1_at_45 : decode cX1_at 45 = .ok (.aaload, 1) := by decide +kernel
theorem dX1_at_46 : decode cX1_at 46 = .ok (.areturn, 1) := by decide +kernel
theorem dX1_isLast_0 : decode cX1_isLast 0 = .ok (.iload_n 1, 1) := by decide +kernel
theorem dX1_isLast_1 : decode cX1_isLast 1 = .ok (.aload_n 0, 1) := by decide +kernel
theorem dX1_isLast_2 : decode cX1_isLast 2 = .ok (.getfield 18, 3) := by decide +kernel
theorem dX1_isLast_5 : decode cX1_isLast 5 = .ok (.iconst 1, 1) := by decide +kernel
theorem dX1_isLast_6 : decode cX1_isLast 6 = .ok (.isub, 1) := by decide +kernel
theorem dX1_isLast_7 : decode cX1_isLast 7 = .ok (.if_icmp .ne 7, 3) := by decide +kernel
theorem dX1_isLast_10 : decode cX1_isLast 10 = .ok (.iconst 1, 1) := by decide +kernel
theorem dX1_isLast_11 : decode cX1_isLast 11 = .ok (.goto 4, 3) := by decide +kernel
theorem dX1_isLast_14 : decode cX1_isLast 14 = .ok (.iconst 0, 1) := by decide +kernel
theorem dX1_isLast_15 : decode cX1_isLast 15 = .ok (.ireturn, 1) := by decide +kernel
theorem dX1_linkFrom_0 : decode cX1_linkFrom 0 = .ok (.aload_n 0, 1) := by decide +kernel
theorem dX1_linkFrom_1 : decode cX1_linkFrom 1 = .ok (.iload_n 1, 1) := by decide +kernel
theorem dX1_linkFrom_2 : decode cX1_linkFrom 2 = .ok (.invokevirtual 25, 3) := by decide +kernel
theorem dX1_linkFrom_5 : decode cX1_linkFrom 5 = .ok (.astore_n 2, 1) := by decide +kernel
theorem dX1_linkFrom_6 : decode cX1_linkFrom 6 = .ok (.aload_n 0, 1) := by decide +kernel
theorem dX1_linkFrom_7 : decode cX1_linkFrom 7 = .ok (.iload_n 1, 1) := by decide +kernel
theorem dX1_linkFrom_8 : decode cX1_linkFrom 8 = .ok (.invokevirtual 40, 3) := by decide +kernel
theorem dX1_linkFrom_11 : decode cX1_linkFrom 11 = .ok (.ifCond .eq 13, 3) := by decide +kernel
theorem dX1_linkFrom_14 : decode cX1_linkFrom 14 = .ok (.new 33, 3) := by decide +kernel
theorem dX1_linkFrom_17 : decode cX1_linkFrom 17 = .ok (.dup, 1) := by decide +kernel
theorem dX1_linkFrom_18 : decode cX1_linkFrom 18 = .ok (.ldc 44, 2) := by decide +kernel
theorem dX1_linkFrom_20 : decode cX1_linkFrom 20 = .ok (.invokespecial 37, 3) := by decide +kernel
theorem dX1_linkFrom_23 : decode cX1_linkFrom 23 = .ok (.athrow, 1) := by decide +kernel
theorem dX1_linkFrom_24 : decode cX1_linkFrom 24 = .ok (.aload_n 2, 1) := by decide +kernel
theorem dX1_linkFrom_25 : decode cX1_linkFrom 25 = .ok (.getfield 46, 3) := by decide +kernel
theorem dX1_linkFrom_28 : decode cX1_linkFrom 28 = .ok (.areturn, 1) := by decide +kernel
theorem dX1_vehiclesOnLinkFrom_0 : decode cX1_vehiclesOnLinkFrom 0 = .ok (.aload_n 0, 1) := by decide +kernel
theorem dX1_vehiclesOnLinkFrom_1 : decode cX1_vehiclesOnLinkFrom 1 = .ok (.iload_n 1, 1) := by decide +kernel
theorem dX1_vehiclesOnLinkFrom_2 : decode cX1_vehiclesOnLinkFrom 2 = .ok (.invokevirtual 50, 3) := by decide +kernel
theorem dX1_vehiclesOnLinkFrom_5 : decode cX1_vehiclesOnLinkFrom 5 = .ok (.getfield 54, 3) := by decide +kernel
theorem dX1_vehiclesOnLinkFrom_8 : decode cX1_vehiclesOnLinkFrom 8 = .ok (.aload_n 0, 1) := by decide +kernel
theorem dX1_vehiclesOnLinkFrom_9 : decode cX1_vehiclesOnLinkFrom 9 = .ok (.iload_n 1, 1) := by decide +kernel
theorem dX1_vehiclesOnLinkFrom_10 : decode cX1_vehiclesOnLinkFrom 10 = .ok (.iconst 1, 1) := by decide +kernel
theorem dX1_vehiclesOnLinkFrom_11 : decode cX1_vehiclesOnLinkFrom 11 = .ok (.iadd, 1) := by decide +kernel
theorem dX1_vehiclesOnLinkFrom_12 : decode cX1_vehiclesOnLinkFrom 12 = .ok (.invokevirtual 25, 3) := by decide +kernel
theorem dX1_vehiclesOnLinkFrom_15 : decode cX1_vehiclesOnLinkFrom 15 = .ok (.getfield 59, 3) := by decide +kernel
theorem dX1_vehiclesOnLinkFrom_18 : decode cX1_vehiclesOnLinkFrom 18 = .ok (.iadd, 1) := by decide +kernel
theorem dX1_vehiclesOnLinkFrom_19 : decode cX1_vehiclesOnLinkFrom 19 = .ok (.ireturn, 1) := by decide +kernel
theorem dX1_secondsBetween_0 : decode cX1_secondsBetween 0 = .ok (.iconst 0, 1) := by decide +kernel
theorem dX1_secondsBetween_1 : decode cX1_secondsBetween 1 = .ok (.istore_n 3, 1) := by decide +kernel
theorem dX1_secondsBetween_2 : decode cX1_secondsBetween 2 = .ok (.iload_n 1, 1) := by decide +kernel
theorem dX1_secondsBetween_3 : decode cX1_secondsBetween 3 = .ok (.istore 4, 2) := by decide +kernel
theorem dX1_secondsBetween_5 : decode cX1_secondsBetween 5 = .ok (.iload 4, 2) := by decide +kernel
theorem dX1_secondsBetween_7 : decode cX1_secondsBetween 7 = .ok (.iload_n 2, 1) := by decide +kernel
theorem dX1_secondsBetween_8 : decode cX1_secondsBetween 8 = .ok (.if_icmp .ge 24, 3) := by decide +kernel
theorem dX1_secondsBetween_11 : decode cX1_secondsBetween 11 = .ok (.iload_n 3, 1) := by decide +kernel
theorem dX1_secondsBetween_12 : decode cX1_secondsBetween 12 = .ok (.aload_n 0, 1) := by decide +kernel
theorem dX1_secondsBetween_13 : decode cX1_secondsBetween 13 = .ok (.iload 4, 2) := by decide +kernel
theorem dX1_secondsBetween_15 : decode cX1_secondsBetween 15 = .ok (.invokevirtual 25, 3) := by decide +kernel
theorem dX1_secondsBetween_18 : decode cX1_secondsBetween 18 = .ok (.getfield 46, 3) := by decide +kernel
theorem dX1_secondsBetween_21 : decode cX1_secondsBetween 21 = .ok (.getfield 62, 3) := by decide +kernel
theorem dX1_secondsBetween_24 : decode cX1_secondsBetween 24 = .ok (.iadd, 1) := by decide +kernel
theorem dX1_secondsBetween_25 : decode cX1_secondsBetween 25 = .ok (.istore_n 3, 1) := by decide +kernel
theorem dX1_secondsBetween_26 : decode cX1_secondsBetween 26 = .ok (.iinc 4 1, 3) := by decide +kernel
theorem dX1_secondsBetween_29 : decode cX1_secondsBetween 29 = .ok (.goto (-24), 3) := by decide +kernel
theorem dX1_secondsBetween_32 : decode cX1_secondsBetween 32 = .ok (.iload_n 3, 1) := by decide +kernel
theorem dX1_secondsBetween_33 : decode cX1_secondsBetween 33 = .ok (.ireturn, 1) := by decide +kernel
theorem dX1_isPlanned_0 : decode cX1_isPlanned 0 = .ok (.iconst 0, 1) := by decide +kernel
theorem dX1_isPlanned_1 : decode cX1_isPlanned 1 = .ok (.istore_n 1, 1) := by decide +kernel
theorem dX1_isPlanned_2 : decode cX1_isPlanned 2 = .ok (.iload_n 1, 1) := by decide +kernel
theorem dX1_isPlanned_3 : decode cX1_isPlanned 3 = .ok (.aload_n 0, 1) := by decide +kernel
theorem dX1_isPlanned_4 : decode cX1_isPlanned 4 = .ok (.getfield 18, 3) := by decide +kernel
theorem dX1_isPlanned_7 : decode cX1_isPlanned 7 = .ok (.if_icmp .ge 22, 3) := by decide +kernel
theorem dX1_isPlanned_10 : decode cX1_isPlanned 10 = .ok (.aload_n 0, 1) := by decide +kernel
theorem dX1_isPlanned_11 : decode cX1_isPlanned 11 = .ok (.iload_n 1, 1) := by decide +kernel
theorem dX1_isPlanned_12 : decode cX1_isPlanned 12 = .ok (.invokevirtual 25, 3) := by decide +kernel
theorem dX1_isPlanned_15 : decode cX1_isPlanned 15 = .ok (.getfield 65, 3) := by decide +kernel
theorem dX1_isPlanned_18 : decode cX1_isPlanned 18 = .ok (.ifCond .ne 5, 3) := by decide +kernel
theorem dX1_isPlanned_21 : decode cX1_isPlanned 21 = .ok (.iconst 0, 1) := by decide +kernel
theorem dX1_isPlanned_22 : decode cX1_isPlanned 22 = .ok (.ireturn, 1) := by decide +kernel
theorem dX1_isPlanned_23 : decode cX1_isPlanned 23 = .ok (.iinc 1 1, 3) := by decide +kernel
theorem dX1_isPlanned_26 : decode cX1_isPlanned 26 = .ok (.goto (-24), 3) := by decide +kernel
theorem dX1_isPlanned_29 : decode cX1_isPlanned 29 = .ok (.iconst 1, 1) := by decide +kernel
theorem dX1_isPlanned_30 : decode cX1_isPlanned 30 = .ok (.ireturn, 1) := by decide +kernel
theorem dX2_init_0 : decode cX2_init 0 = .ok (.aload_n 0, 1) := by decide +kernel
theorem dX2_init_1 : decode cX2_init 1 = .ok (.invokespecial 1, 3) := by decide +kernel
theorem dX2_init_4 : decode cX2_init 4 = .ok (.aload_n 0, 1) := by decide +kernel
theorem dX2_init_5 : decode cX2_init 5 = .ok (.new 7, 3) := by decide +kernel
theorem dX2_init_8 : decode cX2_init 8 = .ok (.dup, 1) := by decide +kernel
theorem dX2_init_9 : decode cX2_init 9 = .ok (.invokespecial 9, 3) := by decide +kernel
theorem dX2_init_12 : decode cX2_init 12 = .ok (.putfield 10, 3) := by decide +kernel
theorem dX2_init_15 : decode cX2_init 15 = .ok (.aload_n 0, 1) := by decide +kernel
theorem dX2_init_16 : decode cX2_init 16 = .ok (.new 7, 3) := by decide +kernel
theorem dX2_init_19 : decode cX2_init 19 = .ok (.dup, 1) := by decide +kernel
theorem dX2_init_20 : decode cX2_init 20 = .ok (.invokespecial 9, 3) := by decide +kernel
theorem dX2_init_23 : decode cX2_init 23 = .ok (.putfield 16, 3) := by decide +kernel
theorem dX2_init_26 : decode cX2_init 26 = .ok (.return_, 1) := by decide +kernel
theorem dX2_clear_0 : decode cX2_clear 0 = .ok (.aload_n 0, 1) := by decide +kernel
theorem dX2_clear_1 : decode cX2_clear 1 = .ok (.getfield 10, 3) := by decide +kernel
theorem dX2_clear_4 : decode cX2_clear 4 = .ok (.invokevirtual 19, 3) := by decide +kernel
theorem dX2_clear_7 : decode cX2_clear 7 = .ok (.aload_n 0, 1) := by decide +kernel
theorem dX2_clear_8 : decode cX2_clear 8 = .ok (.getfield 16, 3) := by decide +kernel
theorem dX2_clear_11 : decode cX2_clear 11 = .ok (.invokevirtual 19, 3) := by decide +kernel
theorem dX2_clear_14 : decode cX2_clear 14 = .ok (.return_, 1) := by decide +kernel
theorem dX2_addAll_0 : decode cX2_addAll 0 = .ok (.iconst 0, 1) := by decide +kernel
theorem dX2_addAll_1 : decode cX2_addAll 1 = .ok (.istore_n 2, 1) := by decide +kernel
theorem dX2_addAll_2 : decode cX2_addAll 2 = .ok (.iload_n 2, 1) := by decide +kernel
theorem dX2_addAll_3 : decode cX2_addAll 3 = .ok (.iload_n 1, 1) := by decide +kernel
theorem dX2_addAll_4 : decode cX2_addAll 4 = .ok (.if_icmp .ge 25, 3) := by decide +kernel
theorem dX2_addAll_7 : decode cX2_addAll 7 = .ok (.aload_n 0, 1) := by decide +kernel
theorem dX2_addAll_8 : decode cX2_addAll 8 = .ok (.getfield 10, 3) := by decide +kernel
theorem dX2_addAll_11 : decode cX2_addAll 11 = .ok (.iload_n 2, 1) := by decide +kernel
theorem dX2_addAll_12 : decode cX2_addAll 12 = .ok (.invokevirtual 22, 3) := by decide +kernel
theorem dX2_addAll_15 : decode cX2_addAll 15 = .ok (.aload_n 0, 1) := by decide +kernel
theorem dX2_addAll_16 : decode cX2_addAll 16 = .ok (.getfield 16, 3) := by decide +kernel
theorem dX2_addAll_19 : decode cX2_addAll 19 = .ok (.iload_n 2, 1) := by decide +kernel
theorem dX2_addAll_20 : decode cX2_addAll 20 = .ok (.invokevirtual 22, 3) := by decide +kernel
theorem dX2_addAll_23 : decode cX2_addAll 23 = .ok (.iinc 2 1, 3) := by decide +kernel
theorem dX2_addAll_26 : decode cX2_addAll 26 = .ok (.goto (-24), 3) := by decide +kernel
theorem dX2_addAll_29 : decode cX2_addAll 29 = .ok (.return_, 1) := by decide +kernel
theorem dX2_becomeCommon_0 : decode cX2_becomeCommon 0 = .ok (.aload_n 0, 1) := by decide +kernel
theorem dX2_becomeCommon_1 : decode cX2_becomeCommon 1 = .ok (.getfield 10, 3) := by decide +kernel
theorem dX2_becomeCommon_4 : decode cX2_becomeCommon 4 = .ok (.aload_n 1, 1) := by decide +kernel
theorem dX2_becomeCommon_5 : decode cX2_becomeCommon 5 = .ok (.getfield 10, 3) := by decide +kernel
theorem dX2_becomeCommon_8 : decode cX2_becomeCommon 8 = .ok (.aload_n 2, 1) := by decide +kernel
theorem dX2_becomeCommon_9 : decode cX2_becomeCommon 9 = .ok (.getfield 10, 3) := by decide +kernel
theorem dX2_becomeCommon_12 : decode cX2_becomeCommon 12 = .ok (.invokevirtual 26, 3) := by decide +kernel
theorem dX2_becomeCommon_15 : decode cX2_becomeCommon 15 = .ok (.aload_n 0, 1) := by decide +kernel
theorem dX2_becomeCommon_16 : decode cX2_becomeCommon 16 = .ok (.getfield 16, 3) := by decide +kernel
theorem dX2_becomeCommon_19 : decode cX2_becomeCommon 19 = .ok (.aload_n 1, 1) := by decide +kernel
theorem dX2_becomeCommon_20 : decode cX2_becomeCommon 20 = .ok (.getfield 16, 3) := by decide +kernel
theorem dX2_becomeCommon_23 : decode cX2_becomeCommon 23 = .ok (.aload_n 2, 1) := by decide +kernel
theorem dX2_becomeCommon_24 : decode cX2_becomeCommon 24 = .ok (.getfield 16, 3) := by decide +kernel
theorem dX2_becomeCommon_27 : decode cX2_becomeCommon 27 = .ok (.invokevirtual 26, 3) := by decide +kernel
theorem dX2_becomeCommon_30 : decode cX2_becomeCommon 30 = .ok (.return_, 1) := by decide +kernel
theorem dX2_countCommon_0 : decode cX2_countCommon 0 = .ok (.aload_n 0, 1) := by decide +kernel
theorem dX2_countCommon_1 : decode cX2_countCommon 1 = .ok (.getfield 10, 3) := by decide +kernel
theorem dX2_countCommon_4 : decode cX2_countCommon 4 = .ok (.aload_n 1, 1) := by decide +kernel
theorem dX2_countCommon_5 : decode cX2_countCommon 5 = .ok (.getfield 10, 3) := by decide +kernel
theorem dX2_countCommon_8 : decode cX2_countCommon 8 = .ok (.invokevirtual 30, 3) := by decide +kernel
theorem dX2_countCommon_11 : decode cX2_countCommon 11 = .ok (.aload_n 0, 1) := by decide +kernel
theorem dX2_countCommon_12 : decode cX2_countCommon 12 = .ok (.getfield 16, 3) := by decide +kernel
theorem dX2_countCommon_15 : decode cX2_countCommon 15 = .ok (.aload_n 1, 1) := by decide +kernel
theorem dX2_countCommon_16 : decode cX2_countCommon 16 = .ok (.getfield 16, 3) := by decide +kernel
theorem dX2_countCommon_19 : decode cX2_countCommon 19 = .ok (.invokevirtual 30, 3) := by decide +kernel
theorem dX2_countCommon_22 : decode cX2_countCommon 22 = .ok (.iadd, 1) := by decide +kernel
theorem dX2_countCommon_23 : decode cX2_countCommon 23 = .ok (.ireturn, 1) := by decide +kernel
theorem dX2_turn_0 : decode cX2_turn 0 = .ok (.aload_n 0, 1) := by decide +kernel
theorem dX2_turn_1 : decode cX2_turn 1 = .ok (.getfield 10, 3) := by decide +kernel
theorem dX2_turn_4 : decode cX2_turn 4 = .ok (.iload_n 1, 1) := by decide +kernel
theorem dX2_turn_5 : decode cX2_turn 5 = .ok (.invokevirtual 34, 3) := by decide +kernel
theorem dX2_turn_8 : decode cX2_turn 8 = .ok (.aload_n 0, 1) := by decide +kernel
theorem dX2_turn_9 : decode cX2_turn 9 = .ok (.getfield 16, 3) := by decide +kernel
theorem dX2_turn_12 : decode cX2_turn 12 = .ok (.iload_n 1, 1) := by decide +kernel
theorem dX2_turn_13 : decode cX2_turn 13 = .ok (.invokevirtual 34, 3) := by decide +kernel
theorem dX2_turn_16 : decode cX2_turn 16 = .ok (.return_, 1) := by decide +kernel
theorem dX3_init_0 : decode cX3_init 0 = .ok (.aload_n 0, 1) := by decide +kernel
theorem dX3_init_1 : decode cX3_init 1 = .ok (.invokespecial 3, 3) := by decide +kernel
theorem dX3_init_4 : decode cX3_init 4 = .ok (.aload_n 0, 1) := by decide +kernel
theorem dX3_init_5 : decode cX3_init 5 = .ok (.bipush 16, 2) := by decide +kernel
theorem dX3_init_7 : decode cX3_init 7 = .ok (.newarray .int, 2) := by decide +kernel
theorem dX3_init_9 : decode cX3_init 9 = .ok (.putfield 9, 3) := by decide +kernel
theorem dX3_init_12 : decode cX3_init 12 = .ok (.aload_n 0, 1) := by decide +kernel
theorem dX3_init_13 : decode cX3_init 13 = .ok (.iconst 4, 1) := by decide +kernel
theorem dX3_init_14 : decode cX3_init 14 = .ok (.newarray .int, 2) := by decide +kernel
theorem dX3_init_16 : decode cX3_init 16 = .ok (.putfield 15, 3) := by decide +kernel
theorem dX3_init_19 : decode cX3_init 19 = .ok (.aload_n 0, 1) := by decide +kernel
theorem dX3_init_20 : decode cX3_init 20 = .ok (.iconst 4, 1) := by decide +kernel
theorem dX3_init_21 : decode cX3_init 21 = .ok (.newarray .int, 2) := by decide +kernel
theorem dX3_init_23 : decode cX3_init 23 = .ok (.putfield 18, 3) := by decide +kernel
theorem dX3_init_26 : decode cX3_init 26 = .ok (.aload_n 0, 1) := by decide +kernel
theorem dX3_init_27 : decode cX3_init 27 = .ok (.iconst 4, 1) := by decide +kernel
theorem dX3_init_28 : decode cX3_init 28 = .ok (.newarray .int, 2) := by decide +kernel
theorem dX3_init_30 : decode cX3_init 30 = .ok (.putfield 21, 3) := by decide +kernel
theorem dX3_init_33 : decode cX3_init 33 = .ok (.aload_n 0, 1) := by decide +kernel
theorem dX3_init_34 : decode cX3_init 34 = .ok (.iconst 4, 1) := by decide +kernel
theorem dX3_init_35 : decode cX3_init 35 = .ok (.newarray .int, 2) := by decide +kernel
theorem dX3_init_37 : decode cX3_init 37 = .ok (.putfield 24, 3) := by decide +kernel
theorem dX3_init_40 : decode cX3_init 40 = .ok (.aload_n 0, 1) := by decide +kernel
theorem dX3_init_41 : decode cX3_init 41 = .ok (.bipush 90, 2) := by decide +kernel
theorem dX3_init_43 : decode cX3_init 43 = .ok (.newarray .int, 2) := by decide +kernel
theorem dX3_init_45 : decode cX3_init 45 = .ok (.putfield 27, 3) := by decide +kernel
theorem dX3_init_48 : decode cX3_init 48 = .ok (.aload_n 0, 1) := by decide +kernel
theorem dX3_init_49 : decode cX3_init 49 = .ok (.new 30, 3) := by decide +kernel
theorem dX3_init_52 : decode cX3_init 52 = .ok (.dup, 1) := by decide +kernel
theorem dX3_init_53 : decode cX3_init 53 = .ok (.invokespecial 32, 3) := by decide +kernel
theorem dX3_init_56 : decode cX3_init 56 = .ok (.putfield 33, 3) := by decide +kernel
theorem dX3_init_59 : decode cX3_init 59 = .ok (.return_, 1) := by decide +kernel
theorem dX3_reset_0 : decode cX3_reset 0 = .ok (.aload_n 0, 1) := by decide +kernel
theorem dX3_reset_1 : decode cX3_reset 1 = .ok (.iload_n 1, 1) := by decide +kernel
theorem dX3_reset_2 : decode cX3_reset 2 = .ok (.putfield 37, 3) := by decide +kernel
theorem dX3_reset_5 : decode cX3_reset 5 = .ok (.aload_n 0, 1) := by decide +kernel
theorem dX3_reset_6 : decode cX3_reset 6 = .ok (.iconst 0, 1) := by decide +kernel
theorem dX3_reset_7 : decode cX3_reset 7 = .ok (.putfield 41, 3) := by decide +kernel
theorem dX3_reset_10 : decode cX3_reset 10 = .ok (.aload_n 0, 1) := by decide +kernel
theorem dX3_reset_11 : decode cX3_reset 11 = .ok (.iconst 0, 1) := by decide +kernel
theorem dX3_reset_12 : decode cX3_reset 12 = .ok (.putfield 44, 3) := by decide +kernel
theorem dX3_reset_15 : decode cX3_reset 15 = .ok (.aload_n 0, 1) := by decide +kernel
theorem dX3_reset_16 : decode cX3_reset 16 = .ok (.iconst 0, 1) := by decide +kernel
theorem dX3_reset_17 : decode cX3_reset 17 = .ok (.putfield 47, 3) := by decide +kernel
theorem dX3_reset_20 : decode cX3_reset 20 = .ok (.aload_n 0, 1) := by decide +kernel
theorem dX3_reset_21 : decode cX3_reset 21 = .ok (.iconst 0, 1) := by decide +kernel
theorem dX3_reset_22 : decode cX3_reset 22 = .ok (.putfield 50, 3) := by decide +kernel
theorem dX3_reset_25 : decode cX3_reset 25 = .ok (.aload_n 0, 1) := by decide +kernel
theorem dX3_reset_26 : decode cX3_reset 26 = .ok (.iconst (-1), 1) := by decide +kernel
theorem dX3_reset_27 : decode cX3_reset 27 = .ok (.putfield 53, 3) := by decide +kernel
theorem dX3_reset_30 : decode cX3_reset 30 = .ok (.aload_n 0, 1) := by decide +kernel
theorem dX3_reset_31 : decode cX3_reset 31 = .ok (.iconst (-1), 1) := by decide +kernel
theorem dX3_reset_32 : decode cX3_reset 32 = .ok (.putfield 56, 3) := by decide +kernel
theorem dX3_reset_35 : decode cX3_reset 35 = .ok (.aload_n 0, 1) := by decide +kernel
theorem dX3_reset_36 : decode cX3_reset 36 = .ok (.iconst 0, 1) := by decide +kernel
theorem dX3_reset_37 : decode cX3_reset 37 = .ok (.putfield 59, 3) := by decide +kernel
theorem dX3_reset_40 : decode cX3_reset 40 = .ok (.aload_n 0, 1) := by decide +kernel
theorem dX3_reset_41 : decode cX3_reset 41 = .ok (.getfield 33, 3) := by decide +kernel
theorem dX3_reset_44 : decode cX3_reset 44 = .ok (.invokevirtual 62, 3) := by decide +kernel
theorem dX3_reset_47 : decode cX3_reset 47 = .ok (.aload_n 0, 1) := by decide +kernel
theorem dX3_reset_48 : decode cX3_reset 48 = .ok (.getfield 18, 3) := by decide +kernel
theorem dX3_reset_51 : decode cX3_reset 51 = .ok (.iconst 0, 1) := by decide +kernel
theorem dX3_reset_52 : decode cX3_reset 52 = .ok (.invokestatic 65, 3) := by decide +kernel
theorem dX3_reset_55 : decode cX3_reset 55 = .ok (.aload_n 0, 1) := by decide +kernel
theorem dX3_reset_56 : decode cX3_reset 56 = .ok (.getfield 9, 3) := by decide +kernel
theorem dX3_reset_59 : decode cX3_reset 59 = .ok (.iconst (-1), 1) := by decide +kernel
theorem dX3_reset_60 : decode cX3_reset 60 = .ok (.invokestatic 65, 3) := by decide +kernel
theorem dX3_reset_63 : decode cX3_reset 63 = .ok (.aload_n 0, 1) := by decide +kernel
theorem dX3_reset_64 : decode cX3_reset 64 = .ok (.iconst 0, 1) := by decide +kernel
theorem dX3_reset_65 : decode cX3_reset 65 = .ok (.iconst 2, 1) := by decide +kernel
theorem dX3_reset_66 : decode cX3_reset 66 = .ok (.iconst 3, 1) := by decide +kernel
theorem dX3_reset_67 : decode cX3_reset 67 = .ok (.invokevirtual 71, 3) := by decide +kernel
theorem dX3_reset_70 : decode cX3_reset 70 = .ok (.aload_n 0, 1) := by decide +kernel
theorem dX3_reset_71 : decode cX3_reset 71 = .ok (.iconst 0, 1) := by decide +kernel
theorem dX3_reset_72 : decode cX3_reset 72 = .ok (.iconst 3, 1) := by decide +kernel
theorem dX3_reset_73 : decode cX3_reset 73 = .ok (.iconst 3, 1) := by decide +kernel
theorem dX3_reset_74 : decode cX3_reset 74 = .ok (.invokevirtual 71, 3) := by decide +kernel
theorem dX3_reset_77 : decode cX3_reset 77 = .ok (.aload_n 0, 1) := by decide +kernel
theorem dX3_reset_78 : decode cX3_reset 78 = .ok (.iconst 1, 1) := by decide +kernel
theorem dX3_reset_79 : decode cX3_reset 79 = .ok (.iconst 2, 1) := by decide +kernel
theorem dX3_reset_80 : decode cX3_reset 80 = .ok (.iconst 3, 1) := by decide +kernel
theorem dX3_reset_81 : decode cX3_reset 81 = .ok (.invokevirtual 71, 3) := by decide +kernel
theorem dX3_reset_84 : decode cX3_reset 84 = .ok (.aload_n 0, 1) := by decide +kernel
theorem dX3_reset_85 : decode cX3_reset 85 = .ok (.iconst 1, 1) := by decide +kernel
theorem dX3_reset_86 : decode cX3_reset 86 = .ok (.iconst 3, 1) := by decide +kernel
theorem dX3_reset_87 : decode cX3_reset 87 = .ok (.iconst 3, 1) := by decide +kernel
theorem dX3_reset_88 : decode cX3_reset 88 = .ok (.invokevirtual 71, 3) := by decide +kernel
theorem dX3_reset_91 : decode cX3_reset 91 = .ok (.aload_n 0, 1) := by decide +kernel
theorem dX3_reset_92 : decode cX3_reset 92 = .ok (.iconst 3, 1) := by decide +kernel
theorem dX3_reset_93 : decode cX3_reset 93 = .ok (.bipush 12, 2) := by decide +kernel
theorem dX3_reset_95 : decode cX3_reset 95 = .ok (.iconst 0, 1) := by decide +kernel
theorem dX3_reset_96 : decode cX3_reset 96 = .ok (.iconst 0, 1) := by decide +kernel
theorem dX3_reset_97 : decode cX3_reset 97 = .ok (.invokevirtual 75, 3) := by decide +kernel
theorem dX3_reset_100 : decode cX3_reset 100 = .ok (.aload_n 0, 1) := by decide +kernel
theorem dX3_reset_101 : decode cX3_reset 101 = .ok (.invokevirtual 79, 3) := by decide +kernel
theorem dX3_reset_104 : decode cX3_reset 104 = .ok (.return_, 1) := by decide +kernel
theorem dX3_clearanceOf_0 : decode cX3_clearanceOf 0 = .ok (.aload_n 0, 1) := by decide +kernel
theorem dX3_clearanceOf_1 : decode cX3_clearanceOf 1 = .ok (.getfield 9, 3) := by decide +kernel
theorem dX3_clearanceOf_4 : decode cX3_clearanceOf 4 = .ok (.iload_n 1, 1) := by decide +kernel
theorem dX3_clearanceOf_5 : decode cX3_clearanceOf 5 = .ok (.iconst 4, 1) := by decide +kernel
theorem dX3_clearanceOf_6 : decode cX3_clearanceOf 6 = .ok (.imul, 1) := by decide +kernel
theorem dX3_clearanceOf_7 : decode cX3_clearanceOf 7 = .ok (.iload_n 2, 1) := by decide +kernel
theorem dX3_clearanceOf_8 : decode cX3_clearanceOf 8 = .ok (.iadd, 1) := by decide +kernel
theorem dX3_clearanceOf_9 : decode cX3_clearanceOf 9 = .ok (.invokestatic 82, 3) := by decide +kernel
theorem dX3_clearanceOf_12 : decode cX3_clearanceOf 12 = .ok (.ireturn, 1) := by decide +kernel
theorem dX3_writeClearance_0 : decode cX3_writeClearance 0 = .ok (.aload_n 0, 1) := by decide +kernel
theorem dX3_writeClearance_1 : decode cX3_writeClearance 1 = .ok (.getfield 9, 3) := by decide +kernel
theorem dX3_writeClearance_4 : decode cX3_writeClearance 4 = .ok (.iload_n 1, 1) := by decide +kernel
theorem dX3_writeClearance_5 : decode cX3_writeClearance 5 = .ok (.iconst 4, 1) := by decide +kernel
theorem dX3_writeClearance_6 : decode cX3_writeClearance 6 = .ok (.imul, 1) := by decide +kernel
theorem dX3_writeClearance_7 : decode cX3_writeClearance 7 = .ok (.iload_n 2, 1) := by decide +kernel
theorem dX3_writeClearance_8 : decode cX3_writeClearance 8 = .ok (.iadd, 1) := by decide +kernel
theorem dX3_writeClearance_9 : decode cX3_writeClearance 9 = .ok (.iload_n 3, 1) := by decide +kernel
theorem dX3_writeClearance_10 : decode cX3_writeClearance 10 = .ok (.invokestatic 86, 3) := by decide +kernel
theorem dX3_writeClearance_13 : decode cX3_writeClearance 13 = .ok (.aload_n 0, 1) := by decide +kernel
theorem dX3_writeClearance_14 : decode cX3_writeClearance 14 = .ok (.getfield 9, 3) := by decide +kernel
theorem dX3_writeClearance_17 : decode cX3_writeClearance 17 = .ok (.iload_n 2, 1) := by decide +kernel
theorem dX3_writeClearance_18 : decode cX3_writeClearance 18 = .ok (.iconst 4, 1) := by decide +kernel
theorem dX3_writeClearance_19 : decode cX3_writeClearance 19 = .ok (.imul, 1) := by decide +kernel
theorem dX3_writeClearance_20 : decode cX3_writeClearance 20 = .ok (.iload_n 1, 1) := by decide +kernel
theorem dX3_writeClearance_21 : decode cX3_writeClearance 21 = .ok (.iadd, 1) := by decide +kernel
theorem dX3_writeClearance_22 : decode cX3_writeClearance 22 = .ok (.iload_n 3, 1) := by decide +kernel
theorem dX3_writeClearance_23 : decode cX3_writeClearance 23 = .ok (.invokestatic 86, 3) := by decide +kernel
theorem dX3_writeClearance_26 : decode cX3_writeClearance 26 = .ok (.return_, 1) := by decide +kernel
theorem dX3_changeClearance_0 : decode cX3_changeClearance 0 = .ok (.aload_n 0, 1) := by decide +kernel
theorem dX3_changeClearance_1 : decode cX3_changeClearance 1 = .ok (.iload_n 1, 1) := by decide +kernel
theorem dX3_changeClearance_2 : decode cX3_changeClearance 2 = .ok (.iload_n 2, 1) := by decide +kernel
theorem dX3_changeClearance_3 : decode cX3_changeClearance 3 = .ok (.iload_n 3, 1) := by decide +kernel
theorem dX3_changeClearance_4 : decode cX3_changeClearance 4 = .ok (.invokevirtual 71, 3) := by decide +kernel
theorem dX3_changeClearance_7 : decode cX3_changeClearance 7 = .ok (.aload_n 0, 1) := by decide +kernel
theorem dX3_changeClearance_8 : decode cX3_changeClearance 8 = .ok (.invokevirtual 79, 3) := by decide +kernel
theorem dX3_changeClearance_11 : decode cX3_changeClearance 11 = .ok (.return_, 1) := by decide +kernel
theorem dX3_writeSets_0 : decode cX3_writeSets 0 = .ok (.aload_n 0, 1) := by decide +kernel
theorem dX3_writeSets_1 : decode cX3_writeSets 1 = .ok (.getfield 15, 3) := by decide +kernel
theorem dX3_writeSets_4 : decode cX3_writeSets 4 = .ok (.iconst 0, 1) := by decide +kernel
theorem dX3_writeSets_5 : decode cX3_writeSets 5 = .ok (.iload_n 1, 1) := by decide +kernel
theorem dX3_writeSets_6 : decode cX3_writeSets 6 = .ok (.invokestatic 86, 3) := by decide +kernel
theorem dX3_writeSets_9 : decode cX3_writeSets 9 = .ok (.aload_n 0, 1) := by decide +kernel
theorem dX3_writeSets_10 : decode cX3_writeSets 10 = .ok (.getfield 15, 3) := by decide +kernel
theorem dX3_writeSets_13 : decode cX3_writeSets 13 = .ok (.iconst 1, 1) := by decide +kernel
theorem dX3_writeSets_14 : decode cX3_writeSets 14 = .ok (.iload_n 2, 1) := by decide +kernel
theorem dX3_writeSets_15 : decode cX3_writeSets 15 = .ok (.invokestatic 86, 3) := by decide +kernel
theorem dX3_writeSets_18 : decode cX3_writeSets 18 = .ok (.aload_n 0, 1) := by decide +kernel
theorem dX3_writeSets_19 : decode cX3_writeSets 19 = .ok (.getfield 15, 3) := by decide +kernel
theorem dX3_writeSets_22 : decode cX3_writeSets 22 = .ok (.iconst 2, 1) := by decide +kernel
theorem dX3_writeSets_23 : decode cX3_writeSets 23 = .ok (.iload_n 3, 1) := by decide +kernel
theorem dX3_writeSets_24 : decode cX3_writeSets 24 = .ok (.invokestatic 86, 3) := by decide +kernel
theorem dX3_writeSets_27 : decode cX3_writeSets 27 = .ok (.aload_n 0, 1) := by decide +kernel
theorem dX3_writeSets_28 : decode cX3_writeSets 28 = .ok (.getfield 15, 3) := by decide +kernel
theorem dX3_writeSets_31 : decode cX3_writeSets 31 = .ok (.iconst 3, 1) := by decide +kernel
theorem dX3_writeSets_32 : decode cX3_writeSets 32 = .ok (.iload 4, 2) := by decide +kernel
theorem dX3_writeSets_34 : decode cX3_writeSets 34 = .ok (.invokestatic 86, 3) := by decide +kernel
theorem dX3_writeSets_37 : decode cX3_writeSets 37 = .ok (.aload_n 0, 1) := by decide +kernel
theorem dX3_writeSets_38 : decode cX3_writeSets 38 = .ok (.iload_n 2, 1) := by decide +kernel
theorem dX3_writeSets_39 : decode cX3_writeSets 39 = .ok (.ifCond .ne 7, 3) := by decide +kernel
theorem dX3_writeSets_42 : decode cX3_writeSets 42 = .ok (.iconst 1, 1) := by decide +kernel
theorem dX3_writeSets_43 : decode cX3_writeSets 43 = .ok (.goto 21, 3) := by decide +kernel
theorem dX3_writeSets_46 : decode cX3_writeSets 46 = .ok (.iload_n 3, 1) := by decide +kernel
theorem dX3_writeSets_47 : decode cX3_writeSets 47 = .ok (.ifCond .ne 7, 3) := by decide +kernel
theorem dX3_writeSets_50 : decode cX3_writeSets 50 = .ok (.iconst 2, 1) := by decide +kernel
theorem dX3_writeSets_51 : decode cX3_writeSets 51 = .ok (.goto 13, 3) := by decide +kernel
theorem dX3_writeSets_54 : decode cX3_writeSets 54 = .ok (.iload 4, 2) := by decide +kernel
theorem dX3_writeSets_56 : decode cX3_writeSets 56 = .ok (.ifCond .ne 7, 3) := by decide +kernel
theorem dX3_writeSets_59 : decode cX3_writeSets 59 = .ok (.iconst 3, 1) := by decide +kernel
theorem dX3_writeSets_60 : decode cX3_writeSets 60 = .ok (.goto 4, 3) := by decide +kernel
theorem dX3_writeSets_63 : decode cX3_writeSets 63 = .ok (.iconst 4, 1) := by decide +kernel
theorem dX3_writeSets_64 : decode cX3_writeSets 64 = .ok (.putfield 90, 3) := by decide +kernel
theorem dX3_writeSets_67 : decode cX3_writeSets 67 = .ok (.return_, 1) := by decide +kernel
theorem dX3_changePhases_0 : decode cX3_changePhases 0 = .ok (.aload_n 0, 1) := by decide +kernel
theorem dX3_changePhases_1 : decode cX3_changePhases 1 = .ok (.iload_n 1, 1) := by decide +kernel
theorem dX3_changePhases_2 : decode cX3_changePhases 2 = .ok (.iload_n 2, 1) := by decide +kernel
theorem dX3_changePhases_3 : decode cX3_changePhases 3 = .ok (.iload_n 3, 1) := by decide +kernel
theorem dX3_changePhases_4 : decode cX3_changePhases 4 = .ok (.iload 4, 2) := by decide +kernel
theorem dX3_changePhases_6 : decode cX3_changePhases 6 = .ok (.invokevirtual 75, 3) := by decide +kernel
theorem dX3_changePhases_9 : decode cX3_changePhases 9 = .ok (.aload_n 0, 1) := by decide +kernel
theorem dX3_changePhases_10 : decode cX3_changePhases 10 = .ok (.invokevirtual 79, 3) := by decide +kernel
theorem dX3_changePhases_13 : decode cX3_changePhases 13 = .ok (.return_, 1) := by decide +kernel
theorem dX3_flowOf_0 : decode cX3_flowOf 0 = .ok (.aload_n 0, 1) := by decide +kernel
theorem dX3_flowOf_1 : decode cX3_flowOf 1 = .ok (.getfield 18, 3) := by decide +kernel
theorem dX3_flowOf_4 : decode cX3_flowOf 4 = .ok (.iload_n 1, 1) := by decide +kernel
theorem dX3_flowOf_5 : decode cX3_flowOf 5 = .ok (.invokestatic 82, 3) := by decide +kernel
theorem dX3_flowOf_8 : decode cX3_flowOf 8 = .ok (.ireturn, 1) := by decide +kernel
theorem dX3_changeFlow_0 : decode cX3_changeFlow 0 = .ok (.aload_n 0, 1) := by decide +kernel
theorem dX3_changeFlow_1 : decode cX3_changeFlow 1 = .ok (.getfield 18, 3) := by decide +kernel
theorem dX3_changeFlow_4 : decode cX3_changeFlow 4 = .ok (.iload_n 1, 1) := by decide +kernel
theorem dX3_changeFlow_5 : decode cX3_changeFlow 5 = .ok (.iload_n 2, 1) := by decide +kernel
theorem dX3_changeFlow_6 : decode cX3_changeFlow 6 = .ok (.invokestatic 86, 3) := by decide +kernel
theorem dX3_changeFlow_9 : decode cX3_changeFlow 9 = .ok (.aload_n 0, 1) := by decide +kernel
theorem dX3_changeFlow_10 : decode cX3_changeFlow 10 = .ok (.invokevirtual 79, 3) := by decide +kernel
theorem dX3_changeFlow_13 : decode cX3_changeFlow 13 = .ok (.return_, 1) := by decide +kernel
theorem dX3_haveOnePhase_0 : decode cX3_haveOnePhase 0 = .ok (.iconst 0, 1) := by decide +kernel
theorem dX3_haveOnePhase_1 : decode cX3_haveOnePhase 1 = .ok (.istore_n 3, 1) := by decide +kernel
theorem dX3_haveOnePhase_2 : decode cX3_haveOnePhase 2 = .ok (.iload_n 3, 1) := by decide +kernel
theorem dX3_haveOnePhase_3 : decode cX3_haveOnePhase 3 = .ok (.aload_n 0, 1) := by decide +kernel
theorem dX3_haveOnePhase_4 : decode cX3_haveOnePhase 4 = .ok (.getfield 90, 3) := by decide +kernel
theorem dX3_haveOnePhase_7 : decode cX3_haveOnePhase 7 = .ok (.if_icmp .ge 39, 3) := by decide +kernel
theorem dX3_haveOnePhase_10 : decode cX3_haveOnePhase 10 = .ok (.aload_n 0, 1) := by decide +kernel
theorem dX3_haveOnePhase_11 : decode cX3_haveOnePhase 11 = .ok (.getfield 15, 3) := by decide +kernel
theorem dX3_haveOnePhase_14 : decode cX3_haveOnePhase 14 = .ok (.iload_n 3, 1) := by decide +kernel
theorem dX3_haveOnePhase_15 : decode cX3_haveOnePhase 15 = .ok (.invokestatic 82, 3) := by decide +kernel
theorem dX3_haveOnePhase_18 : decode cX3_haveOnePhase 18 = .ok (.istore 4, 2) := by decide +kernel
theorem dX3_haveOnePhase_20 : decode cX3_haveOnePhase 20 = .ok (.iload 4, 2) := by decide +kernel
theorem dX3_haveOnePhase_22 : decode cX3_haveOnePhase 22 = .ok (.iload_n 1, 1) := by decide +kernel
theorem dX3_haveOnePhase_23 : decode cX3_haveOnePhase 23 = .ok (.invokestatic 93, 3) := by decide +kernel
theorem dX3_haveOnePhase_26 : decode cX3_haveOnePhase 26 = .ok (.ifCond .eq 14, 3) := by decide +kernel
theorem dX3_haveOnePhase_29 : decode cX3_haveOnePhase 29 = .ok (.iload 4, 2) := by decide +kernel
theorem dX3_haveOnePhase_31 : decode cX3_haveOnePhase 31 = .ok (.iload_n 2, 1) := by decide +kernel
theorem dX3_haveOnePhase_32 : decode cX3_haveOnePhase 32 = .ok (.invokestatic 93, 3) := by decide +kernel
theorem dX3_haveOnePhase_35 : decode cX3_haveOnePhase 35 = .ok (.ifCond .eq 5, 3) := by decide +kernel
theorem dX3_haveOnePhase_38 : decode cX3_haveOnePhase 38 = .ok (.iconst 1, 1) := by decide +kernel
theorem dX3_haveOnePhase_39 : decode cX3_haveOnePhase 39 = .ok (.ireturn, 1) := by decide +kernel
theorem dX3_haveOnePhase_40 : decode cX3_haveOnePhase 40 = .ok (.iinc 3 1, 3) := by decide +kernel
theorem dX3_haveOnePhase_43 : decode cX3_haveOnePhase 43 = .ok (.goto (-41), 3) := by decide +kernel
theorem dX3_haveOnePhase_46 : decode cX3_haveOnePhase 46 = .ok (.iconst 0, 1) := by decide +kernel
theorem dX3_haveOnePhase_47 : decode cX3_haveOnePhase 47 = .ok (.ireturn, 1) := by decide +kernel
theorem dX3_hasConflictIn_0 : decode cX3_hasConflictIn 0 = .ok (.aload_n 0, 1) := by decide +kernel
theorem dX3_hasConflictIn_1 : decode cX3_hasConflictIn 1 = .ok (.iload_n 1, 1) := by decide +kernel
theorem dX3_hasConflictIn_2 : decode cX3_hasConflictIn 2 = .ok (.iload_n 1, 1) := by decide +kernel
theorem dX3_hasConflictIn_3 : decode cX3_hasConflictIn 3 = .ok (.invokevirtual 97, 3) := by decide +kernel
theorem dX3_hasConflictIn_6 : decode cX3_hasConflictIn 6 = .ok (.iconst (-1), 1) := by decide +kernel
theorem dX3_hasConflictIn_7 : decode cX3_hasConflictIn 7 = .ok (.if_icmp .eq 7, 3) := by decide +kernel
theorem dX3_hasConflictIn_10 : decode cX3_hasConflictIn 10 = .ok (.iconst 1, 1) := by decide +kernel
theorem dX3_hasConflictIn_11 : decode cX3_hasConflictIn 11 = .ok (.goto 4, 3) := by decide +kernel
theorem dX3_hasConflictIn_14 : decode cX3_hasConflictIn 14 = .ok (.iconst 0, 1) := by decide +kernel
theorem dX3_hasConflictIn_15 : decode cX3_hasConflictIn 15 = .ok (.ireturn, 1) := by decide +kernel
theorem dX3_greatestClearance_0 : decode cX3_greatestClearance 0 = .ok (.iconst (-1), 1) := by decide +kernel
theorem dX3_greatestClearance_1 : decode cX3_greatestClearance 1 = .ok (.istore_n 3, 1) := by decide +kernel
theorem dX3_greatestClearance_2 : decode cX3_greatestClearance 2 = .ok (.iconst 0, 1) := by decide +kernel
theorem dX3_greatestClearance_3 : decode cX3_greatestClearance 3 = .ok (.istore 4, 2) := by decide +kernel
theorem dX3_greatestClearance_5 : decode cX3_greatestClearance 5 = .ok (.iload 4, 2) := by decide +kernel
theorem dX3_greatestClearance_7 : decode cX3_greatestClearance 7 = .ok (.iconst 4, 1) := by decide +kernel
theorem dX3_greatestClearance_8 : decode cX3_greatestClearance 8 = .ok (.if_icmp .ge 55, 3) := by decide +kernel
theorem dX3_greatestClearance_11 : decode cX3_greatestClearance 11 = .ok (.iconst 0, 1) := by decide +kernel
theorem dX3_greatestClearance_12 : decode cX3_greatestClearance 12 = .ok (.istore 5, 2) := by decide +kernel
theorem dX3_greatestClearance_14 : decode cX3_greatestClearance 14 = .ok (.iload 5, 2) := by decide +kernel
theorem dX3_greatestClearance_16 : decode cX3_greatestClearance 16 = .ok (.iconst 4, 1) := by decide +kernel
theorem dX3_greatestClearance_17 : decode cX3_greatestClearance 17 = .ok (.if_icmp .ge 40, 3) := by decide +kernel
theorem dX3_greatestClearance_20 : decode cX3_greatestClearance 20 = .ok (.iload_n 1, 1) := by decide +kernel
theorem dX3_greatestClearance_21 : decode cX3_greatestClearance 21 = .ok (.iload 4, 2) := by decide +kernel
theorem dX3_greatestClearance_23 : decode cX3_greatestClearance 23 = .ok (.invokestatic 93, 3) := by decide +kernel
theorem dX3_greatestClearance_26 : decode cX3_greatestClearance 26 = .ok (.ifCond .eq 25, 3) := by decide +kernel
theorem dX3_greatestClearance_29 : decode cX3_greatestClearance 29 = .ok (.iload_n 2, 1) := by decide +kernel
theorem dX3_greatestClearance_30 : decode cX3_greatestClearance 30 = .ok (.iload 5, 2) := by decide +kernel
theorem dX3_greatestClearance_32 : decode cX3_greatestClearance 32 = .ok (.invokestatic 93, 3) := by decide +kernel
theorem dX3_greatestClearance_35 : decode cX3_greatestClearance 35 = .ok (.ifCond .eq 16, 3) := by decide +kernel
theorem dX3_greatestClearance_38 : decode cX3_greatestClearance 38 = .ok (.iload_n 3, 1) := by decide +kernel
theorem dX3_greatestClearance_39 : decode cX3_greatestClearance 39 = .ok (.aload_n 0, 1) := by decide +kernel
theorem dX3_greatestClearance_40 : decode cX3_greatestClearance 40 = .ok (.iload 4, 2) := by decide +kernel
theorem dX3_greatestClearance_42 : decode cX3_greatestClearance 42 = .ok (.iload 5, 2) := by decide +kernel
theorem dX3_greatestClearance_44 : decode cX3_greatestClearance 44 = .ok (.invokevirtual 101, 3) := by decide +kernel
theorem dX3_greatestClearance_47 : decode cX3_greatestClearance 47 = .ok (.invokestatic 104, 3) := by decide +kernel
theorem dX3_greatestClearance_50 : decode cX3_greatestClearance 50 = .ok (.istore_n 3, 1) := by decide +kernel
theorem dX3_greatestClearance_51 : decode cX3_greatestClearance 51 = .ok (.iinc 5 1, 3) := by decide +kernel
theorem dX3_greatestClearance_54 : decode cX3_greatestClearance 54 = .ok (.goto (-40), 3) := by decide +kernel
theorem dX3_greatestClearance_57 : decode cX3_greatestClearance 57 = .ok (.iinc 4 1, 3) := by decide +kernel
theorem dX3_greatestClearance_60 : decode cX3_greatestClearance 60 = .ok (.goto (-55), 3) := by decide +kernel
theorem dX3_greatestClearance_63 : decode cX3_greatestClearance 63 = .ok (.iload_n 3, 1) := by decide +kernel
theorem dX3_greatestClearance_64 : decode cX3_greatestClearance 64 = .ok (.ireturn, 1) := by decide +kernel
theorem dX3_makePlan_0 : decode cX3_makePlan 0 = .ok (.aload_n 0, 1) := by decide +kernel
theorem dX3_makePlan_1 : decode cX3_makePlan 1 = .ok (.getfield 37, 3) := by decide +kernel
theorem dX3_makePlan_4 : decode cX3_makePlan 4 = .ok (.istore_n 1, 1) := by decide +kernel
theorem dX3_makePlan_5 : decode cX3_makePlan 5 = .ok (.iconst 0, 1) := by decide +kernel
theorem dX3_makePlan_6 : decode cX3_makePlan 6 = .ok (.istore_n 2, 1) := by decide +kernel
theorem dX3_makePlan_7 : decode cX3_makePlan 7 = .ok (.iconst 0, 1) := by decide +kernel
theorem dX3_makePlan_8 : decode cX3_makePlan 8 = .ok (.istore_n 3, 1) := by decide +kernel
theorem dX3_makePlan_9 : decode cX3_makePlan 9 = .ok (.iload_n 3, 1) := by decide +kernel
theorem dX3_makePlan_10 : decode cX3_makePlan 10 = .ok (.aload_n 0, 1) := by decide +kernel
theorem dX3_makePlan_11 : decode cX3_makePlan 11 = .ok (.getfield 90, 3) := by decide +kernel
theorem dX3_makePlan_14 : decode cX3_makePlan 14 = .ok (.if_icmp .ge 84, 3) := by decide +kernel
theorem dX3_makePlan_17 : decode cX3_makePlan 17 = .ok (.iload_n 3, 1) := by decide +kernel
theorem dX3_makePlan_18 : decode cX3_makePlan 18 = .ok (.iconst 1, 1) := by decide +kernel
theorem dX3_makePlan_19 : decode cX3_makePlan 19 = .ok (.iadd, 1) := by decide +kernel
theorem dX3_makePlan_20 : decode cX3_makePlan 20 = .ok (.aload_n 0, 1) := by decide +kernel
theorem dX3_makePlan_21 : decode cX3_makePlan 21 = .ok (.getfield 90, 3) := by decide +kernel
theorem dX3_makePlan_24 : decode cX3_makePlan 24 = .ok (.if_icmp .ge 9, 3) := by decide +kernel
theorem dX3_makePlan_27 : decode cX3_makePlan 27 = .ok (.iload_n 3, 1) := by decide +kernel
theorem dX3_makePlan_28 : decode cX3_makePlan 28 = .ok (.iconst 1, 1) := by decide +kernel
theorem dX3_makePlan_29 : decode cX3_makePlan 29 = .ok (.iadd, 1) := by decide +kernel
theorem dX3_makePlan_30 : decode cX3_makePlan 30 = .ok (.goto 4, 3) := by decide +kernel
theorem dX3_makePlan_33 : decode cX3_makePlan 33 = .ok (.iconst 0, 1) := by decide +kernel
theorem dX3_makePlan_34 : decode cX3_makePlan 34 = .ok (.istore 4, 2) := by decide +kernel
theorem dX3_makePlan_36 : decode cX3_makePlan 36 = .ok (.iconst 0, 1) := by decide +kernel
theorem dX3_makePlan_37 : decode cX3_makePlan 37 = .ok (.aload_n 0, 1) := by decide +kernel
theorem dX3_makePlan_38 : decode cX3_makePlan 38 = .ok (.aload_n 0, 1) := by decide +kernel
theorem dX3_makePlan_39 : decode cX3_makePlan 39 = .ok (.getfield 15, 3) := by decide +kernel
theorem dX3_makePlan_42 : decode cX3_makePlan 42 = .ok (.iload_n 3, 1) := by decide +kernel
theorem dX3_makePlan_43 : decode cX3_makePlan 43 = .ok (.invokestatic 82, 3) := by decide +kernel
theorem dX3_makePlan_46 : decode cX3_makePlan 46 = .ok (.aload_n 0, 1) := by decide +kernel
theorem dX3_makePlan_47 : decode cX3_makePlan 47 = .ok (.getfield 15, 3) := by decide +kernel
theorem dX3_makePlan_50 : decode cX3_makePlan 50 = .ok (.iload 4, 2) := by decide +kernel
theorem dX3_makePlan_52 : decode cX3_makePlan 52 = .ok (.invokestatic 82, 3) := by decide +kernel
theorem dX3_makePlan_55 : decode cX3_makePlan 55 = .ok (.invokevirtual 97, 3) := by decide +kernel
theorem dX3_makePlan_58 : decode cX3_makePlan 58 = .ok (.invokestatic 104, 3) := by decide +kernel
theorem dX3_makePlan_61 : decode cX3_makePlan 61 = .ok (.istore 5, 2) := by decide +kernel
theorem dX3_makePlan_63 : decode cX3_makePlan 63 = .ok (.aload_n 0, 1) := by decide +kernel
theorem dX3_makePlan_64 : decode cX3_makePlan 64 = .ok (.getfield 24, 3) := by decide +kernel
theorem dX3_makePlan_67 : decode cX3_makePlan 67 = .ok (.iload_n 3, 1) := by decide +kernel
theorem dX3_makePlan_68 : decode cX3_makePlan 68 = .ok (.iload 5, 2) := by decide +kernel
theorem dX3_makePlan_70 : decode cX3_makePlan 70 = .ok (.invokestatic 86, 3) := by decide +kernel
theorem dX3_makePlan_73 : decode cX3_makePlan 73 = .ok (.iload_n 1, 1) := by decide +kernel
theorem dX3_makePlan_74 : decode cX3_makePlan 74 = .ok (.iload 5, 2) := by decide +kernel
theorem dX3_makePlan_76 : decode cX3_makePlan 76 = .ok (.aload_n 0, 1) := by decide +kernel
theorem dX3_makePlan_77 : decode cX3_makePlan 77 = .ok (.iload_n 3, 1) := by decide +kernel
theorem dX3_makePlan_78 : decode cX3_makePlan 78 = .ok (.invokevirtual 109, 3) := by decide +kernel
theorem dX3_makePlan_81 : decode cX3_makePlan 81 = .ok (.iadd, 1) := by decide +kernel
theorem dX3_makePlan_82 : decode cX3_makePlan 82 = .ok (.isub, 1) := by decide +kernel
theorem dX3_makePlan_83 : decode cX3_makePlan 83 = .ok (.istore_n 1, 1) := by decide +kernel
theorem dX3_makePlan_84 : decode cX3_makePlan 84 = .ok (.iload_n 2, 1) := by decide +kernel
theorem dX3_makePlan_85 : decode cX3_makePlan 85 = .ok (.aload_n 0, 1) := by decide +kernel
theorem dX3_makePlan_86 : decode cX3_makePlan 86 = .ok (.iload_n 3, 1) := by decide +kernel
theorem dX3_makePlan_87 : decode cX3_makePlan 87 = .ok (.invokevirtual 113, 3) := by decide +kernel
theorem dX3_makePlan_90 : decode cX3_makePlan 90 = .ok (.iadd, 1) := by decide +kernel
theorem dX3_makePlan_91 : decode cX3_makePlan 91 = .ok (.istore_n 2, 1) := by decide +kernel
theorem dX3_makePlan_92 : decode cX3_makePlan 92 = .ok (.iinc 3 1, 3) := by decide +kernel
theorem dX3_makePlan_95 : decode cX3_makePlan 95 = .ok (.goto (-86), 3) := by decide +kernel
theorem dX3_makePlan_98 : decode cX3_makePlan 98 = .ok (.aload_n 0, 1) := by decide +kernel
theorem dX3_makePlan_99 : decode cX3_makePlan 99 = .ok (.iload_n 1, 1) := by decide +kernel
theorem dX3_makePlan_100 : decode cX3_makePlan 100 = .ok (.ifCond .lt 7, 3) := by decide +kernel
theorem dX3_makePlan_103 : decode cX3_makePlan 103 = .ok (.iconst 1, 1) := by decide +kernel
theorem dX3_makePlan_104 : decode cX3_makePlan 104 = .ok (.goto 4, 3) := by decide +kernel
theorem dX3_makePlan_107 : decode cX3_makePlan 107 = .ok (.iconst 0, 1) := by decide +kernel
theorem dX3_makePlan_108 : decode cX3_makePlan 108 = .ok (.putfield 116, 3) := by decide +kernel
theorem dX3_makePlan_111 : decode cX3_makePlan 111 = .ok (.aload_n 0, 1) := by decide +kernel
theorem dX3_makePlan_112 : decode cX3_makePlan 112 = .ok (.getfield 116, 3) := by decide +kernel
theorem dX3_makePlan_115 : decode cX3_makePlan 115 = .ok (.ifCond .eq 13, 3) := by decide +kernel
theorem dX3_makePlan_118 : decode cX3_makePlan 118 = .ok (.aload_n 0, 1) := by decide +kernel
theorem dX3_makePlan_119 : decode cX3_makePlan 119 = .ok (.iload_n 1, 1) := by decide +kernel
theorem dX3_makePlan_120 : decode cX3_makePlan 120 = .ok (.iload_n 2, 1) := by decide +kernel
theorem dX3_makePlan_121 : decode cX3_makePlan 121 = .ok (.invokevirtual 120, 3) := by decide +kernel
theorem dX3_makePlan_124 : decode cX3_makePlan 124 = .ok (.aload_n 0, 1) := by decide +kernel
theorem dX3_makePlan_125 : decode cX3_makePlan 125 = .ok (.invokevirtual 124, 3) := by decide +kernel
theorem dX3_makePlan_128 : decode cX3_makePlan 128 = .ok (.return_, 1) := by decide +kernel
theorem dX3_leastGreen_0 : decode cX3_leastGreen 0 = .ok (.aload_n 0, 1) := by decide +kernel
theorem dX3_leastGreen_1 : decode cX3_leastGreen 1 = .ok (.getfield 15, 3) := by decide +kernel
theorem dX3_leastGreen_4 : decode cX3_leastGreen 4 = .ok (.iload_n 1, 1) := by decide +kernel
theorem dX3_leastGreen_5 : decode cX3_leastGreen 5 = .ok (.invokestatic 82, 3) := by decide +kernel
theorem dX3_leastGreen_8 : decode cX3_leastGreen 8 = .ok (.iconst 3, 1) := by decide +kernel
theorem dX3_leastGreen_9 : decode cX3_leastGreen 9 = .ok (.invokestatic 93, 3) := by decide +kernel
theorem dX3_leastGreen_12 : decode cX3_leastGreen 12 = .ok (.ifCond .eq 8, 3) := by decide +kernel
theorem dX3_leastGreen_15 : decode cX3_leastGreen 15 = .ok (.bipush 8, 2) := by decide +kernel
theorem dX3_leastGreen_17 : decode cX3_leastGreen 17 = .ok (.goto 4, 3) := by decide +kernel
theorem dX3_leastGreen_20 : decode cX3_leastGreen 20 = .ok (.iconst 5, 1) := by decide +kernel
theorem dX3_leastGreen_21 : decode cX3_leastGreen 21 = .ok (.ireturn, 1) := by decide +kernel
theorem dX3_weightOf_0 : decode cX3_weightOf 0 = .ok (.iconst 0, 1) := by decide +kernel
theorem dX3_weightOf_1 : decode cX3_weightOf 1 = .ok (.istore_n 2, 1) := by decide +kernel
theorem dX3_weightOf_2 : decode cX3_weightOf 2 = .ok (.iconst 0, 1) := by decide +kernel
theorem dX3_weightOf_3 : decode cX3_weightOf 3 = .ok (.istore_n 3, 1) := by decide +kernel
theorem dX3_weightOf_4 : decode cX3_weightOf 4 = .ok (.iload_n 3, 1) := by decide +kernel
theorem dX3_weightOf_5 : decode cX3_weightOf 5 = .ok (.iconst 4, 1) := by decide +kernel
theorem dX3_weightOf_6 : decode cX3_weightOf 6 = .ok (.if_icmp .ge 37, 3) := by decide +kernel
theorem dX3_weightOf_9 : decode cX3_weightOf 9 = .ok (.aload_n 0, 1) := by decide +kernel
theorem dX3_weightOf_10 : decode cX3_weightOf 10 = .ok (.getfield 15, 3) := by decide +kernel
theorem dX3_weightOf_13 : decode cX3_weightOf 13 = .ok (.iload_n 1, 1) := by decide +kernel
theorem dX3_weightOf_14 : decode cX3_weightOf 14 = .ok (.invokestatic 82, 3) := by decide +kernel
theorem dX3_weightOf_17 : decode cX3_weightOf 17 = .ok (.iload_n 3, 1) := by decide +kernel
theorem dX3_weightOf_18 : decode cX3_weightOf 18 = .ok (.invokestatic 93, 3) := by decide +kernel
theorem dX3_weightOf_21 : decode cX3_weightOf 21 = .ok (.ifCond .eq 16, 3) := by decide +kernel
theorem dX3_weightOf_24 : decode cX3_weightOf 24 = .ok (.iload_n 2, 1) := by decide +kernel
theorem dX3_weightOf_25 : decode cX3_weightOf 25 = .ok (.aload_n 0, 1) := by decide +kernel
theorem dX3_weightOf_26 : decode cX3_weightOf 26 = .ok (.getfield 18, 3) := by decide +kernel
theorem dX3_weightOf_29 : decode cX3_weightOf 29 = .ok (.iload_n 3, 1) := by decide +kernel
theorem dX3_weightOf_30 : decode cX3_weightOf 30 = .ok (.invokestatic 82, 3) := by decide +kernel
theorem dX3_weightOf_33 : decode cX3_weightOf 33 = .ok (.invokestatic 104, 3) := by decide +kernel
theorem dX3_weightOf_36 : decode cX3_weightOf 36 = .ok (.istore_n 2, 1) := by decide +kernel
theorem dX3_weightOf_37 : decode cX3_weightOf 37 = .ok (.iinc 3 1, 3) := by decide +kernel
theorem dX3_weightOf_40 : decode cX3_weightOf 40 = .ok (.goto (-36), 3) := by decide +kernel
theorem dX3_weightOf_43 : decode cX3_weightOf 43 = .ok (.iload_n 2, 1) := by decide +kernel
theorem dX3_weightOf_44 : decode cX3_weightOf 44 = .ok (.ireturn, 1) := by decide +kernel
theorem dX3_shareOut_0 : decode cX3_shareOut 0 = .ok (.iload_n 1, 1) := by decide +kernel
theorem dX3_shareOut_1 : decode cX3_shareOut 1 = .ok (.istore_n 3, 1) := by decide +kernel
theorem dX3_shareOut_2 : decode cX3_shareOut 2 = .ok (.iconst 0, 1) := by decide +kernel
theorem dX3_shareOut_3 : decode cX3_shareOut 3 = .ok (.istore 4, 2) := by decide +kernel
theorem dX3_shareOut_5 : decode cX3_shareOut 5 = .ok (.iload 4, 2) := by decide +kernel
theorem dX3_shareOut_7 : decode cX3_shareOut 7 = .ok (.aload_n 0, 1) := by decide +kernel
theorem dX3_shareOut_8 : decode cX3_shareOut 8 = .ok (.getfield 90, 3) := by decide +kernel
theorem dX3_shareOut_11 : decode cX3_shareOut 11 = .ok (.if_icmp .ge 61, 3) := by decide +kernel
theorem dX3_shareOut_14 : decode cX3_shareOut 14 = .ok (.iload_n 2, 1) := by decide +kernel
theorem dX3_shareOut_15 : decode cX3_shareOut 15 = .ok (.ifCond .ne 14, 3) := by decide +kernel
theorem dX3_shareOut_18 : decode cX3_shareOut 18 = .ok (.iload_n 1, 1) := by decide +kernel
theorem dX3_shareOut_19 : decode cX3_shareOut 19 = .ok (.aload_n 0, 1) := by decide +kernel
theorem dX3_shareOut_20 : decode cX3_shareOut 20 = .ok (.getfield 90, 3) := by decide +kernel
theorem dX3_shareOut_23 : decode cX3_shareOut 23 = .ok (.invokestatic 127, 3) := by decide +kernel
theorem dX3_shareOut_26 : decode cX3_shareOut 26 = .ok (.goto 15, 3) := by decide +kernel
theorem dX3_shareOut_29 : decode cX3_shareOut 29 = .ok (.iload_n 1, 1) := by decide +kernel
theorem dX3_shareOut_30 : decode cX3_shareOut 30 = .ok (.aload_n 0, 1) := by decide +kernel
theorem dX3_shareOut_31 : decode cX3_shareOut 31 = .ok (.iload 4, 2) := by decide +kernel
theorem dX3_shareOut_33 : decode cX3_shareOut 33 = .ok (.invokevirtual 113, 3) := by decide +kernel
theorem dX3_shareOut_36 : decode cX3_shareOut 36 = .ok (.imul, 1) := by decide +kernel
theorem dX3_shareOut_37 : decode cX3_shareOut 37 = .ok (.iload_n 2, 1) := by decide +kernel
theorem dX3_shareOut_38 : decode cX3_shareOut 38 = .ok (.invokestatic 127, 3) := by decide +kernel
theorem dX3_shareOut_41 : decode cX3_shareOut 41 = .ok (.istore 5, 2) := by decide +kernel
theorem dX3_shareOut_43 : decode cX3_shareOut 43 = .ok (.aload_n 0, 1) := by decide +kernel
theorem dX3_shareOut_44 : decode cX3_shareOut 44 = .ok (.getfield 21, 3) := by decide +kernel
theorem dX3_shareOut_47 : decode cX3_shareOut 47 = .ok (.iload 4, 2) := by decide +kernel
theorem dX3_shareOut_49 : decode cX3_shareOut 49 = .ok (.aload_n 0, 1) := by decide +kernel
theorem dX3_shareOut_50 : decode cX3_shareOut 50 = .ok (.iload 4, 2) := by decide +kernel
theorem dX3_shareOut_52 : decode cX3_shareOut 52 = .ok (.invokevirtual 109, 3) := by decide +kernel
theorem dX3_shareOut_55 : decode cX3_shareOut 55 = .ok (.iload 5, 2) := by decide +kernel
theorem dX3_shareOut_57 : decode cX3_shareOut 57 = .ok (.iadd, 1) := by decide +kernel
theorem dX3_shareOut_58 : decode cX3_shareOut 58 = .ok (.invokestatic 86, 3) := by decide +kernel
theorem dX3_shareOut_61 : decode cX3_shareOut 61 = .ok (.iload_n 3, 1) := by decide +kernel
theorem dX3_shareOut_62 : decode cX3_shareOut 62 = .ok (.iload 5, 2) := by decide +kernel
theorem dX3_shareOut_64 : decode cX3_shareOut 64 = .ok (.isub, 1) := by decide +kernel
theorem dX3_shareOut_65 : decode cX3_shareOut 65 = .ok (.istore_n 3, 1) := by decide +kernel
theorem dX3_shareOut_66 : decode cX3_shareOut 66 = .ok (.iinc 4 1, 3) := by decide +kernel
theorem dX3_shareOut_69 : decode cX3_shareOut 69 = .ok (.goto (-64), 3) := by decide +kernel
theorem dX3_shareOut_72 : decode cX3_shareOut 72 = .ok (.iconst 0, 1) := by decide +kernel
theorem dX3_shareOut_73 : decode cX3_shareOut 73 = .ok (.istore 4, 2) := by decide +kernel
theorem dX3_shareOut_75 : decode cX3_shareOut 75 = .ok (.iload 4, 2) := by decide +kernel
theorem dX3_shareOut_77 : decode cX3_shareOut 77 = .ok (.aload_n 0, 1) := by decide +kernel
theorem dX3_shareOut_78 : decode cX3_shareOut 78 = .ok (.getfield 90, 3) := by decide +kernel
theorem dX3_shareOut_81 : decode cX3_shareOut 81 = .ok (.if_icmp .ge 35, 3) := by decide +kernel
theorem dX3_shareOut_84 : decode cX3_shareOut 84 = .ok (.iload 4, 2) := by decide +kernel
theorem dX3_shareOut_86 : decode cX3_shareOut 86 = .ok (.iload_n 3, 1) := by decide +kernel
theorem dX3_shareOut_87 : decode cX3_shareOut 87 = .ok (.if_icmp .ge 29, 3) := by decide +kernel
theorem dX3_shareOut_90 : decode cX3_shareOut 90 = .ok (.aload_n 0, 1) := by decide +kernel
theorem dX3_shareOut_91 : decode cX3_shareOut 91 = .ok (.getfield 21, 3) := by decide +kernel
theorem dX3_shareOut_94 : decode cX3_shareOut 94 = .ok (.iload 4, 2) := by decide +kernel
theorem dX3_shareOut_96 : decode cX3_shareOut 96 = .ok (.aload_n 0, 1) := by decide +kernel
theorem dX3_shareOut_97 : decode cX3_shareOut 97 = .ok (.getfield 21, 3) := by decide +kernel
theorem dX3_shareOut_100 : decode cX3_shareOut 100 = .ok (.iload 4, 2) := by decide +kernel
theorem dX3_shareOut_102 : decode cX3_shareOut 102 = .ok (.invokestatic 82, 3) := by decide +kernel
theorem dX3_shareOut_105 : decode cX3_shareOut 105 = .ok (.iconst 1, 1) := by decide +kernel
theorem dX3_shareOut_106 : decode cX3_shareOut 106 = .ok (.iadd, 1) := by decide +kernel
theorem dX3_shareOut_107 : decode cX3_shareOut 107 = .ok (.invokestatic 86, 3) := by decide +kernel
theorem dX3_shareOut_110 : decode cX3_shareOut 110 = .ok (.iinc 4 1, 3) := by decide +kernel
theorem dX3_shareOut_113 : decode cX3_shareOut 113 = .ok (.goto (-38), 3) := by decide +kernel
theorem dX3_shareOut_116 : decode cX3_shareOut 116 = .ok (.return_, 1) := by decide +kernel
theorem dX3_drawLights_0 : decode cX3_drawLights 0 = .ok (.iconst 0, 1) := by decide +kernel
theorem dX3_drawLights_1 : decode cX3_drawLights 1 = .ok (.istore_n 1, 1) := by decide +kernel
theorem dX3_drawLights_2 : decode cX3_drawLights 2 = .ok (.iconst 0, 1) := by decide +kernel
theorem dX3_drawLights_3 : decode cX3_drawLights 3 = .ok (.istore_n 2, 1) := by decide +kernel
theorem dX3_drawLights_4 : decode cX3_drawLights 4 = .ok (.iload_n 2, 1) := by decide +kernel
theorem dX3_drawLights_5 : decode cX3_drawLights 5 = .ok (.aload_n 0, 1) := by decide +kernel
theorem dX3_drawLights_6 : decode cX3_drawLights 6 = .ok (.getfield 90, 3) := by decide +kernel
theorem dX3_drawLights_9 : decode cX3_drawLights 9 = .ok (.if_icmp .ge 78, 3) := by decide +kernel
theorem dX3_drawLights_12 : decode cX3_drawLights 12 = .ok (.iload_n 1, 1) := by decide +kernel
theorem dX3_drawLights_13 : decode cX3_drawLights 13 = .ok (.aload_n 0, 1) := by decide +kernel
theorem dX3_drawLights_14 : decode cX3_drawLights 14 = .ok (.getfield 21, 3) := by decide +kernel
theorem dX3_drawLights_17 : decode cX3_drawLights 17 = .ok (.iload_n 2, 1) := by decide +kernel
theorem dX3_drawLights_18 : decode cX3_drawLights 18 = .ok (.invokestatic 82, 3) := by decide +kernel
theorem dX3_drawLights_21 : decode cX3_drawLights 21 = .ok (.iadd, 1) := by decide +kernel
theorem dX3_drawLights_22 : decode cX3_drawLights 22 = .ok (.istore_n 3, 1) := by decide +kernel
theorem dX3_drawLights_23 : decode cX3_drawLights 23 = .ok (.iload_n 3, 1) := by decide +kernel
theorem dX3_drawLights_24 : decode cX3_drawLights 24 = .ok (.aload_n 0, 1) := by decide +kernel
theorem dX3_drawLights_25 : decode cX3_drawLights 25 = .ok (.getfield 24, 3) := by decide +kernel
theorem dX3_drawLights_28 : decode cX3_drawLights 28 = .ok (.iload_n 2, 1) := by decide +kernel
theorem dX3_drawLights_29 : decode cX3_drawLights 29 = .ok (.invokestatic 82, 3) := by decide +kernel
theorem dX3_drawLights_32 : decode cX3_drawLights 32 = .ok (.iadd, 1) := by decide +kernel
theorem dX3_drawLights_33 : decode cX3_drawLights 33 = .ok (.istore 4, 2) := by decide +kernel
theorem dX3_drawLights_35 : decode cX3_drawLights 35 = .ok (.iload_n 1, 1) := by decide +kernel
theorem dX3_drawLights_36 : decode cX3_drawLights 36 = .ok (.istore 5, 2) := by decide +kernel
theorem dX3_drawLights_38 : decode cX3_drawLights 38 = .ok (.iload 5, 2) := by decide +kernel
theorem dX3_drawLights_40 : decode cX3_drawLights 40 = .ok (.iload 4, 2) := by decide +kernel
theorem dX3_drawLights_42 : decode cX3_drawLights 42 = .ok (.if_icmp .ge 36, 3) := by decide +kernel
theorem dX3_drawLights_45 : decode cX3_drawLights 45 = .ok (.aload_n 0, 1) := by decide +kernel
theorem dX3_drawLights_46 : decode cX3_drawLights 46 = .ok (.getfield 27, 3) := by decide +kernel
theorem dX3_drawLights_49 : decode cX3_drawLights 49 = .ok (.iload 5, 2) := by decide +kernel
theorem dX3_drawLights_51 : decode cX3_drawLights 51 = .ok (.iload 5, 2) := by decide +kernel
theorem dX3_drawLights_53 : decode cX3_drawLights 53 = .ok (.iload_n 3, 1) := by decide +kernel
theorem dX3_drawLights_54 : decode cX3_drawLights 54 = .ok (.if_icmp .ge 14, 3) := by decide +kernel
theorem dX3_drawLights_57 : decode cX3_drawLights 57 = .ok (.aload_n 0, 1) := by decide +kernel
theorem dX3_drawLights_58 : decode cX3_drawLights 58 = .ok (.getfield 15, 3) := by decide +kernel
theorem dX3_drawLights_61 : decode cX3_drawLights 61 = .ok (.iload_n 2, 1) := by decide +kernel
theorem dX3_drawLights_62 : decode cX3_drawLights 62 = .ok (.invokestatic 82, 3) := by decide +kernel
theorem dX3_drawLights_65 : decode cX3_drawLights 65 = .ok (.goto 4, 3) := by decide +kernel
theorem dX3_drawLights_68 : decode cX3_drawLights 68 = .ok (.iconst 0, 1) := by decide +kernel
theorem dX3_drawLights_69 : decode cX3_drawLights 69 = .ok (.invokestatic 86, 3) := by decide +kernel
theorem dX3_drawLights_72 : decode cX3_drawLights 72 = .ok (.iinc 5 1, 3) := by decide +kernel
theorem dX3_drawLights_75 : decode cX3_drawLights 75 = .ok (.goto (-37), 3) := by decide +kernel
theorem dX3_drawLights_78 : decode cX3_drawLights 78 = .ok (.iload 4, 2) := by decide +kernel
theorem dX3_drawLights_80 : decode cX3_drawLights 80 = .ok (.istore_n 1, 1) := by decide +kernel
theorem dX3_drawLights_81 : decode cX3_drawLights 81 = .ok (.iinc 2 1, 3) := by decide +kernel
theorem dX3_drawLights_84 : decode cX3_drawLights 84 = .ok (.goto (-80), 3) := by decide +kernel
theorem dX3_drawLights_87 : decode cX3_drawLights 87 = .ok (.return_, 1) := by decide +kernel
theorem dX3_isLit_0 : decode cX3_isLit 0 = .ok (.aload_n 0, 1) := by decide +kernel
theorem dX3_isLit_1 : decode cX3_isLit 1 = .ok (.aload_n 0, 1) := by decide +kernel
theorem dX3_isLit_2 : decode cX3_isLit 2 = .ok (.getfield 41, 3) := by decide +kernel
theorem dX3_isLit_5 : decode cX3_isLit 5 = .ok (.iload_n 1, 1) := by decide +kernel
theorem dX3_isLit_6 : decode cX3_isLit 6 = .ok (.iload_n 2, 1) := by decide +kernel
theorem dX3_isLit_7 : decode cX3_isLit 7 = .ok (.invokevirtual 130, 3) := by decide +kernel
theorem dX3_isLit_10 : decode cX3_isLit 10 = .ok (.ireturn, 1) := by decide +kernel
theorem dX3_isLitFrom_0 : decode cX3_isLitFrom 0 = .ok (.aload_n 0, 1) := by decide +kernel
theorem dX3_isLitFrom_1 : decode cX3_isLitFrom 1 = .ok (.getfield 27, 3) := by decide +kernel
theorem dX3_isLitFrom_4 : decode cX3_isLitFrom 4 = .ok (.iload_n 3, 1) := by decide +kernel
theorem dX3_isLitFrom_5 : decode cX3_isLitFrom 5 = .ok (.iload_n 1, 1) := by decide +kernel
theorem dX3_isLitFrom_6 : decode cX3_isLitFrom 6 = .ok (.isub, 1) := by decide +kernel
theorem dX3_isLitFrom_7 : decode cX3_isLitFrom 7 = .ok (.aload_n 0, 1) := by decide +kernel
theorem dX3_isLitFrom_8 : decode cX3_isLitFrom 8 = .ok (.getfield 37, 3) := by decide +kernel
theorem dX3_isLitFrom_11 : decode cX3_isLitFrom 11 = .ok (.invokestatic 134, 3) := by decide +kernel
theorem dX3_isLitFrom_14 : decode cX3_isLitFrom 14 = .ok (.invokestatic 82, 3) := by decide +kernel
theorem dX3_isLitFrom_17 : decode cX3_isLitFrom 17 = .ok (.iload_n 2, 1) := by decide +kernel
theorem dX3_isLitFrom_18 : decode cX3_isLitFrom 18 = .ok (.invokestatic 93, 3) := by decide +kernel
theorem dX3_isLitFrom_21 : decode cX3_isLitFrom 21 = .ok (.ireturn, 1) := by decide +kernel
theorem dX3_countBreaches_0 : decode cX3_countBreaches 0 = .ok (.iconst 0, 1) := by decide +kernel
theorem dX3_countBreaches_1 : decode cX3_countBreaches 1 = .ok (.istore_n 1, 1) := by decide +kernel
theorem dX3_countBreaches_2 : decode cX3_countBreaches 2 = .ok (.iconst 0, 1) := by decide +kernel
theorem dX3_countBreaches_3 : decode cX3_countBreaches 3 = .ok (.istore_n 2, 1) := by decide +kernel
theorem dX3_countBreaches_4 : decode cX3_countBreaches 4 = .ok (.iload_n 2, 1) := by decide +kernel
theorem dX3_countBreaches_5 : decode cX3_countBreaches 5 = .ok (.aload_n 0, 1) := by decide +kernel
theorem dX3_countBreaches_6 : decode cX3_countBreaches 6 = .ok (.getfield 37, 3) := by decide +kernel
theorem dX3_countBreaches_9 : decode cX3_countBreaches 9 = .ok (.if_icmp .ge 20, 3) := by decide +kernel
theorem dX3_countBreaches_12 : decode cX3_countBreaches 12 = .ok (.aload_n 0, 1) := by decide +kernel
theorem dX3_countBreaches_13 : decode cX3_countBreaches 13 = .ok (.iload_n 2, 1) := by decide +kernel
theorem dX3_countBreaches_14 : decode cX3_countBreaches 14 = .ok (.invokevirtual 137, 3) := by decide +kernel
theorem dX3_countBreaches_17 : decode cX3_countBreaches 17 = .ok (.ifCond .eq 6, 3) := by decide +kernel
theorem dX3_countBreaches_20 : decode cX3_countBreaches 20 = .ok (.iinc 1 1, 3) := by decide +kernel
theorem dX3_countBreaches_23 : decode cX3_countBreaches 23 = .ok (.iinc 2 1, 3) := by decide +kernel
theorem dX3_countBreaches_26 : decode cX3_countBreaches 26 = .ok (.goto (-22), 3) := by decide +kernel
theorem dX3_countBreaches_29 : decode cX3_countBreaches 29 = .ok (.iload_n 1, 1) := by decide +kernel
theorem dX3_countBreaches_30 : decode cX3_countBreaches 30 = .ok (.ireturn, 1) := by decide +kernel
theorem dX3_isBreached_0 : decode cX3_isBreached 0 = .ok (.iconst 0, 1) := by decide +kernel
theorem dX3_isBreached_1 : decode cX3_isBreached 1 = .ok (.istore_n 2, 1) := by decide +kernel
theorem dX3_isBreached_2 : decode cX3_isBreached 2 = .ok (.iload_n 2, 1) := by decide +kernel
theorem dX3_isBreached_3 : decode cX3_isBreached 3 = .ok (.iconst 4, 1) := by decide +kernel
theorem dX3_isBreached_4 : decode cX3_isBreached 4 = .ok (.if_icmp .ge 48, 3) := by decide +kernel
theorem dX3_isBreached_7 : decode cX3_isBreached 7 = .ok (.iconst 0, 1) := by decide +kernel
theorem dX3_isBreached_8 : decode cX3_isBreached 8 = .ok (.istore_n 3, 1) := by decide +kernel
theorem dX3_isBreached_9 : decode cX3_isBreached 9 = .ok (.iload_n 3, 1) := by decide +kernel
theorem dX3_isBreached_10 : decode cX3_isBreached 10 = .ok (.iconst 4, 1) := by decide +kernel
theorem dX3_isBreached_11 : decode cX3_isBreached 11 = .ok (.if_icmp .ge 35, 3) := by decide +kernel
theorem dX3_isBreached_14 : decode cX3_isBreached 14 = .ok (.aload_n 0, 1) := by decide +kernel
theorem dX3_isBreached_15 : decode cX3_isBreached 15 = .ok (.iload_n 2, 1) := by decide +kernel
theorem dX3_isBreached_16 : decode cX3_isBreached 16 = .ok (.iload_n 1, 1) := by decide +kernel
theorem dX3_isBreached_17 : decode cX3_isBreached 17 = .ok (.invokevirtual 141, 3) := by decide +kernel
theorem dX3_isBreached_20 : decode cX3_isBreached 20 = .ok (.ifCond .eq 20, 3) := by decide +kernel
theorem dX3_isBreached_23 : decode cX3_isBreached 23 = .ok (.aload_n 0, 1) := by decide +kernel
theorem dX3_isBreached_24 : decode cX3_isBreached 24 = .ok (.iload_n 3, 1) := by decide +kernel
theorem dX3_isBreached_25 : decode cX3_isBreached 25 = .ok (.iload_n 1, 1) := by decide +kernel
theorem dX3_isBreached_26 : decode cX3_isBreached 26 = .ok (.aload_n 0, 1) := by decide +kernel
theorem dX3_isBreached_27 : decode cX3_isBreached 27 = .ok (.iload_n 2, 1) := by decide +kernel
theorem dX3_isBreached_28 : decode cX3_isBreached 28 = .ok (.iload_n 3, 1) := by decide +kernel
theorem dX3_isBreached_29 : decode cX3_isBreached 29 = .ok (.invokevirtual 101, 3) := by decide +kernel
theorem dX3_isBreached_32 : decode cX3_isBreached 32 = .ok (.invokevirtual 144, 3) := by decide +kernel
theorem dX3_isBreached_35 : decode cX3_isBreached 35 = .ok (.ifCond .eq 5, 3) := by decide +kernel
theorem dX3_isBreached_38 : decode cX3_isBreached 38 = .ok (.iconst 1, 1) := by decide +kernel
theorem dX3_isBreached_39 : decode cX3_isBreached 39 = .ok (.ireturn, 1) := by decide +kernel
theorem dX3_isBreached_40 : decode cX3_isBreached 40 = .ok (.iinc 3 1, 3) := by decide +kernel
theorem dX3_isBreached_43 : decode cX3_isBreached 43 = .ok (.goto (-34), 3) := by decide +kernel
theorem dX3_isBreached_46 : decode cX3_isBreached 46 = .ok (.iinc 2 1, 3) := by decide +kernel
theorem dX3_isBreached_49 : decode cX3_isBreached 49 = .ok (.goto (-47), 3) := by decide +kernel
theorem dX3_isBreached_52 : decode cX3_isBreached 52 = .ok (.iconst 0, 1) := by decide +kernel
theorem dX3_isBreached_53 : decode cX3_isBreached 53 = .ok (.ireturn, 1) := by decide +kernel
theorem dX3_isLitTooSoon_0 : decode cX3_isLitTooSoon 0 = .ok (.iconst 0, 1) := by decide +kernel
theorem dX3_isLitTooSoon_1 : decode cX3_isLitTooSoon 1 = .ok (.istore 4, 2) := by decide +kernel
theorem dX3_isLitTooSoon_3 : decode cX3_isLitTooSoon 3 = .ok (.iload 4, 2) := by decide +kernel
theorem dX3_isLitTooSoon_5 : decode cX3_isLitTooSoon 5 = .ok (.iload_n 3, 1) := by decide +kernel
theorem dX3_isLitTooSoon_6 : decode cX3_isLitTooSoon 6 = .ok (.if_icmp .gt 23, 3) := by decide +kernel
theorem dX3_isLitTooSoon_9 : decode cX3_isLitTooSoon 9 = .ok (.aload_n 0, 1) := by decide +kernel
theorem dX3_isLitTooSoon_10 : decode cX3_isLitTooSoon 10 = .ok (.iload_n 1, 1) := by decide +kernel
theorem dX3_isLitTooSoon_11 : decode cX3_isLitTooSoon 11 = .ok (.iload_n 2, 1) := by decide +kernel
theorem dX3_isLitTooSoon_12 : decode cX3_isLitTooSoon 12 = .ok (.iload 4, 2) := by decide +kernel
theorem dX3_isLitTooSoon_14 : decode cX3_isLitTooSoon 14 = .ok (.iadd, 1) := by decide +kernel
theorem dX3_isLitTooSoon_15 : decode cX3_isLitTooSoon 15 = .ok (.invokevirtual 141, 3) := by decide +kernel
theorem dX3_isLitTooSoon_18 : decode cX3_isLitTooSoon 18 = .ok (.ifCond .eq 5, 3) := by decide +kernel
theorem dX3_isLitTooSoon_21 : decode cX3_isLitTooSoon 21 = .ok (.iconst 1, 1) := by decide +kernel
theorem dX3_isLitTooSoon_22 : decode cX3_isLitTooSoon 22 = .ok (.ireturn, 1) := by decide +kernel
theorem dX3_isLitTooSoon_23 : decode cX3_isLitTooSoon 23 = .ok (.iinc 4 1, 3) := by decide +kernel
theorem dX3_isLitTooSoon_26 : decode cX3_isLitTooSoon 26 = .ok (.goto (-23), 3) := by decide +kernel
theorem dX3_isLitTooSoon_29 : decode cX3_isLitTooSoon 29 = .ok (.iconst 0, 1) := by decide +kernel
theorem dX3_isLitTooSoon_30 : decode cX3_isLitTooSoon 30 = .ok (.ireturn, 1) := by decide +kernel
theorem dX3_placeInCycle_0 : decode cX3_placeInCycle 0 = .ok (.iload_n 1, 1) := by decide +kernel
theorem dX3_placeInCycle_1 : decode cX3_placeInCycle 1 = .ok (.aload_n 0, 1) := by decide +kernel
theorem dX3_placeInCycle_2 : decode cX3_placeInCycle 2 = .ok (.getfield 41, 3) := by decide +kernel
theorem dX3_placeInCycle_5 : decode cX3_placeInCycle 5 = .ok (.isub, 1) := by decide +kernel
theorem dX3_placeInCycle_6 : decode cX3_placeInCycle 6 = .ok (.aload_n 0, 1) := by decide +kernel
theorem dX3_placeInCycle_7 : decode cX3_placeInCycle 7 = .ok (.getfield 37, 3) := by decide +kernel
theorem dX3_placeInCycle_10 : decode cX3_placeInCycle 10 = .ok (.invokestatic 134, 3) := by decide +kernel
theorem dX3_placeInCycle_13 : decode cX3_placeInCycle 13 = .ok (.ireturn, 1) := by decide +kernel
theorem dX3_hasBusIn_0 : decode cX3_hasBusIn 0 = .ok (.iload_n 1, 1) := by decide +kernel
theorem dX3_hasBusIn_1 : decode cX3_hasBusIn 1 = .ok (.aload_n 0, 1) := by decide +kernel
theorem dX3_hasBusIn_2 : decode cX3_hasBusIn 2 = .ok (.getfield 50, 3) := by decide +kernel
theorem dX3_hasBusIn_5 : decode cX3_hasBusIn 5 = .ok (.if_icmp .ge 7, 3) := by decide +kernel
theorem dX3_hasBusIn_8 : decode cX3_hasBusIn 8 = .ok (.iconst 1, 1) := by decide +kernel
theorem dX3_hasBusIn_9 : decode cX3_hasBusIn 9 = .ok (.goto 4, 3) := by decide +kernel
theorem dX3_hasBusIn_12 : decode cX3_hasBusIn 12 = .ok (.iconst 0, 1) := by decide +kernel
theorem dX3_hasBusIn_13 : decode cX3_hasBusIn 13 = .ok (.ireturn, 1) := by decide +kernel
theorem dX3_changedGreen_0 : decode cX3_changedGreen 0 = .ok (.iload_n 1, 1) := by decide +kernel
theorem dX3_changedGreen_1 : decode cX3_changedGreen 1 = .ok (.aload_n 0, 1) := by decide +kernel
theorem dX3_changedGreen_2 : decode cX3_changedGreen 2 = .ok (.getfield 56, 3) := by decide +kernel
theorem dX3_changedGreen_5 : decode cX3_changedGreen 5 = .ok (.if_icmp .ne 10, 3) := by decide +kernel
theorem dX3_changedGreen_8 : decode cX3_changedGreen 8 = .ok (.aload_n 0, 1) := by decide +kernel
theorem dX3_changedGreen_9 : decode cX3_changedGreen 9 = .ok (.getfield 59, 3) := by decide +kernel
theorem dX3_changedGreen_12 : decode cX3_changedGreen 12 = .ok (.goto 20, 3) := by decide +kernel
theorem dX3_changedGreen_15 : decode cX3_changedGreen 15 = .ok (.iload_n 1, 1) := by decide +kernel
theorem dX3_changedGreen_16 : decode cX3_changedGreen 16 = .ok (.aload_n 0, 1) := by decide +kernel
theorem dX3_changedGreen_17 : decode cX3_changedGreen 17 = .ok (.getfield 53, 3) := by decide +kernel
theorem dX3_changedGreen_20 : decode cX3_changedGreen 20 = .ok (.if_icmp .ne 11, 3) := by decide +kernel
theorem dX3_changedGreen_23 : decode cX3_changedGreen 23 = .ok (.aload_n 0, 1) := by decide +kernel
theorem dX3_changedGreen_24 : decode cX3_changedGreen 24 = .ok (.getfield 59, 3) := by decide +kernel
theorem dX3_changedGreen_27 : decode cX3_changedGreen 27 = .ok (.ineg, 1) := by decide +kernel
theorem dX3_changedGreen_28 : decode cX3_changedGreen 28 = .ok (.goto 4, 3) := by decide +kernel
theorem dX3_changedGreen_31 : decode cX3_changedGreen 31 = .ok (.iconst 0, 1) := by decide +kernel
theorem dX3_changedGreen_32 : decode cX3_changedGreen 32 = .ok (.istore_n 2, 1) := by decide +kernel
theorem dX3_changedGreen_33 : decode cX3_changedGreen 33 = .ok (.aload_n 0, 1) := by decide +kernel
theorem dX3_changedGreen_34 : decode cX3_changedGreen 34 = .ok (.getfield 21, 3) := by decide +kernel
theorem dX3_changedGreen_37 : decode cX3_changedGreen 37 = .ok (.iload_n 1, 1) := by decide +kernel
theorem dX3_changedGreen_38 : decode cX3_changedGreen 38 = .ok (.invokestatic 82, 3) := by decide +kernel
theorem dX3_changedGreen_41 : decode cX3_changedGreen 41 = .ok (.iload_n 2, 1) := by decide +kernel
theorem dX3_changedGreen_42 : decode cX3_changedGreen 42 = .ok (.iadd, 1) := by decide +kernel
theorem dX3_changedGreen_43 : decode cX3_changedGreen 43 = .ok (.ireturn, 1) := by decide +kernel
theorem dX3_phaseIn_0 : decode cX3_phaseIn 0 = .ok (.aload_n 0, 1) := by decide +kernel
theorem dX3_phaseIn_1 : decode cX3_phaseIn 1 = .ok (.iload_n 1, 1) := by decide +kernel
theorem dX3_phaseIn_2 : decode cX3_phaseIn 2 = .ok (.invokevirtual 147, 3) := by decide +kernel
theorem dX3_phaseIn_5 : decode cX3_phaseIn 5 = .ok (.istore_n 2, 1) := by decide +kernel
theorem dX3_phaseIn_6 : decode cX3_phaseIn 6 = .ok (.aload_n 0, 1) := by decide +kernel
theorem dX3_phaseIn_7 : decode cX3_phaseIn 7 = .ok (.iload_n 1, 1) := by decide +kernel
theorem dX3_phaseIn_8 : decode cX3_phaseIn 8 = .ok (.invokevirtual 150, 3) := by decide +kernel
theorem dX3_phaseIn_11 : decode cX3_phaseIn 11 = .ok (.istore_n 3, 1) := by decide +kernel
theorem dX3_phaseIn_12 : decode cX3_phaseIn 12 = .ok (.iconst 0, 1) := by decide +kernel
theorem dX3_phaseIn_13 : decode cX3_phaseIn 13 = .ok (.istore 4, 2) := by decide +kernel
theorem dX3_phaseIn_15 : decode cX3_phaseIn 15 = .ok (.iload 4, 2) := by decide +kernel
theorem dX3_phaseIn_17 : decode cX3_phaseIn 17 = .ok (.aload_n 0, 1) := by decide +kernel
theorem dX3_phaseIn_18 : decode cX3_phaseIn 18 = .ok (.getfield 90, 3) := by decide +kernel
theorem dX3_phaseIn_21 : decode cX3_phaseIn 21 = .ok (.if_icmp .ge 74, 3) := by decide +kernel
theorem dX3_phaseIn_24 : decode cX3_phaseIn 24 = .ok (.iload_n 2, 1) := by decide +kernel
theorem dX3_phaseIn_25 : decode cX3_phaseIn 25 = .ok (.ifCond .eq 12, 3) := by decide +kernel
theorem dX3_phaseIn_28 : decode cX3_phaseIn 28 = .ok (.aload_n 0, 1) := by decide +kernel
theorem dX3_phaseIn_29 : decode cX3_phaseIn 29 = .ok (.iload 4, 2) := by decide +kernel
theorem dX3_phaseIn_31 : decode cX3_phaseIn 31 = .ok (.invokevirtual 153, 3) := by decide +kernel
theorem dX3_phaseIn_34 : decode cX3_phaseIn 34 = .ok (.goto 12, 3) := by decide +kernel
theorem dX3_phaseIn_37 : decode cX3_phaseIn 37 = .ok (.aload_n 0, 1) := by decide +kernel
theorem dX3_phaseIn_38 : decode cX3_phaseIn 38 = .ok (.getfield 21, 3) := by decide +kernel
theorem dX3_phaseIn_41 : decode cX3_phaseIn 41 = .ok (.iload 4, 2) := by decide +kernel
theorem dX3_phaseIn_43 : decode cX3_phaseIn 43 = .ok (.invokestatic 82, 3) := by decide +kernel
theorem dX3_phaseIn_46 : decode cX3_phaseIn 46 = .ok (.istore 5, 2) := by decide +kernel
theorem dX3_phaseIn_48 : decode cX3_phaseIn 48 = .ok (.iload_n 3, 1) := by decide +kernel
theorem dX3_phaseIn_49 : decode cX3_phaseIn 49 = .ok (.iload 5, 2) := by decide +kernel
theorem dX3_phaseIn_51 : decode cX3_phaseIn 51 = .ok (.if_icmp .ge 6, 3) := by decide +kernel
theorem dX3_phaseIn_54 : decode cX3_phaseIn 54 = .ok (.iload 4, 2) := by decide +kernel
theorem dX3_phaseIn_56 : decode cX3_phaseIn 56 = .ok (.ireturn, 1) := by decide +kernel
theorem dX3_phaseIn_57 : decode cX3_phaseIn 57 = .ok (.iload_n 3, 1) := by decide +kernel
theorem dX3_phaseIn_58 : decode cX3_phaseIn 58 = .ok (.iload 5, 2) := by decide +kernel
theorem dX3_phaseIn_60 : decode cX3_phaseIn 60 = .ok (.isub, 1) := by decide +kernel
theorem dX3_phaseIn_61 : decode cX3_phaseIn 61 = .ok (.istore_n 3, 1) := by decide +kernel
theorem dX3_phaseIn_62 : decode cX3_phaseIn 62 = .ok (.iload_n 3, 1) := by decide +kernel
theorem dX3_phaseIn_63 : decode cX3_phaseIn 63 = .ok (.aload_n 0, 1) := by decide +kernel
theorem dX3_phaseIn_64 : decode cX3_phaseIn 64 = .ok (.getfield 24, 3) := by decide +kernel
theorem dX3_phaseIn_67 : decode cX3_phaseIn 67 = .ok (.iload 4, 2) := by decide +kernel
theorem dX3_phaseIn_69 : decode cX3_phaseIn 69 = .ok (.invokestatic 82, 3) := by decide +kernel
theorem dX3_phaseIn_72 : decode cX3_phaseIn 72 = .ok (.if_icmp .ge 5, 3) := by decide +kernel
theorem dX3_phaseIn_75 : decode cX3_phaseIn 75 = .ok (.iconst (-1), 1) := by decide +kernel
theorem dX3_phaseIn_76 : decode cX3_phaseIn 76 = .ok (.ireturn, 1) := by decide +kernel
theorem dX3_phaseIn_77 : decode cX3_phaseIn 77 = .ok (.iload_n 3, 1) := by decide +kernel
theorem dX3_phaseIn_78 : decode cX3_phaseIn 78 = .ok (.aload_n 0, 1) := by decide +kernel
theorem dX3_phaseIn_79 : decode cX3_phaseIn 79 = .ok (.getfield 24, 3) := by decide +kernel
theorem dX3_phaseIn_82 : decode cX3_phaseIn 82 = .ok (.iload 4, 2) := by decide +kernel
theorem dX3_phaseIn_84 : decode cX3_phaseIn 84 = .ok (.invokestatic 82, 3) := by decide +kernel
theorem dX3_phaseIn_87 : decode cX3_phaseIn 87 = .ok (.isub, 1) := by decide +kernel
theorem dX3_phaseIn_88 : decode cX3_phaseIn 88 = .ok (.istore_n 3, 1) := by decide +kernel
theorem dX3_phaseIn_89 : decode cX3_phaseIn 89 = .ok (.iinc 4 1, 3) := by decide +kernel
theorem dX3_phaseIn_92 : decode cX3_phaseIn 92 = .ok (.goto (-77), 3) := by decide +kernel
theorem dX3_phaseIn_95 : decode cX3_phaseIn 95 = .ok (.iconst (-1), 1) := by decide +kernel
theorem dX3_phaseIn_96 : decode cX3_phaseIn 96 = .ok (.ireturn, 1) := by decide +kernel
theorem dX3_lowestPhaseWith_0 : decode cX3_lowestPhaseWith 0 = .ok (.iconst 0, 1) := by decide +kernel
theorem dX3_lowestPhaseWith_1 : decode cX3_lowestPhaseWith 1 = .ok (.istore_n 2, 1) := by decide +kernel
theorem dX3_lowestPhaseWith_2 : decode cX3_lowestPhaseWith 2 = .ok (.iload_n 2, 1) := by decide +kernel
theorem dX3_lowestPhaseWith_3 : decode cX3_lowestPhaseWith 3 = .ok (.aload_n 0, 1) := by decide +kernel
theorem dX3_lowestPhaseWith_4 : decode cX3_lowestPhaseWith 4 = .ok (.getfield 90, 3) := by decide +kernel
theorem dX3_lowestPhaseWith_7 : decode cX3_lowestPhaseWith 7 = .ok (.if_icmp .ge 26, 3) := by decide +kernel
theorem dX3_lowestPhaseWith_10 : decode cX3_lowestPhaseWith 10 = .ok (.aload_n 0, 1) := by decide +kernel
theorem dX3_lowestPhaseWith_11 : decode cX3_lowestPhaseWith 11 = .ok (.getfield 15, 3) := by decide +kernel
theorem dX3_lowestPhaseWith_14 : decode cX3_lowestPhaseWith 14 = .ok (.iload_n 2, 1) := by decide +kernel
theorem dX3_lowestPhaseWith_15 : decode cX3_lowestPhaseWith 15 = .ok (.invokestatic 82, 3) := by decide +kernel
theorem dX3_lowestPhaseWith_18 : decode cX3_lowestPhaseWith 18 = .ok (.iload_n 1, 1) := by decide +kernel
theorem dX3_lowestPhaseWith_19 : decode cX3_lowestPhaseWith 19 = .ok (.invokestatic 93, 3) := by decide +kernel
theorem dX3_lowestPhaseWith_22 : decode cX3_lowestPhaseWith 22 = .ok (.ifCond .eq 5, 3) := by decide +kernel
theorem dX3_lowestPhaseWith_25 : decode cX3_lowestPhaseWith 25 = .ok (.iload_n 2, 1) := by decide +kernel
theorem dX3_lowestPhaseWith_26 : decode cX3_lowestPhaseWith 26 = .ok (.ireturn, 1) := by decide +kernel
theorem dX3_lowestPhaseWith_27 : decode cX3_lowestPhaseWith 27 = .ok (.iinc 2 1, 3) := by decide +kernel
theorem dX3_lowestPhaseWith_30 : decode cX3_lowestPhaseWith 30 = .ok (.goto (-28), 3) := by decide +kernel
theorem dX3_lowestPhaseWith_33 : decode cX3_lowestPhaseWith 33 = .ok (.iconst (-1), 1) := by decide +kernel
theorem dX3_lowestPhaseWith_34 : decode cX3_lowestPhaseWith 34 = .ok (.ireturn, 1) := by decide +kernel
theorem dX3_takeBus_0 : decode cX3_takeBus 0 = .ok (.aload_n 0, 1) := by decide +kernel
theorem dX3_takeBus_1 : decode cX3_takeBus 1 = .ok (.iload_n 2, 1) := by decide +kernel
theorem dX3_takeBus_2 : decode cX3_takeBus 2 = .ok (.invokevirtual 156, 3) := by decide +kernel
theorem dX3_takeBus_5 : decode cX3_takeBus 5 = .ok (.istore_n 3, 1) := by decide +kernel
theorem dX3_takeBus_6 : decode cX3_takeBus 6 = .ok (.aload_n 0, 1) := by decide +kernel
theorem dX3_takeBus_7 : decode cX3_takeBus 7 = .ok (.iload_n 1, 1) := by decide +kernel
theorem dX3_takeBus_8 : decode cX3_takeBus 8 = .ok (.invokevirtual 159, 3) := by decide +kernel
theorem dX3_takeBus_11 : decode cX3_takeBus 11 = .ok (.istore 4, 2) := by decide +kernel
theorem dX3_takeBus_13 : decode cX3_takeBus 13 = .ok (.aload_n 0, 1) := by decide +kernel
theorem dX3_takeBus_14 : decode cX3_takeBus 14 = .ok (.iload_n 1, 1) := by decide +kernel
theorem dX3_takeBus_15 : decode cX3_takeBus 15 = .ok (.aload_n 0, 1) := by decide +kernel
theorem dX3_takeBus_16 : decode cX3_takeBus 16 = .ok (.iload_n 1, 1) := by decide +kernel
theorem dX3_takeBus_17 : decode cX3_takeBus 17 = .ok (.invokevirtual 150, 3) := by decide +kernel
theorem dX3_takeBus_20 : decode cX3_takeBus 20 = .ok (.isub, 1) := by decide +kernel
theorem dX3_takeBus_21 : decode cX3_takeBus 21 = .ok (.aload_n 0, 1) := by decide +kernel
theorem dX3_takeBus_22 : decode cX3_takeBus 22 = .ok (.getfield 37, 3) := by decide +kernel
theorem dX3_takeBus_25 : decode cX3_takeBus 25 = .ok (.iadd, 1) := by decide +kernel
theorem dX3_takeBus_26 : decode cX3_takeBus 26 = .ok (.putfield 50, 3) := by decide +kernel
theorem dX3_takeBus_29 : decode cX3_takeBus 29 = .ok (.aload_n 0, 1) := by decide +kernel
theorem dX3_takeBus_30 : decode cX3_takeBus 30 = .ok (.iconst (-1), 1) := by decide +kernel
theorem dX3_takeBus_31 : decode cX3_takeBus 31 = .ok (.putfield 53, 3) := by decide +kernel
theorem dX3_takeBus_34 : decode cX3_takeBus 34 = .ok (.aload_n 0, 1) := by decide +kernel
theorem dX3_takeBus_35 : decode cX3_takeBus 35 = .ok (.iload_n 3, 1) := by decide +kernel
theorem dX3_takeBus_36 : decode cX3_takeBus 36 = .ok (.putfield 56, 3) := by decide +kernel
theorem dX3_takeBus_39 : decode cX3_takeBus 39 = .ok (.aload_n 0, 1) := by decide +kernel
theorem dX3_takeBus_40 : decode cX3_takeBus 40 = .ok (.iconst 0, 1) := by decide +kernel
theorem dX3_takeBus_41 : decode cX3_takeBus 41 = .ok (.putfield 59, 3) := by decide +kernel
theorem dX3_takeBus_44 : decode cX3_takeBus 44 = .ok (.iload 4, 2) := by decide +kernel
theorem dX3_takeBus_46 : decode cX3_takeBus 46 = .ok (.iload_n 3, 1) := by decide +kernel
theorem dX3_takeBus_47 : decode cX3_takeBus 47 = .ok (.if_icmp .ne 39, 3) := by decide +kernel
theorem dX3_takeBus_50 : decode cX3_takeBus 50 = .ok (.iload_n 3, 1) := by decide +kernel
theorem dX3_takeBus_51 : decode cX3_takeBus 51 = .ok (.iconst 1, 1) := by decide +kernel
theorem dX3_takeBus_52 : decode cX3_takeBus 52 = .ok (.iadd, 1) := by decide +kernel
theorem dX3_takeBus_53 : decode cX3_takeBus 53 = .ok (.aload_n 0, 1) := by decide +kernel
theorem dX3_takeBus_54 : decode cX3_takeBus 54 = .ok (.getfield 90, 3) := by decide +kernel
theorem dX3_takeBus_57 : decode cX3_takeBus 57 = .ok (.if_icmp .ge 29, 3) := by decide +kernel
theorem dX3_takeBus_60 : decode cX3_takeBus 60 = .ok (.aload_n 0, 1) := by decide +kernel
theorem dX3_takeBus_61 : decode cX3_takeBus 61 = .ok (.iload_n 3, 1) := by decide +kernel
theorem dX3_takeBus_62 : decode cX3_takeBus 62 = .ok (.iconst 1, 1) := by decide +kernel
theorem dX3_takeBus_63 : decode cX3_takeBus 63 = .ok (.iadd, 1) := by decide +kernel
theorem dX3_takeBus_64 : decode cX3_takeBus 64 = .ok (.putfield 53, 3) := by decide +kernel
theorem dX3_takeBus_67 : decode cX3_takeBus 67 = .ok (.aload_n 0, 1) := by decide +kernel
theorem dX3_takeBus_68 : decode cX3_takeBus 68 = .ok (.iconst 5, 1) := by decide +kernel
theorem dX3_takeBus_69 : decode cX3_takeBus 69 = .ok (.aload_n 0, 1) := by decide +kernel
theorem dX3_takeBus_70 : decode cX3_takeBus 70 = .ok (.aload_n 0, 1) := by decide +kernel
theorem dX3_takeBus_71 : decode cX3_takeBus 71 = .ok (.getfield 53, 3) := by decide +kernel
theorem dX3_takeBus_74 : decode cX3_takeBus 74 = .ok (.invokevirtual 162, 3) := by decide +kernel
theorem dX3_takeBus_77 : decode cX3_takeBus 77 = .ok (.invokestatic 165, 3) := by decide +kernel
theorem dX3_takeBus_80 : decode cX3_takeBus 80 = .ok (.putfield 59, 3) := by decide +kernel
theorem dX3_takeBus_83 : decode cX3_takeBus 83 = .ok (.goto 51, 3) := by decide +kernel
theorem dX3_takeBus_86 : decode cX3_takeBus 86 = .ok (.iload 4, 2) := by decide +kernel
theorem dX3_takeBus_88 : decode cX3_takeBus 88 = .ok (.iconst (-1), 1) := by decide +kernel
theorem dX3_takeBus_89 : decode cX3_takeBus 89 = .ok (.if_icmp .eq 45, 3) := by decide +kernel
theorem dX3_takeBus_92 : decode cX3_takeBus 92 = .ok (.iload_n 3, 1) := by decide +kernel
theorem dX3_takeBus_93 : decode cX3_takeBus 93 = .ok (.iload 4, 2) := by decide +kernel
theorem dX3_takeBus_95 : decode cX3_takeBus 95 = .ok (.if_icmp .le 39, 3) := by decide +kernel
theorem dX3_takeBus_98 : decode cX3_takeBus 98 = .ok (.aload_n 0, 1) := by decide +kernel
theorem dX3_takeBus_99 : decode cX3_takeBus 99 = .ok (.iload 4, 2) := by decide +kernel
theorem dX3_takeBus_101 : decode cX3_takeBus 101 = .ok (.putfield 53, 3) := by decide +kernel
theorem dX3_takeBus_104 : decode cX3_takeBus 104 = .ok (.aload_n 0, 1) := by decide +kernel
theorem dX3_takeBus_105 : decode cX3_takeBus 105 = .ok (.iload 4, 2) := by decide +kernel
theorem dX3_takeBus_107 : decode cX3_takeBus 107 = .ok (.iload_n 1, 1) := by decide +kernel
theorem dX3_takeBus_108 : decode cX3_takeBus 108 = .ok (.invokevirtual 168, 3) := by decide +kernel
theorem dX3_takeBus_111 : decode cX3_takeBus 111 = .ok (.istore 5, 2) := by decide +kernel
theorem dX3_takeBus_113 : decode cX3_takeBus 113 = .ok (.aload_n 0, 1) := by decide +kernel
theorem dX3_takeBus_114 : decode cX3_takeBus 114 = .ok (.iconst 5, 1) := by decide +kernel
theorem dX3_takeBus_115 : decode cX3_takeBus 115 = .ok (.iload 5, 2) := by decide +kernel
theorem dX3_takeBus_117 : decode cX3_takeBus 117 = .ok (.aload_n 0, 1) := by decide +kernel
theorem dX3_takeBus_118 : decode cX3_takeBus 118 = .ok (.aload_n 0, 1) := by decide +kernel
theorem dX3_takeBus_119 : decode cX3_takeBus 119 = .ok (.getfield 53, 3) := by decide +kernel
theorem dX3_takeBus_122 : decode cX3_takeBus 122 = .ok (.invokevirtual 162, 3) := by decide +kernel
theorem dX3_takeBus_125 : decode cX3_takeBus 125 = .ok (.invokestatic 165, 3) := by decide +kernel
theorem dX3_takeBus_128 : decode cX3_takeBus 128 = .ok (.invokestatic 165, 3) := by decide +kernel
theorem dX3_takeBus_131 : decode cX3_takeBus 131 = .ok (.putfield 59, 3) := by decide +kernel
theorem dX3_takeBus_134 : decode cX3_takeBus 134 = .ok (.aload_n 0, 1) := by decide +kernel
theorem dX3_takeBus_135 : decode cX3_takeBus 135 = .ok (.getfield 59, 3) := by decide +kernel
theorem dX3_takeBus_138 : decode cX3_takeBus 138 = .ok (.ireturn, 1) := by decide +kernel
theorem dX3_spareGreen_0 : decode cX3_spareGreen 0 = .ok (.aload_n 0, 1) := by decide +kernel
theorem dX3_spareGreen_1 : decode cX3_spareGreen 1 = .ok (.getfield 21, 3) := by decide +kernel
theorem dX3_spareGreen_4 : decode cX3_spareGreen 4 = .ok (.iload_n 1, 1) := by decide +kernel
theorem dX3_spareGreen_5 : decode cX3_spareGreen 5 = .ok (.invokestatic 82, 3) := by decide +kernel
theorem dX3_spareGreen_8 : decode cX3_spareGreen 8 = .ok (.aload_n 0, 1) := by decide +kernel
theorem dX3_spareGreen_9 : decode cX3_spareGreen 9 = .ok (.iload_n 1, 1) := by decide +kernel
theorem dX3_spareGreen_10 : decode cX3_spareGreen 10 = .ok (.invokevirtual 109, 3) := by decide +kernel
theorem dX3_spareGreen_13 : decode cX3_spareGreen 13 = .ok (.isub, 1) := by decide +kernel
theorem dX3_spareGreen_14 : decode cX3_spareGreen 14 = .ok (.ireturn, 1) := by decide +kernel
theorem dX3_secondsOfGreenBehind_0 : decode cX3_secondsOfGreenBehind 0 = .ok (.aload_n 0, 1) := by decide +kernel
theorem dX3_secondsOfGreenBehind_1 : decode cX3_secondsOfGreenBehind 1 = .ok (.getfield 21, 3) := by decide +kernel
theorem dX3_secondsOfGreenBehind_4 : decode cX3_secondsOfGreenBehind 4 = .ok (.iload_n 1, 1) := by decide +kernel
theorem dX3_secondsOfGreenBehind_5 : decode cX3_secondsOfGreenBehind 5 = .ok (.invokestatic 82, 3) := by decide +kernel
theorem dX3_secondsOfGreenBehind_8 : decode cX3_secondsOfGreenBehind 8 = .ok (.istore_n 3, 1) := by decide +kernel
theorem dX3_secondsOfGreenBehind_9 : decode cX3_secondsOfGreenBehind 9 = .ok (.iconst 0, 1) := by decide +kernel
theorem dX3_secondsOfGreenBehind_10 : decode cX3_secondsOfGreenBehind 10 = .ok (.istore 4, 2) := by decide +kernel
theorem dX3_secondsOfGreenBehind_12 : decode cX3_secondsOfGreenBehind 12 = .ok (.iload 4, 2) := by decide +kernel
theorem dX3_secondsOfGreenBehind_14 : decode cX3_secondsOfGreenBehind 14 = .ok (.iload_n 1, 1) := by decide +kernel
theorem dX3_secondsOfGreenBehind_15 : decode cX3_secondsOfGreenBehind 15 = .ok (.if_icmp .ge 31, 3) := by decide +kernel
theorem dX3_secondsOfGreenBehind_18 : decode cX3_secondsOfGreenBehind 18 = .ok (.iload_n 3, 1) := by decide +kernel
theorem dX3_secondsOfGreenBehind_19 : decode cX3_secondsOfGreenBehind 19 = .ok (.aload_n 0, 1) := by decide +kernel
theorem dX3_secondsOfGreenBehind_20 : decode cX3_secondsOfGreenBehind 20 = .ok (.getfield 21, 3) := by decide +kernel
theorem dX3_secondsOfGreenBehind_23 : decode cX3_secondsOfGreenBehind 23 = .ok (.iload 4, 2) := by decide +kernel
theorem dX3_secondsOfGreenBehind_25 : decode cX3_secondsOfGreenBehind 25 = .ok (.invokestatic 82, 3) := by decide +kernel
theorem dX3_secondsOfGreenBehind_28 : decode cX3_secondsOfGreenBehind 28 = .ok (.aload_n 0, 1) := by decide +kernel
theorem dX3_secondsOfGreenBehind_29 : decode cX3_secondsOfGreenBehind 29 = .ok (.getfield 24, 3) := by decide +kernel
theorem dX3_secondsOfGreenBehind_32 : decode cX3_secondsOfGreenBehind 32 = .ok (.iload 4, 2) := by decide +kernel
theorem dX3_secondsOfGreenBehind_34 : decode cX3_secondsOfGreenBehind 34 = .ok (.invokestatic 82, 3) := by decide +kernel
theorem dX3_secondsOfGreenBehind_37 : decode cX3_secondsOfGreenBehind 37 = .ok (.iadd, 1) := by decide +kernel
theorem dX3_secondsOfGreenBehind_38 : decode cX3_secondsOfGreenBehind 38 = .ok (.iadd, 1) := by decide +kernel
theorem dX3_secondsOfGreenBehind_39 : decode cX3_secondsOfGreenBehind 39 = .ok (.istore_n 3, 1) := by decide +kernel
theorem dX3_secondsOfGreenBehind_40 : decode cX3_secondsOfGreenBehind 40 = .ok (.iinc 4 1, 3) := by decide +kernel
theorem dX3_secondsOfGreenBehind_43 : decode cX3_secondsOfGreenBehind 43 = .ok (.goto (-31), 3) := by decide +kernel
theorem dX3_secondsOfGreenBehind_46 : decode cX3_secondsOfGreenBehind 46 = .ok (.iload_n 3, 1) := by decide +kernel
theorem dX3_secondsOfGreenBehind_47 : decode cX3_secondsOfGreenBehind 47 = .ok (.iconst 1, 1) := by decide +kernel
theorem dX3_secondsOfGreenBehind_48 : decode cX3_secondsOfGreenBehind 48 = .ok (.isub, 1) := by decide +kernel
theorem dX3_secondsOfGreenBehind_49 : decode cX3_secondsOfGreenBehind 49 = .ok (.aload_n 0, 1) := by decide +kernel
theorem dX3_secondsOfGreenBehind_50 : decode cX3_secondsOfGreenBehind 50 = .ok (.iload_n 2, 1) := by decide +kernel
theorem dX3_secondsOfGreenBehind_51 : decode cX3_secondsOfGreenBehind 51 = .ok (.invokevirtual 150, 3) := by decide +kernel
theorem dX3_secondsOfGreenBehind_54 : decode cX3_secondsOfGreenBehind 54 = .ok (.isub, 1) := by decide +kernel
theorem dX3_secondsOfGreenBehind_55 : decode cX3_secondsOfGreenBehind 55 = .ok (.ireturn, 1) := by decide +kernel
theorem dX3_growReady_0 : decode cX3_growReady 0 = .ok (.aload_n 0, 1) := by decide +kernel
theorem dX3_growReady_1 : decode cX3_growReady 1 = .ok (.iload_n 1, 1) := by decide +kernel
theorem dX3_growReady_2 : decode cX3_growReady 2 = .ok (.invokevirtual 159, 3) := by decide +kernel
theorem dX3_growReady_5 : decode cX3_growReady 5 = .ok (.istore_n 2, 1) := by decide +kernel
theorem dX3_growReady_6 : decode cX3_growReady 6 = .ok (.iload_n 2, 1) := by decide +kernel
theorem dX3_growReady_7 : decode cX3_growReady 7 = .ok (.iconst (-1), 1) := by decide +kernel
theorem dX3_growReady_8 : decode cX3_growReady 8 = .ok (.if_icmp .eq 22, 3) := by decide +kernel
theorem dX3_growReady_11 : decode cX3_growReady 11 = .ok (.aload_n 0, 1) := by decide +kernel
theorem dX3_growReady_12 : decode cX3_growReady 12 = .ok (.getfield 15, 3) := by decide +kernel
theorem dX3_growReady_15 : decode cX3_growReady 15 = .ok (.iload_n 2, 1) := by decide +kernel
theorem dX3_growReady_16 : decode cX3_growReady 16 = .ok (.invokestatic 82, 3) := by decide +kernel
theorem dX3_growReady_19 : decode cX3_growReady 19 = .ok (.iconst 0, 1) := by decide +kernel
theorem dX3_growReady_20 : decode cX3_growReady 20 = .ok (.invokestatic 93, 3) := by decide +kernel
theorem dX3_growReady_23 : decode cX3_growReady 23 = .ok (.ifCond .eq 7, 3) := by decide +kernel
theorem dX3_growReady_26 : decode cX3_growReady 26 = .ok (.iconst 1, 1) := by decide +kernel
theorem dX3_growReady_27 : decode cX3_growReady 27 = .ok (.goto 4, 3) := by decide +kernel
theorem dX3_growReady_30 : decode cX3_growReady 30 = .ok (.iconst 0, 1) := by decide +kernel
theorem dX3_growReady_31 : decode cX3_growReady 31 = .ok (.istore_n 3, 1) := by decide +kernel
theorem dX3_growReady_32 : decode cX3_growReady 32 = .ok (.aload_n 0, 1) := by decide +kernel
theorem dX3_growReady_33 : decode cX3_growReady 33 = .ok (.iload_n 3, 1) := by decide +kernel
theorem dX3_growReady_34 : decode cX3_growReady 34 = .ok (.ifCond .eq 16, 3) := by decide +kernel
theorem dX3_growReady_37 : decode cX3_growReady 37 = .ok (.iconst 2, 1) := by decide +kernel
theorem dX3_growReady_38 : decode cX3_growReady 38 = .ok (.aload_n 0, 1) := by decide +kernel
theorem dX3_growReady_39 : decode cX3_growReady 39 = .ok (.getfield 47, 3) := by decide +kernel
theorem dX3_growReady_42 : decode cX3_growReady 42 = .ok (.iconst 1, 1) := by decide +kernel
theorem dX3_growReady_43 : decode cX3_growReady 43 = .ok (.iadd, 1) := by decide +kernel
theorem dX3_growReady_44 : decode cX3_growReady 44 = .ok (.invokestatic 165, 3) := by decide +kernel
theorem dX3_growReady_47 : decode cX3_growReady 47 = .ok (.goto 4, 3) := by decide +kernel
theorem dX3_growReady_50 : decode cX3_growReady 50 = .ok (.iconst 0, 1) := by decide +kernel
theorem dX3_growReady_51 : decode cX3_growReady 51 = .ok (.putfield 47, 3) := by decide +kernel
theorem dX3_growReady_54 : decode cX3_growReady 54 = .ok (.return_, 1) := by decide +kernel
theorem dX4_init_0 : decode cX4_init 0 = .ok (.aload_n 0, 1) := by decide +kernel
theorem dX4_init_1 : decode cX4_init 1 = .ok (.invokespecial 3, 3) := by decide +kernel
theorem dX4_init_4 : decode cX4_init 4 = .ok (.aload_n 0, 1) := by decide +kernel
theorem dX4_init_5 : decode cX4_init 5 = .ok (.bipush 61, 2) := by decide +kernel
theorem dX4_init_7 : decode cX4_init 7 = .ok (.newarray .int, 2) := by decide +kernel
theorem dX4_init_9 : decode cX4_init 9 = .ok (.putfield 11, 3) := by decide +kernel
theorem dX4_init_12 : decode cX4_init 12 = .ok (.return_, 1) := by decide +kernel
theorem dX4_reset_0 : decode cX4_reset 0 = .ok (.aload_n 0, 1) := by decide +kernel
theorem dX4_reset_1 : decode cX4_reset 1 = .ok (.bipush 10, 2) := by decide +kernel
theorem dX4_reset_3 : decode cX4_reset 3 = .ok (.putfield 15, 3) := by decide +kernel
theorem dX4_reset_6 : decode cX4_reset 6 = .ok (.aload_n 0, 1) := by decide +kernel
theorem dX4_reset_7 : decode cX4_reset 7 = .ok (.bipush 20, 2) := by decide +kernel
theorem dX4_reset_9 : decode cX4_reset 9 = .ok (.putfield 19, 3) := by decide +kernel
theorem dX4_reset_12 : decode cX4_reset 12 = .ok (.aload_n 0, 1) := by decide +kernel
theorem dX4_reset_13 : decode cX4_reset 13 = .ok (.iconst 0, 1) := by decide +kernel
theorem dX4_reset_14 : decode cX4_reset 14 = .ok (.putfield 22, 3) := by decide +kernel
theorem dX4_reset_17 : decode cX4_reset 17 = .ok (.aload_n 0, 1) := by decide +kernel
theorem dX4_reset_18 : decode cX4_reset 18 = .ok (.getfield 11, 3) := by decide +kernel
theorem dX4_reset_21 : decode cX4_reset 21 = .ok (.iconst 0, 1) := by decide +kernel
theorem dX4_reset_22 : decode cX4_reset 22 = .ok (.invokestatic 25, 3) := by decide +kernel
theorem dX4_reset_25 : decode cX4_reset 25 = .ok (.return_, 1) := by decide +kernel
theorem dX4_send_0 : decode cX4_send 0 = .ok (.iload_n 1, 1) := by decide +kernel
theorem dX4_send_1 : decode cX4_send 1 = .ok (.aload_n 0, 1) := by decide +kernel
theorem dX4_send_2 : decode cX4_send 2 = .ok (.getfield 15, 3) := by decide +kernel
theorem dX4_send_5 : decode cX4_send 5 = .ok (.iadd, 1) := by decide +kernel
theorem dX4_send_6 : decode cX4_send 6 = .ok (.bipush 61, 2) := by decide +kernel
theorem dX4_send_8 : decode cX4_send 8 = .ok (.invokestatic 31, 3) := by decide +kernel
theorem dX4_send_11 : decode cX4_send 11 = .ok (.istore_n 2, 1) := by decide +kernel
theorem dX4_send_12 : decode cX4_send 12 = .ok (.aload_n 0, 1) := by decide +kernel
theorem dX4_send_13 : decode cX4_send 13 = .ok (.getfield 11, 3) := by decide +kernel
theorem dX4_send_16 : decode cX4_send 16 = .ok (.iload_n 2, 1) := by decide +kernel
theorem dX4_send_17 : decode cX4_send 17 = .ok (.aload_n 0, 1) := by decide +kernel
theorem dX4_send_18 : decode cX4_send 18 = .ok (.getfield 11, 3) := by decide +kernel
theorem dX4_send_21 : decode cX4_send 21 = .ok (.iload_n 2, 1) := by decide +kernel
theorem dX4_send_22 : decode cX4_send 22 = .ok (.invokestatic 35, 3) := by decide +kernel
theorem dX4_send_25 : decode cX4_send 25 = .ok (.iconst 1, 1) := by decide +kernel
theorem dX4_send_26 : decode cX4_send 26 = .ok (.iadd, 1) := by decide +kernel
theorem dX4_send_27 : decode cX4_send 27 = .ok (.invokestatic 39, 3) := by decide +kernel
theorem dX4_send_30 : decode cX4_send 30 = .ok (.aload_n 0, 1) := by decide +kernel
theorem dX4_send_31 : decode cX4_send 31 = .ok (.dup, 1) := by decide +kernel
theorem dX4_send_32 : decode cX4_send 32 = .ok (.getfield 22, 3) := by decide +kernel
theorem dX4_send_35 : decode cX4_send 35 = .ok (.iconst 1, 1) := by decide +kernel
theorem dX4_send_36 : decode cX4_send 36 = .ok (.iadd, 1) := by decide +kernel
theorem dX4_send_37 : decode cX4_send 37 = .ok (.putfield 22, 3) := by decide +kernel
theorem dX4_send_40 : decode cX4_send 40 = .ok (.return_, 1) := by decide +kernel
theorem dX4_land_0 : decode cX4_land 0 = .ok (.iload_n 1, 1) := by decide +kernel
theorem dX4_land_1 : decode cX4_land 1 = .ok (.bipush 61, 2) := by decide +kernel
theorem dX4_land_3 : decode cX4_land 3 = .ok (.invokestatic 31, 3) := by decide +kernel
theorem dX4_land_6 : decode cX4_land 6 = .ok (.istore_n 2, 1) := by decide +kernel
theorem dX4_land_7 : decode cX4_land 7 = .ok (.aload_n 0, 1) := by decide +kernel
theorem dX4_land_8 : decode cX4_land 8 = .ok (.getfield 11, 3) := by decide +kernel
theorem dX4_land_11 : decode cX4_land 11 = .ok (.iload_n 2, 1) := by decide +kernel
theorem dX4_land_12 : decode cX4_land 12 = .ok (.invokestatic 35, 3) := by decide +kernel
theorem dX4_land_15 : decode cX4_land 15 = .ok (.istore_n 3, 1) := by decide +kernel
theorem dX4_land_16 : decode cX4_land 16 = .ok (.aload_n 0, 1) := by decide +kernel
theorem dX4_land_17 : decode cX4_land 17 = .ok (.getfield 11, 3) := by decide +kernel
theorem dX4_land_20 : decode cX4_land 20 = .ok (.iload_n 2, 1) := by decide +kernel
theorem dX4_land_21 : decode cX4_land 21 = .ok (.iconst 0, 1) := by decide +kernel
theorem dX4_land_22 : decode cX4_land 22 = .ok (.invokestatic 39, 3) := by decide +kernel
theorem dX4_land_25 : decode cX4_land 25 = .ok (.aload_n 0, 1) := by decide +kernel
theorem dX4_land_26 : decode cX4_land 26 = .ok (.dup, 1) := by decide +kernel
theorem dX4_land_27 : decode cX4_land 27 = .ok (.getfield 22, 3) := by decide +kernel
theorem dX4_land_30 : decode cX4_land 30 = .ok (.iload_n 3, 1) := by decide +kernel
theorem dX4_land_31 : decode cX4_land 31 = .ok (.isub, 1) := by decide +kernel
theorem dX4_land_32 : decode cX4_land 32 = .ok (.putfield 22, 3) := by decide +kernel
theorem dX4_land_35 : decode cX4_land 35 = .ok (.iload_n 3, 1) := by decide +kernel
theorem dX4_land_36 : decode cX4_land 36 = .ok (.ireturn, 1) := by decide +kernel
theorem dX5_init_0 : decode cX5_init 0 = .ok (.aload_n 0, 1) := by decide +kernel
theorem dX5_init_1 : decode cX5_init 1 = .ok (.invokespecial 1, 3) := by decide +kernel
theorem dX5_init_4 : decode cX5_init 4 = .ok (.return_, 1) := by decide +kernel
theorem dX5_clear_0 : decode cX5_clear 0 = .ok (.aload_n 0, 1) := by decide +kernel
theorem dX5_clear_1 : decode cX5_clear 1 = .ok (.lconst 0, 1) := by decide +kernel
theorem dX5_clear_2 : decode cX5_clear 2 = .ok (.putfield 7, 3) := by decide +kernel
theorem dX5_clear_5 : decode cX5_clear 5 = .ok (.aload_n 0, 1) := by decide +kernel
theorem dX5_clear_6 : decode cX5_clear 6 = .ok (.lconst 0, 1) := by decide +kernel
theorem dX5_clear_7 : decode cX5_clear 7 = .ok (.putfield 13, 3) := by decide +kernel
theorem dX5_clear_10 : decode cX5_clear 10 = .ok (.return_, 1) := by decide +kernel
theorem dX5_add_0 : decode cX5_add 0 = .ok (.iload_n 1, 1) := by decide +kernel
theorem dX5_add_1 : decode cX5_add 1 = .ok (.bipush 64, 2) := by decide +kernel
theorem dX5_add_3 : decode cX5_add 3 = .ok (.if_icmp .ge 18, 3) := by decide +kernel
theorem dX5_add_6 : decode cX5_add 6 = .ok (.aload_n 0, 1) := by decide +kernel
theorem dX5_add_7 : decode cX5_add 7 = .ok (.dup, 1) := by decide +kernel
theorem dX5_add_8 : decode cX5_add 8 = .ok (.getfield 7, 3) := by decide +kernel
theorem dX5_add_11 : decode cX5_add 11 = .ok (.lconst 1, 1) := by decide +kernel
theorem dX5_add_12 : decode cX5_add 12 = .ok (.iload_n 1, 1) := by decide +kernel
theorem dX5_add_13 : decode cX5_add 13 = .ok (.lshl, 1) := by decide +kernel
theorem dX5_add_14 : decode cX5_add 14 = .ok (.lor, 1) := by decide +kernel
theorem dX5_add_15 : decode cX5_add 15 = .ok (.putfield 7, 3) := by decide +kernel
theorem dX5_add_18 : decode cX5_add 18 = .ok (.goto 18, 3) := by decide +kernel
theorem dX5_add_21 : decode cX5_add 21 = .ok (.aload_n 0, 1) := by decide +kernel
theorem dX5_add_22 : decode cX5_add 22 = .ok (.dup, 1) := by decide +kernel
theorem dX5_add_23 : decode cX5_add 23 = .ok (.getfield 13, 3) := by decide +kernel
theorem dX5_add_26 : decode cX5_add 26 = .ok (.lconst 1, 1) := by decide +kernel
theorem dX5_add_27 : decode cX5_add 27 = .ok (.iload_n 1, 1) := by decide +kernel
theorem dX5_add_28 : decode cX5_add 28 = .ok (.bipush 64, 2) := by decide +kernel
theorem dX5_add_30 : decode cX5_add 30 = .ok (.isub, 1) := by decide +kernel
theorem dX5_add_31 : decode cX5_add 31 = .ok (.lshl, 1) := by decide +kernel
theorem dX5_add_32 : decode cX5_add 32 = .ok (.lor, 1) := by decide +kernel
theorem dX5_add_33 : decode cX5_add 33 = .ok (.putfield 13, 3) := by decide +kernel
theorem dX5_add_36 : decode cX5_add 36 = .ok (.return_, 1) := by decide +kernel
theorem dX5_remove_0 : decode cX5_remove 0 = .ok (.iload_n 1, 1) := by decide +kernel
theorem dX5_remove_1 : decode cX5_remove 1 = .ok (.bipush 64, 2) := by decide +kernel
theorem dX5_remove_3 : decode cX5_remove 3 = .ok (.if_icmp .ge 22, 3) := by decide +kernel
theorem dX5_remove_6 : decode cX5_remove 6 = .ok (.aload_n 0, 1) := by decide +kernel
theorem dX5_remove_7 : decode cX5_remove 7 = .ok (.dup, 1) := by decide +kernel
theorem dX5_remove_8 : decode cX5_remove 8 = .ok (.getfield 7, 3) := by decide +kernel
theorem dX5_remove_11 : decode cX5_remove 11 = .ok (.lconst 1, 1) := by decide +kernel
theorem dX5_remove_12 : decode cX5_remove 12 = .ok (.iload_n 1, 1) := by decide +kernel
theorem dX5_remove_13 : decode cX5_remove 13 = .ok (.lshl, 1) := by decide +kernel
theorem dX5_remove_14 : decode cX5_remove 14 = .ok (.ldc2_w 16, 3) := by decide +kernel
theorem dX5_remove_17 : decode cX5_remove 17 = .ok (.lxor, 1) := by decide +kernel
theorem dX5_remove_18 : decode cX5_remove 18 = .ok (.land, 1) := by decide +kernel
theorem dX5_remove_19 : decode cX5_remove 19 = .ok (.putfield 7, 3) := by decide +kernel
theorem dX5_remove_22 : decode cX5_remove 22 = .ok (.goto 22, 3) := by decide +kernel
theorem dX5_remove_25 : decode cX5_remove 25 = .ok (.aload_n 0, 1) := by decide +kernel
theorem dX5_remove_26 : decode cX5_remove 26 = .ok (.dup, 1) := by decide +kernel
theorem dX5_remove_27 : decode cX5_remove 27 = .ok (.getfield 13, 3) := by decide +kernel
theorem dX5_remove_30 : decode cX5_remove 30 = .ok (.lconst 1, 1) := by decide +kernel
theorem dX5_remove_31 : decode cX5_remove 31 = .ok (.iload_n 1, 1) := by decide +kernel
theorem dX5_remove_32 : decode cX5_remove 32 = .ok (.bipush 64, 2) := by decide +kernel
theorem dX5_remove_34 : decode cX5_remove 34 = .ok (.isub, 1) := by decide +kernel
theorem dX5_remove_35 : decode cX5_remove 35 = .ok (.lshl, 1) := by decide +kernel
theorem dX5_remove_36 : decode cX5_remove 36 = .ok (.ldc2_w 16, 3) := by decide +kernel
theorem dX5_remove_39 : decode cX5_remove 39 = .ok (.lxor, 1) := by decide +kernel
theorem dX5_remove_40 : decode cX5_remove 40 = .ok (.land, 1) := by decide +kernel
theorem dX5_remove_41 : decode cX5_remove 41 = .ok (.putfield 13, 3) := by decide +kernel
theorem dX5_remove_44 : decode cX5_remove 44 = .ok (.return_, 1) := by decide +kernel
theorem dX5_has_0 : decode cX5_has 0 = .ok (.iload_n 1, 1) := by decide +kernel
theorem dX5_has_1 : decode cX5_has 1 = .ok (.bipush 64, 2) := by decide +kernel
theorem dX5_has_3 : decode cX5_has 3 = .ok (.if_icmp .ge 12, 3) := by decide +kernel
theorem dX5_has_6 : decode cX5_has 6 = .ok (.aload_n 0, 1) := by decide +kernel
theorem dX5_has_7 : decode cX5_has 7 = .ok (.getfield 7, 3) := by decide +kernel
theorem dX5_has_10 : decode cX5_has 10 = .ok (.iload_n 1, 1) := by decide +kernel
theorem dX5_has_11 : decode cX5_has 11 = .ok (.lushr, 1) := by decide +kernel
theorem dX5_has_12 : decode cX5_has 12 = .ok (.goto 12, 3) := by decide +kernel
theorem dX5_has_15 : decode cX5_has 15 = .ok (.aload_n 0, 1) := by decide +kernel
theorem dX5_has_16 : decode cX5_has 16 = .ok (.getfield 13, 3) := by decide +kernel
theorem dX5_has_19 : decode cX5_has 19 = .ok (.iload_n 1, 1) := by decide +kernel
theorem dX5_has_20 : decode cX5_has 20 = .ok (.bipush 64, 2) := by decide +kernel
theorem dX5_has_22 : decode cX5_has 22 = .ok (.isub, 1) := by decide +kernel
theorem dX5_has_23 : decode cX5_has 23 = .ok (.lushr, 1) := by decide +kernel
theorem dX5_has_24 : decode cX5_has 24 = .ok (.lstore_n 2, 1) := by decide +kernel
theorem dX5_has_25 : decode cX5_has 25 = .ok (.lload_n 2, 1) := by decide +kernel
theorem dX5_has_26 : decode cX5_has 26 = .ok (.lconst 1, 1) := by decide +kernel
theorem dX5_has_27 : decode cX5_has 27 = .ok (.land, 1) := by decide +kernel
theorem dX5_has_28 : decode cX5_has 28 = .ok (.lconst 0, 1) := by decide +kernel
theorem dX5_has_29 : decode cX5_has 29 = .ok (.lcmp, 1) := by decide +kernel
theorem dX5_has_30 : decode cX5_has 30 = .ok (.ifCond .eq 7, 3) := by decide +kernel
theorem dX5_has_33 : decode cX5_has 33 = .ok (.iconst 1, 1) := by decide +kernel
theorem dX5_has_34 : decode cX5_has 34 = .ok (.goto 4, 3) := by decide +kernel
theorem dX5_has_37 : decode cX5_has 37 = .ok (.iconst 0, 1) := by decide +kernel
theorem dX5_has_38 : decode cX5_has 38 = .ok (.ireturn, 1) := by decide +kernel
theorem dX5_becomeCommon_0 : decode cX5_becomeCommon 0 = .ok (.aload_n 0, 1) := by decide +kernel
theorem dX5_becomeCommon_1 : decode cX5_becomeCommon 1 = .ok (.aload_n 1, 1) := by decide +kernel
theorem dX5_becomeCommon_2 : decode cX5_becomeCommon 2 = .ok (.getfield 7, 3) := by decide +kernel
theorem dX5_becomeCommon_5 : decode cX5_becomeCommon 5 = .ok (.aload_n 2, 1) := by decide +kernel
theorem dX5_becomeCommon_6 : decode cX5_becomeCommon 6 = .ok (.getfield 7, 3) := by decide +kernel
theorem dX5_becomeCommon_9 : decode cX5_becomeCommon 9 = .ok (.land, 1) := by decide +kernel
theorem dX5_becomeCommon_10 : decode cX5_becomeCommon 10 = .ok (.putfield 7, 3) := by decide +kernel
theorem dX5_becomeCommon_13 : decode cX5_becomeCommon 13 = .ok (.aload_n 0, 1) := by decide +kernel
theorem dX5_becomeCommon_14 : decode cX5_becomeCommon 14 = .ok (.aload_n 1, 1) := by decide +kernel
theorem dX5_becomeCommon_15 : decode cX5_becomeCommon 15 = .ok (.getfield 13, 3) := by decide +kernel
theorem dX5_becomeCommon_18 : decode cX5_becomeCommon 18 = .ok (.aload_n 2, 1) := by decide +kernel
theorem dX5_becomeCommon_19 : decode cX5_becomeCommon 19 = .ok (.getfield 13, 3) := by decide +kernel
theorem dX5_becomeCommon_22 : decode cX5_becomeCommon 22 = .ok (.land, 1) := by decide +kernel
theorem dX5_becomeCommon_23 : decode cX5_becomeCommon 23 = .ok (.putfield 13, 3) := by decide +kernel
theorem dX5_becomeCommon_26 : decode cX5_becomeCommon 26 = .ok (.return_, 1) := by decide +kernel
theorem dX5_countCommon_0 : decode cX5_countCommon 0 = .ok (.aload_n 0, 1) := by decide +kernel
theorem dX5_countCommon_1 : decode cX5_countCommon 1 = .ok (.getfield 7, 3) := by decide +kernel
theorem dX5_countCommon_4 : decode cX5_countCommon 4 = .ok (.aload_n 1, 1) := by decide +kernel
theorem dX5_countCommon_5 : decode cX5_countCommon 5 = .ok (.getfield 7, 3) := by decide +kernel
theorem dX5_countCommon_8 : decode cX5_countCommon 8 = .ok (.land, 1) := by decide +kernel
theorem dX5_countCommon_9 : decode cX5_countCommon 9 = .ok (.invokestatic 18, 3) := by decide +kernel
theorem dX5_countCommon_12 : decode cX5_countCommon 12 = .ok (.aload_n 0, 1) := by decide +kernel
theorem dX5_countCommon_13 : decode cX5_countCommon 13 = .ok (.getfield 13, 3) := by decide +kernel
theorem dX5_countCommon_16 : decode cX5_countCommon 16 = .ok (.aload_n 1, 1) := by decide +kernel
theorem dX5_countCommon_17 : decode cX5_countCommon 17 = .ok (.getfield 13, 3) := by decide +kernel
theorem dX5_countCommon_20 : decode cX5_countCommon 20 = .ok (.land, 1) := by decide +kernel
theorem dX5_countCommon_21 : decode cX5_countCommon 21 = .ok (.invokestatic 18, 3) := by decide +kernel
theorem dX5_countCommon_24 : decode cX5_countCommon 24 = .ok (.iadd, 1) := by decide +kernel
theorem dX5_countCommon_25 : decode cX5_countCommon 25 = .ok (.ireturn, 1) := by decide +kernel
theorem dX5_turn_0 : decode cX5_turn 0 = .ok (.aload_n 0, 1) := by decide +kernel
theorem dX5_turn_1 : decode cX5_turn 1 = .ok (.iload_n 1, 1) := by decide +kernel
theorem dX5_turn_2 : decode cX5_turn 2 = .ok (.iconst 1, 1) := by decide +kernel
theorem dX5_turn_3 : decode cX5_turn 3 = .ok (.isub, 1) := by decide +kernel
theorem dX5_turn_4 : decode cX5_turn 4 = .ok (.invokevirtual 24, 3) := by decide +kernel
theorem dX5_turn_7 : decode cX5_turn 7 = .ok (.ifCond .eq 7, 3) := by decide +kernel
theorem dX5_turn_10 : decode cX5_turn 10 = .ok (.lconst 1, 1) := by decide +kernel
theorem dX5_turn_11 : decode cX5_turn 11 = .ok (.goto 4, 3) := by decide +kernel
theorem dX5_turn_14 : decode cX5_turn 14 = .ok (.lconst 0, 1) := by decide +kernel
theorem dX5_turn_15 : decode cX5_turn 15 = .ok (.lstore_n 2, 1) := by decide +kernel
theorem dX5_turn_16 : decode cX5_turn 16 = .ok (.aload_n 0, 1) := by decide +kernel
theorem dX5_turn_17 : decode cX5_turn 17 = .ok (.aload_n 0, 1) := by decide +kernel
theorem dX5_turn_18 : decode cX5_turn 18 = .ok (.getfield 13, 3) := by decide +kernel
theorem dX5_turn_21 : decode cX5_turn 21 = .ok (.iconst 1, 1) := by decide +kernel
theorem dX5_turn_22 : decode cX5_turn 22 = .ok (.lshl, 1) := by decide +kernel
theorem dX5_turn_23 : decode cX5_turn 23 = .ok (.aload_n 0, 1) := by decide +kernel
theorem dX5_turn_24 : decode cX5_turn 24 = .ok (.getfield 7, 3) := by decide +kernel
theorem dX5_turn_27 : decode cX5_turn 27 = .ok (.bipush 63, 2) := by decide +kernel
theorem dX5_turn_29 : decode cX5_turn 29 = .ok (.lushr, 1) := by decide +kernel
theorem dX5_turn_30 : decode cX5_turn 30 = .ok (.lor, 1) := by decide +kernel
theorem dX5_turn_31 : decode cX5_turn 31 = .ok (.putfield 13, 3) := by decide +kernel
theorem dX5_turn_34 : decode cX5_turn 34 = .ok (.aload_n 0, 1) := by decide +kernel
theorem dX5_turn_35 : decode cX5_turn 35 = .ok (.aload_n 0, 1) := by decide +kernel
theorem dX5_turn_36 : decode cX5_turn 36 = .ok (.getfield 7, 3) := by decide +kernel
theorem dX5_turn_39 : decode cX5_turn 39 = .ok (.iconst 1, 1) := by decide +kernel
theorem dX5_turn_40 : decode cX5_turn 40 = .ok (.lshl, 1) := by decide +kernel
theorem dX5_turn_41 : decode cX5_turn 41 = .ok (.lload_n 2, 1) := by decide +kernel
theorem dX5_turn_42 : decode cX5_turn 42 = .ok (.lor, 1) := by decide +kernel
theorem dX5_turn_43 : decode cX5_turn 43 = .ok (.putfield 7, 3) := by decide +kernel
theorem dX5_turn_46 : decode cX5_turn 46 = .ok (.aload_n 0, 1) := by decide +kernel
theorem dX5_turn_47 : decode cX5_turn 47 = .ok (.iload_n 1, 1) := by decide +kernel
theorem dX5_turn_48 : decode cX5_turn 48 = .ok (.invokevirtual 28, 3) := by decide +kernel
theorem dX5_turn_51 : decode cX5_turn 51 = .ok (.return_, 1) := by decide +kernel
theorem dX6_init_0 : decode cX6_init 0 = .ok (.aload_n 0, 1) := by decide +kernel
theorem dX6_init_1 : decode cX6_init 1 = .ok (.invokespecial 3, 3) := by decide +kernel
theorem dX6_init_4 : decode cX6_init 4 = .ok (.aload_n 0, 1) := by decide +kernel
theorem dX6_init_5 : decode cX6_init 5 = .ok (.aload_n 1, 1) := by decide +kernel
theorem dX6_init_6 : decode cX6_init 6 = .ok (.putfield 9, 3) := by decide +kernel
theorem dX6_init_9 : decode cX6_init 9 = .ok (.return_, 1) := by decide +kernel
theorem dX6_reset_0 : decode cX6_reset 0 = .ok (.aload_n 0, 1) := by decide +kernel
theorem dX6_reset_1 : decode cX6_reset 1 = .ok (.iconst 0, 1) := by decide +kernel
theorem dX6_reset_2 : decode cX6_reset 2 = .ok (.putfield 15, 3) := by decide +kernel
theorem dX6_reset_5 : decode cX6_reset 5 = .ok (.aload_n 0, 1) := by decide +kernel
theorem dX6_reset_6 : decode cX6_reset 6 = .ok (.iconst 0, 1) := by decide +kernel
theorem dX6_reset_7 : decode cX6_reset 7 = .ok (.putfield 19, 3) := by decide +kernel
theorem dX6_reset_10 : decode cX6_reset 10 = .ok (.aload_n 0, 1) := by decide +kernel
theorem dX6_reset_11 : decode cX6_reset 11 = .ok (.iconst 0, 1) := by decide +kernel
theorem dX6_reset_12 : decode cX6_reset 12 = .ok (.putfield 22, 3) := by decide +kernel
theorem dX6_reset_15 : decode cX6_reset 15 = .ok (.aload_n 0, 1) := by decide +kernel
theorem dX6_reset_16 : decode cX6_reset 16 = .ok (.iconst 0, 1) := by decide +kernel
theorem dX6_reset_17 : decode cX6_reset 17 = .ok (.putfield 25, 3) := by decide +kernel
theorem dX6_reset_20 : decode cX6_reset 20 = .ok (.aload_n 0, 1) := by decide +kernel
theorem dX6_reset_21 : decode cX6_reset 21 = .ok (.iconst 0, 1) := by decide +kernel
theorem dX6_reset_22 : decode cX6_reset 22 = .ok (.putfield 28, 3) := by decide +kernel
theorem dX6_reset_25 : decode cX6_reset 25 = .ok (.return_, 1) := by decide +kernel
theorem dX6_pass_0 : decode cX6_pass 0 = .ok (.aload_n 0, 1) := by decide +kernel
theorem dX6_pass_1 : decode cX6_pass 1 = .ok (.getfield 25, 3) := by decide +kernel
theorem dX6_pass_4 : decode cX6_pass 4 = .ok (.istore_n 2, 1) := by decide +kernel
theorem dX6_pass_5 : decode cX6_pass 5 = .ok (.aload_n 0, 1) := by decide +kernel
theorem dX6_pass_6 : decode cX6_pass 6 = .ok (.iconst 1, 1) := by decide +kernel
theorem dX6_pass_7 : decode cX6_pass 7 = .ok (.putfield 28, 3) := by decide +kernel
theorem dX6_pass_10 : decode cX6_pass 10 = .ok (.iconst 0, 1) := by decide +kernel
theorem dX6_pass_11 : decode cX6_pass 11 = .ok (.istore_n 3, 1) := by decide +kernel
theorem dX6_pass_12 : decode cX6_pass 12 = .ok (.iload_n 3, 1) := by decide +kernel
theorem dX6_pass_13 : decode cX6_pass 13 = .ok (.iload_n 1, 1) := by decide +kernel
theorem dX6_pass_14 : decode cX6_pass 14 = .ok (.if_icmp .ge 13, 3) := by decide +kernel
theorem dX6_pass_17 : decode cX6_pass 17 = .ok (.aload_n 0, 1) := by decide +kernel
theorem dX6_pass_18 : decode cX6_pass 18 = .ok (.invokevirtual 32, 3) := by decide +kernel
theorem dX6_pass_21 : decode cX6_pass 21 = .ok (.iinc 3 1, 3) := by decide +kernel
theorem dX6_pass_24 : decode cX6_pass 24 = .ok (.goto (-12), 3) := by decide +kernel
theorem dX6_pass_27 : decode cX6_pass 27 = .ok (.aload_n 0, 1) := by decide +kernel
theorem dX6_pass_28 : decode cX6_pass 28 = .ok (.getfield 25, 3) := by decide +kernel
theorem dX6_pass_31 : decode cX6_pass 31 = .ok (.iload_n 2, 1) := by decide +kernel
theorem dX6_pass_32 : decode cX6_pass 32 = .ok (.isub, 1) := by decide +kernel
theorem dX6_pass_33 : decode cX6_pass 33 = .ok (.ireturn, 1) := by decide +kernel
theorem dX6_passSecond_0 : decode cX6_passSecond 0 = .ok (.iconst 0, 1) := by decide +kernel
theorem dX6_passSecond_1 : decode cX6_passSecond 1 = .ok (.istore_n 1, 1) := by decide +kernel
theorem dX6_passSecond_2 : decode cX6_passSecond 2 = .ok (.iload_n 1, 1) := by decide +kernel
theorem dX6_passSecond_3 : decode cX6_passSecond 3 = .ok (.aload_n 0, 1) := by decide +kernel
theorem dX6_passSecond_4 : decode cX6_passSecond 4 = .ok (.getfield 9, 3) := by decide +kernel
theorem dX6_passSecond_7 : decode cX6_passSecond 7 = .ok (.getfield 35, 3) := by decide +kernel
theorem dX6_passSecond_10 : decode cX6_passSecond 10 = .ok (.if_icmp .ge 92, 3) := by decide +kernel
theorem dX6_passSecond_13 : decode cX6_passSecond 13 = .ok (.aload_n 0, 1) := by decide +kernel
theorem dX6_passSecond_14 : decode cX6_passSecond 14 = .ok (.getfield 9, 3) := by decide +kernel
theorem dX6_passSecond_17 : decode cX6_passSecond 17 = .ok (.iload_n 1, 1) := by decide +kernel
theorem dX6_passSecond_18 : decode cX6_passSecond 18 = .ok (.invokevirtual 40, 3) := by decide +kernel
theorem dX6_passSecond_21 : decode cX6_passSecond 21 = .ok (.astore_n 2, 1) := by decide +kernel
theorem dX6_passSecond_22 : decode cX6_passSecond 22 = .ok (.iload_n 1, 1) := by decide +kernel
theorem dX6_passSecond_23 : decode cX6_passSecond 23 = .ok (.ifCond .ne 11, 3) := by decide +kernel
theorem dX6_passSecond_26 : decode cX6_passSecond 26 = .ok (.aload_n 0, 1) := by decide +kernel
theorem dX6_passSecond_27 : decode cX6_passSecond 27 = .ok (.aload_n 2, 1) := by decide +kernel
theorem dX6_passSecond_28 : decode cX6_passSecond 28 = .ok (.invokevirtual 44, 3) := by decide +kernel
theorem dX6_passSecond_31 : decode cX6_passSecond 31 = .ok (.goto 29, 3) := by decide +kernel
theorem dX6_passSecond_34 : decode cX6_passSecond 34 = .ok (.aload_n 2, 1) := by decide +kernel
theorem dX6_passSecond_35 : decode cX6_passSecond 35 = .ok (.dup, 1) := by decide +kernel
theorem dX6_passSecond_36 : decode cX6_passSecond 36 = .ok (.getfield 48, 3) := by decide +kernel
theorem dX6_passSecond_39 : decode cX6_passSecond 39 = .ok (.aload_n 0, 1) := by decide +kernel
theorem dX6_passSecond_40 : decode cX6_passSecond 40 = .ok (.getfield 9, 3) := by decide +kernel
theorem dX6_passSecond_43 : decode cX6_passSecond 43 = .ok (.iload_n 1, 1) := by decide +kernel
theorem dX6_passSecond_44 : decode cX6_passSecond 44 = .ok (.iconst 1, 1) := by decide +kernel
theorem dX6_passSecond_45 : decode cX6_passSecond 45 = .ok (.isub, 1) := by decide +kernel
theorem dX6_passSecond_46 : decode cX6_passSecond 46 = .ok (.invokevirtual 53, 3) := by decide +kernel
theorem dX6_passSecond_49 : decode cX6_passSecond 49 = .ok (.aload_n 0, 1) := by decide +kernel
theorem dX6_passSecond_50 : decode cX6_passSecond 50 = .ok (.getfield 15, 3) := by decide +kernel
theorem dX6_passSecond_53 : decode cX6_passSecond 53 = .ok (.invokevirtual 57, 3) := by decide +kernel
theorem dX6_passSecond_56 : decode cX6_passSecond 56 = .ok (.iadd, 1) := by decide +kernel
theorem dX6_passSecond_57 : decode cX6_passSecond 57 = .ok (.putfield 48, 3) := by decide +kernel
theorem dX6_passSecond_60 : decode cX6_passSecond 60 = .ok (.aload_n 2, 1) := by decide +kernel
theorem dX6_passSecond_61 : decode cX6_passSecond 61 = .ok (.aload_n 0, 1) := by decide +kernel
theorem dX6_passSecond_62 : decode cX6_passSecond 62 = .ok (.getfield 15, 3) := by decide +kernel
theorem dX6_passSecond_65 : decode cX6_passSecond 65 = .ok (.invokevirtual 63, 3) := by decide +kernel
theorem dX6_passSecond_68 : decode cX6_passSecond 68 = .ok (.aload_n 2, 1) := by decide +kernel
theorem dX6_passSecond_69 : decode cX6_passSecond 69 = .ok (.getfield 67, 3) := by decide +kernel
theorem dX6_passSecond_72 : decode cX6_passSecond 72 = .ok (.iconst 2, 1) := by decide +kernel
theorem dX6_passSecond_73 : decode cX6_passSecond 73 = .ok (.if_icmp .ne 23, 3) := by decide +kernel
theorem dX6_passSecond_76 : decode cX6_passSecond 76 = .ok (.aload_n 2, 1) := by decide +kernel
theorem dX6_passSecond_77 : decode cX6_passSecond 77 = .ok (.getfield 48, 3) := by decide +kernel
theorem dX6_passSecond_80 : decode cX6_passSecond 80 = .ok (.ifCond .le 16, 3) := by decide +kernel
theorem dX6_passSecond_83 : decode cX6_passSecond 83 = .ok (.aload_n 0, 1) := by decide +kernel
theorem dX6_passSecond_84 : decode cX6_passSecond 84 = .ok (.iload_n 1, 1) := by decide +kernel
theorem dX6_passSecond_85 : decode cX6_passSecond 85 = .ok (.invokevirtual 70, 3) := by decide +kernel
theorem dX6_passSecond_88 : decode cX6_passSecond 88 = .ok (.ifCond .eq 8, 3) := by decide +kernel
theorem dX6_passSecond_91 : decode cX6_passSecond 91 = .ok (.aload_n 0, 1) := by decide +kernel
theorem dX6_passSecond_92 : decode cX6_passSecond 92 = .ok (.iload_n 1, 1) := by decide +kernel
theorem dX6_passSecond_93 : decode cX6_passSecond 93 = .ok (.invokevirtual 74, 3) := by decide +kernel
theorem dX6_passSecond_96 : decode cX6_passSecond 96 = .ok (.iinc 1 1, 3) := by decide +kernel
theorem dX6_passSecond_99 : decode cX6_passSecond 99 = .ok (.goto (-97), 3) := by decide +kernel
theorem dX6_passSecond_102 : decode cX6_passSecond 102 = .ok (.aload_n 0, 1) := by decide +kernel
theorem dX6_passSecond_103 : decode cX6_passSecond 103 = .ok (.dup, 1) := by decide +kernel
theorem dX6_passSecond_104 : decode cX6_passSecond 104 = .ok (.getfield 15, 3) := by decide +kernel
theorem dX6_passSecond_107 : decode cX6_passSecond 107 = .ok (.iconst 1, 1) := by decide +kernel
theorem dX6_passSecond_108 : decode cX6_passSecond 108 = .ok (.iadd, 1) := by decide +kernel
theorem dX6_passSecond_109 : decode cX6_passSecond 109 = .ok (.putfield 15, 3) := by decide +kernel
theorem dX6_passSecond_112 : decode cX6_passSecond 112 = .ok (.return_, 1) := by decide +kernel
theorem dX6_letCome_0 : decode cX6_letCome 0 = .ok (.aload_n 0, 1) := by decide +kernel
theorem dX6_letCome_1 : decode cX6_letCome 1 = .ok (.dup, 1) := by decide +kernel
theorem dX6_letCome_2 : decode cX6_letCome 2 = .ok (.getfield 19, 3) := by decide +kernel
theorem dX6_letCome_5 : decode cX6_letCome 5 = .ok (.aload_n 1, 1) := by decide +kernel
theorem dX6_letCome_6 : decode cX6_letCome 6 = .ok (.iconst 0, 1) := by decide +kernel
theorem dX6_letCome_7 : decode cX6_letCome 7 = .ok (.invokevirtual 77, 3) := by decide +kernel
theorem dX6_letCome_10 : decode cX6_letCome 10 = .ok (.iadd, 1) := by decide +kernel
theorem dX6_letCome_11 : decode cX6_letCome 11 = .ok (.putfield 19, 3) := by decide +kernel
theorem dX6_letCome_14 : decode cX6_letCome 14 = .ok (.aload_n 0, 1) := by decide +kernel
theorem dX6_letCome_15 : decode cX6_letCome 15 = .ok (.getfield 19, 3) := by decide +kernel
theorem dX6_letCome_18 : decode cX6_letCome 18 = .ok (.sipush 3600, 3) := by decide +kernel
theorem dX6_letCome_21 : decode cX6_letCome 21 = .ok (.if_icmp .lt 35, 3) := by decide +kernel
theorem dX6_letCome_24 : decode cX6_letCome 24 = .ok (.aload_n 0, 1) := by decide +kernel
theorem dX6_letCome_25 : decode cX6_letCome 25 = .ok (.dup, 1) := by decide +kernel
theorem dX6_letCome_26 : decode cX6_letCome 26 = .ok (.getfield 19, 3) := by decide +kernel
theorem dX6_letCome_29 : decode cX6_letCome 29 = .ok (.sipush 3600, 3) := by decide +kernel
theorem dX6_letCome_32 : decode cX6_letCome 32 = .ok (.isub, 1) := by decide +kernel
theorem dX6_letCome_33 : decode cX6_letCome 33 = .ok (.putfield 19, 3) := by decide +kernel
theorem dX6_letCome_36 : decode cX6_letCome 36 = .ok (.aload_n 1, 1) := by decide +kernel
theorem dX6_letCome_37 : decode cX6_letCome 37 = .ok (.dup, 1) := by decide +kernel
theorem dX6_letCome_38 : decode cX6_letCome 38 = .ok (.getfield 48, 3) := by decide +kernel
theorem dX6_letCome_41 : decode cX6_letCome 41 = .ok (.iconst 1, 1) := by decide +kernel
theorem dX6_letCome_42 : decode cX6_letCome 42 = .ok (.iadd, 1) := by decide +kernel
theorem dX6_letCome_43 : decode cX6_letCome 43 = .ok (.putfield 48, 3) := by decide +kernel
theorem dX6_letCome_46 : decode cX6_letCome 46 = .ok (.aload_n 0, 1) := by decide +kernel
theorem dX6_letCome_47 : decode cX6_letCome 47 = .ok (.dup, 1) := by decide +kernel
theorem dX6_letCome_48 : decode cX6_letCome 48 = .ok (.getfield 22, 3) := by decide +kernel
theorem dX6_letCome_51 : decode cX6_letCome 51 = .ok (.iconst 1, 1) := by decide +kernel
theorem dX6_letCome_52 : decode cX6_letCome 52 = .ok (.iadd, 1) := by decide +kernel
theorem dX6_letCome_53 : decode cX6_letCome 53 = .ok (.putfield 22, 3) := by decide +kernel
theorem dX6_letCome_56 : decode cX6_letCome 56 = .ok (.return_, 1) := by decide +kernel
theorem dX6_hasRoomBehind_0 : decode cX6_hasRoomBehind 0 = .ok (.aload_n 0, 1) := by decide +kernel
theorem dX6_hasRoomBehind_1 : decode cX6_hasRoomBehind 1 = .ok (.getfield 9, 3) := by decide +kernel
theorem dX6_hasRoomBehind_4 : decode cX6_hasRoomBehind 4 = .ok (.iload_n 1, 1) := by decide +kernel
theorem dX6_hasRoomBehind_5 : decode cX6_hasRoomBehind 5 = .ok (.invokevirtual 80, 3) := by decide +kernel
theorem dX6_hasRoomBehind_8 : decode cX6_hasRoomBehind 8 = .ok (.ifCond .ne 25, 3) := by decide +kernel
theorem dX6_hasRoomBehind_11 : decode cX6_hasRoomBehind 11 = .ok (.aload_n 0, 1) := by decide +kernel
theorem dX6_hasRoomBehind_12 : decode cX6_hasRoomBehind 12 = .ok (.getfield 9, 3) := by decide +kernel
theorem dX6_hasRoomBehind_15 : decode cX6_hasRoomBehind 15 = .ok (.iload_n 1, 1) := by decide +kernel
theorem dX6_hasRoomBehind_16 : decode cX6_hasRoomBehind 16 = .ok (.invokevirtual 83, 3) := by decide +kernel
theorem dX6_hasRoomBehind_19 : decode cX6_hasRoomBehind 19 = .ok (.aload_n 0, 1) := by decide +kernel
theorem dX6_hasRoomBehind_20 : decode cX6_hasRoomBehind 20 = .ok (.getfield 9, 3) := by decide +kernel
theorem dX6_hasRoomBehind_23 : decode cX6_hasRoomBehind 23 = .ok (.iload_n 1, 1) := by decide +kernel
theorem dX6_hasRoomBehind_24 : decode cX6_hasRoomBehind 24 = .ok (.invokevirtual 53, 3) := by decide +kernel
theorem dX6_hasRoomBehind_27 : decode cX6_hasRoomBehind 27 = .ok (.getfield 86, 3) := by decide +kernel
theorem dX6_hasRoomBehind_30 : decode cX6_hasRoomBehind 30 = .ok (.if_icmp .ge 7, 3) := by decide +kernel
theorem dX6_hasRoomBehind_33 : decode cX6_hasRoomBehind 33 = .ok (.iconst 1, 1) := by decide +kernel
theorem dX6_hasRoomBehind_34 : decode cX6_hasRoomBehind 34 = .ok (.goto 4, 3) := by decide +kernel
theorem dX6_hasRoomBehind_37 : decode cX6_hasRoomBehind 37 = .ok (.iconst 0, 1) := by decide +kernel
theorem dX6_hasRoomBehind_38 : decode cX6_hasRoomBehind 38 = .ok (.ireturn, 1) := by decide +kernel
theorem dX6_letLeave_0 : decode cX6_letLeave 0 = .ok (.aload_n 0, 1) := by decide +kernel
theorem dX6_letLeave_1 : decode cX6_letLeave 1 = .ok (.getfield 9, 3) := by decide +kernel
theorem dX6_letLeave_4 : decode cX6_letLeave 4 = .ok (.iload_n 1, 1) := by decide +kernel
theorem dX6_letLeave_5 : decode cX6_letLeave 5 = .ok (.invokevirtual 40, 3) := by decide +kernel
theorem dX6_letLeave_8 : decode cX6_letLeave 8 = .ok (.astore_n 2, 1) := by decide +kernel
theorem dX6_letLeave_9 : decode cX6_letLeave 9 = .ok (.aload_n 2, 1) := by decide +kernel
theorem dX6_letLeave_10 : decode cX6_letLeave 10 = .ok (.dup, 1) := by decide +kernel
theorem dX6_letLeave_11 : decode cX6_letLeave 11 = .ok (.getfield 48, 3) := by decide +kernel
theorem dX6_letLeave_14 : decode cX6_letLeave 14 = .ok (.iconst 1, 1) := by decide +kernel
theorem dX6_letLeave_15 : decode cX6_letLeave 15 = .ok (.isub, 1) := by decide +kernel
theorem dX6_letLeave_16 : decode cX6_letLeave 16 = .ok (.putfield 48, 3) := by decide +kernel
theorem dX6_letLeave_19 : decode cX6_letLeave 19 = .ok (.aload_n 2, 1) := by decide +kernel
theorem dX6_letLeave_20 : decode cX6_letLeave 20 = .ok (.iconst 0, 1) := by decide +kernel
theorem dX6_letLeave_21 : decode cX6_letLeave 21 = .ok (.putfield 67, 3) := by decide +kernel
theorem dX6_letLeave_24 : decode cX6_letLeave 24 = .ok (.aload_n 0, 1) := by decide +kernel
theorem dX6_letLeave_25 : decode cX6_letLeave 25 = .ok (.getfield 9, 3) := by decide +kernel
theorem dX6_letLeave_28 : decode cX6_letLeave 28 = .ok (.iload_n 1, 1) := by decide +kernel
theorem dX6_letLeave_29 : decode cX6_letLeave 29 = .ok (.invokevirtual 80, 3) := by decide +kernel
theorem dX6_letLeave_32 : decode cX6_letLeave 32 = .ok (.ifCond .eq 16, 3) := by decide +kernel
theorem dX6_letLeave_35 : decode cX6_letLeave 35 = .ok (.aload_n 0, 1) := by decide +kernel
theorem dX6_letLeave_36 : decode cX6_letLeave 36 = .ok (.dup, 1) := by decide +kernel
theorem dX6_letLeave_37 : decode cX6_letLeave 37 = .ok (.getfield 25, 3) := by decide +kernel
theorem dX6_letLeave_40 : decode cX6_letLeave 40 = .ok (.iconst 1, 1) := by decide +kernel
theorem dX6_letLeave_41 : decode cX6_letLeave 41 = .ok (.iadd, 1) := by decide +kernel
theorem dX6_letLeave_42 : decode cX6_letLeave 42 = .ok (.putfield 25, 3) := by decide +kernel
theorem dX6_letLeave_45 : decode cX6_letLeave 45 = .ok (.goto 14, 3) := by decide +kernel
theorem dX6_letLeave_48 : decode cX6_letLeave 48 = .ok (.aload_n 2, 1) := by decide +kernel
theorem dX6_letLeave_49 : decode cX6_letLeave 49 = .ok (.getfield 89, 3) := by decide +kernel
theorem dX6_letLeave_52 : decode cX6_letLeave 52 = .ok (.aload_n 0, 1) := by decide +kernel
theorem dX6_letLeave_53 : decode cX6_letLeave 53 = .ok (.getfield 15, 3) := by decide +kernel
theorem dX6_letLeave_56 : decode cX6_letLeave 56 = .ok (.invokevirtual 93, 3) := by decide +kernel
theorem dX6_letLeave_59 : decode cX6_letLeave 59 = .ok (.return_, 1) := by decide +kernel
theorem dX7_init_0 : decode cX7_init 0 = .ok (.aload_n 0, 1) := by decide +kernel
theorem dX7_init_1 : decode cX7_init 1 = .ok (.invokespecial 1, 3) := by decide +kernel
theorem dX7_init_4 : decode cX7_init 4 = .ok (.aload_n 0, 1) := by decide +kernel
theorem dX7_init_5 : decode cX7_init 5 = .ok (.new 7, 3) := by decide +kernel
theorem dX7_init_8 : decode cX7_init 8 = .ok (.dup, 1) := by decide +kernel
theorem dX7_init_9 : decode cX7_init 9 = .ok (.invokespecial 9, 3) := by decide +kernel
theorem dX7_init_12 : decode cX7_init 12 = .ok (.putfield 10, 3) := by decide +kernel
theorem dX7_init_15 : decode cX7_init 15 = .ok (.aload_n 0, 1) := by decide +kernel
theorem dX7_init_16 : decode cX7_init 16 = .ok (.new 16, 3) := by decide +kernel
theorem dX7_init_19 : decode cX7_init 19 = .ok (.dup, 1) := by decide +kernel
theorem dX7_init_20 : decode cX7_init 20 = .ok (.aload_n 0, 1) := by decide +kernel
theorem dX7_init_21 : decode cX7_init 21 = .ok (.getfield 10, 3) := by decide +kernel
theorem dX7_init_24 : decode cX7_init 24 = .ok (.invokespecial 18, 3) := by decide +kernel
theorem dX7_init_27 : decode cX7_init 27 = .ok (.putfield 21, 3) := by decide +kernel
theorem dX7_init_30 : decode cX7_init 30 = .ok (.aload_n 0, 1) := by decide +kernel
theorem dX7_init_31 : decode cX7_init 31 = .ok (.new 25, 3) := by decide +kernel
theorem dX7_init_34 : decode cX7_init 34 = .ok (.dup, 1) := by decide +kernel
theorem dX7_init_35 : decode cX7_init 35 = .ok (.aload_n 0, 1) := by decide +kernel
theorem dX7_init_36 : decode cX7_init 36 = .ok (.getfield 10, 3) := by decide +kernel
theorem dX7_init_39 : decode cX7_init 39 = .ok (.invokespecial 27, 3) := by decide +kernel
theorem dX7_init_42 : decode cX7_init 42 = .ok (.putfield 28, 3) := by decide +kernel
theorem dX7_init_45 : decode cX7_init 45 = .ok (.aload_n 0, 1) := by decide +kernel
theorem dX7_init_46 : decode cX7_init 46 = .ok (.getfield 10, 3) := by decide +kernel
theorem dX7_init_49 : decode cX7_init 49 = .ok (.iconst 2, 1) := by decide +kernel
theorem dX7_init_50 : decode cX7_init 50 = .ok (.bipush 60, 2) := by decide +kernel
theorem dX7_init_52 : decode cX7_init 52 = .ok (.invokevirtual 32, 3) := by decide +kernel
theorem dX7_init_55 : decode cX7_init 55 = .ok (.return_, 1) := by decide +kernel
theorem dX7_begin_0 : decode cX7_begin 0 = .ok (.iload_n 1, 1) := by decide +kernel
theorem dX7_begin_1 : decode cX7_begin 1 = .ok (.iconst 2, 1) := by decide +kernel
theorem dX7_begin_2 : decode cX7_begin 2 = .ok (.iconst 5, 1) := by decide +kernel
theorem dX7_begin_3 : decode cX7_begin 3 = .ok (.invokestatic 36, 3) := by decide +kernel
theorem dX7_begin_6 : decode cX7_begin 6 = .ok (.ifCond .ne 14, 3) := by decide +kernel
theorem dX7_begin_9 : decode cX7_begin 9 = .ok (.iload_n 2, 1) := by decide +kernel
theorem dX7_begin_10 : decode cX7_begin 10 = .ok (.bipush 30, 2) := by decide +kernel
theorem dX7_begin_12 : decode cX7_begin 12 = .ok (.bipush 90, 2) := by decide +kernel
theorem dX7_begin_14 : decode cX7_begin 14 = .ok (.invokestatic 36, 3) := by decide +kernel
theorem dX7_begin_17 : decode cX7_begin 17 = .ok (.ifCond .eq 13, 3) := by decide +kernel
theorem dX7_begin_20 : decode cX7_begin 20 = .ok (.new 40, 3) := by decide +kernel
theorem dX7_begin_23 : decode cX7_begin 23 = .ok (.dup, 1) := by decide +kernel
theorem dX7_begin_24 : decode cX7_begin 24 = .ok (.ldc 42, 2) := by decide +kernel
theorem dX7_begin_26 : decode cX7_begin 26 = .ok (.invokespecial 44, 3) := by decide +kernel
theorem dX7_begin_29 : decode cX7_begin 29 = .ok (.athrow, 1) := by decide +kernel
theorem dX7_begin_30 : decode cX7_begin 30 = .ok (.aload_n 0, 1) := by decide +kernel
theorem dX7_begin_31 : decode cX7_begin 31 = .ok (.getfield 10, 3) := by decide +kernel
theorem dX7_begin_34 : decode cX7_begin 34 = .ok (.iload_n 1, 1) := by decide +kernel
theorem dX7_begin_35 : decode cX7_begin 35 = .ok (.iload_n 2, 1) := by decide +kernel
theorem dX7_begin_36 : decode cX7_begin 36 = .ok (.invokevirtual 32, 3) := by decide +kernel
theorem dX7_begin_39 : decode cX7_begin 39 = .ok (.aload_n 0, 1) := by decide +kernel
theorem dX7_begin_40 : decode cX7_begin 40 = .ok (.getfield 28, 3) := by decide +kernel
theorem dX7_begin_43 : decode cX7_begin 43 = .ok (.invokevirtual 47, 3) := by decide +kernel
theorem dX7_begin_46 : decode cX7_begin 46 = .ok (.return_, 1) := by decide +kernel
theorem dX7_setConflict_0 : decode cX7_setConflict 0 = .ok (.aload_n 0, 1) := by decide +kernel
theorem dX7_setConflict_1 : decode cX7_setConflict 1 = .ok (.getfield 10, 3) := by decide +kernel
theorem dX7_setConflict_4 : decode cX7_setConflict 4 = .ok (.iload_n 1, 1) := by decide +kernel
theorem dX7_setConflict_5 : decode cX7_setConflict 5 = .ok (.invokevirtual 49, 3) := by decide +kernel
theorem dX7_setConflict_8 : decode cX7_setConflict 8 = .ok (.astore 5, 2) := by decide +kernel
theorem dX7_setConflict_10 : decode cX7_setConflict 10 = .ok (.iload_n 2, 1) := by decide +kernel
theorem dX7_setConflict_11 : decode cX7_setConflict 11 = .ok (.invokestatic 53, 3) := by decide +kernel
theorem dX7_setConflict_14 : decode cX7_setConflict 14 = .ok (.iload_n 3, 1) := by decide +kernel
theorem dX7_setConflict_15 : decode cX7_setConflict 15 = .ok (.invokestatic 53, 3) := by decide +kernel
theorem dX7_setConflict_18 : decode cX7_setConflict 18 = .ok (.iload_n 2, 1) := by decide +kernel
theorem dX7_setConflict_19 : decode cX7_setConflict 19 = .ok (.iload_n 3, 1) := by decide +kernel
theorem dX7_setConflict_20 : decode cX7_setConflict 20 = .ok (.if_icmp .eq 14, 3) := by decide +kernel
theorem dX7_setConflict_23 : decode cX7_setConflict 23 = .ok (.iload 4, 2) := by decide +kernel
theorem dX7_setConflict_25 : decode cX7_setConflict 25 = .ok (.iconst (-1), 1) := by decide +kernel
theorem dX7_setConflict_26 : decode cX7_setConflict 26 = .ok (.bipush 9, 2) := by decide +kernel
theorem dX7_setConflict_28 : decode cX7_setConflict 28 = .ok (.invokestatic 36, 3) := by decide +kernel
theorem dX7_setConflict_31 : decode cX7_setConflict 31 = .ok (.ifCond .eq 13, 3) := by decide +kernel
theorem dX7_setConflict_34 : decode cX7_setConflict 34 = .ok (.new 40, 3) := by decide +kernel
theorem dX7_setConflict_37 : decode cX7_setConflict 37 = .ok (.dup, 1) := by decide +kernel
theorem dX7_setConflict_38 : decode cX7_setConflict 38 = .ok (.ldc 57, 2) := by decide +kernel
theorem dX7_setConflict_40 : decode cX7_setConflict 40 = .ok (.invokespecial 44, 3) := by decide +kernel
theorem dX7_setConflict_43 : decode cX7_setConflict 43 = .ok (.athrow, 1) := by decide +kernel
theorem dX7_setConflict_44 : decode cX7_setConflict 44 = .ok (.aload_n 0, 1) := by decide +kernel
theorem dX7_setConflict_45 : decode cX7_setConflict 45 = .ok (.invokevirtual 59, 3) := by decide +kernel
theorem dX7_setConflict_48 : decode cX7_setConflict 48 = .ok (.iload 4, 2) := by decide +kernel
theorem dX7_setConflict_50 : decode cX7_setConflict 50 = .ok (.iconst (-1), 1) := by decide +kernel
theorem dX7_setConflict_51 : decode cX7_setConflict 51 = .ok (.if_icmp .eq 23, 3) := by decide +kernel
theorem dX7_setConflict_54 : decode cX7_setConflict 54 = .ok (.aload 5, 2) := by decide +kernel
theorem dX7_setConflict_56 : decode cX7_setConflict 56 = .ok (.iload_n 2, 1) := by decide +kernel
theorem dX7_setConflict_57 : decode cX7_setConflict 57 = .ok (.iload_n 3, 1) := by decide +kernel
theorem dX7_setConflict_58 : decode cX7_setConflict 58 = .ok (.invokevirtual 62, 3) := by decide +kernel
theorem dX7_setConflict_61 : decode cX7_setConflict 61 = .ok (.ifCond .eq 13, 3) := by decide +kernel
theorem dX7_setConflict_64 : decode cX7_setConflict 64 = .ok (.new 68, 3) := by decide +kernel
theorem dX7_setConflict_67 : decode cX7_setConflict 67 = .ok (.dup, 1) := by decide +kernel
theorem dX7_setConflict_68 : decode cX7_setConflict 68 = .ok (.ldc 70, 2) := by decide +kernel
theorem dX7_setConflict_70 : decode cX7_setConflict 70 = .ok (.invokespecial 72, 3) := by decide +kernel
theorem dX7_setConflict_73 : decode cX7_setConflict 73 = .ok (.athrow, 1) := by decide +kernel
theorem dX7_setConflict_74 : decode cX7_setConflict 74 = .ok (.aload 5, 2) := by decide +kernel
theorem dX7_setConflict_76 : decode cX7_setConflict 76 = .ok (.iload_n 2, 1) := by decide +kernel
theorem dX7_setConflict_77 : decode cX7_setConflict 77 = .ok (.iload_n 3, 1) := by decide +kernel
theorem dX7_setConflict_78 : decode cX7_setConflict 78 = .ok (.invokevirtual 73, 3) := by decide +kernel
theorem dX7_setConflict_81 : decode cX7_setConflict 81 = .ok (.istore 6, 2) := by decide +kernel
theorem dX7_setConflict_83 : decode cX7_setConflict 83 = .ok (.aload 5, 2) := by decide +kernel
theorem dX7_setConflict_85 : decode cX7_setConflict 85 = .ok (.iload_n 2, 1) := by decide +kernel
theorem dX7_setConflict_86 : decode cX7_setConflict 86 = .ok (.iload_n 3, 1) := by decide +kernel
theorem dX7_setConflict_87 : decode cX7_setConflict 87 = .ok (.iload 4, 2) := by decide +kernel
theorem dX7_setConflict_89 : decode cX7_setConflict 89 = .ok (.invokevirtual 77, 3) := by decide +kernel
theorem dX7_setConflict_92 : decode cX7_setConflict 92 = .ok (.iload 6, 2) := by decide +kernel
theorem dX7_setConflict_94 : decode cX7_setConflict 94 = .ok (.ireturn, 1) := by decide +kernel
theorem dX7_setPhases_0 : decode cX7_setPhases 0 = .ok (.aload_n 0, 1) := by decide +kernel
theorem dX7_setPhases_1 : decode cX7_setPhases 1 = .ok (.getfield 10, 3) := by decide +kernel
theorem dX7_setPhases_4 : decode cX7_setPhases 4 = .ok (.iload_n 1, 1) := by decide +kernel
theorem dX7_setPhases_5 : decode cX7_setPhases 5 = .ok (.invokevirtual 49, 3) := by decide +kernel
theorem dX7_setPhases_8 : decode cX7_setPhases 8 = .ok (.astore 6, 2) := by decide +kernel
theorem dX7_setPhases_10 : decode cX7_setPhases 10 = .ok (.iload_n 2, 1) := by decide +kernel
theorem dX7_setPhases_11 : decode cX7_setPhases 11 = .ok (.iconst 1, 1) := by decide +kernel
theorem dX7_setPhases_12 : decode cX7_setPhases 12 = .ok (.bipush 15, 2) := by decide +kernel
theorem dX7_setPhases_14 : decode cX7_setPhases 14 = .ok (.invokestatic 36, 3) := by decide +kernel
theorem dX7_setPhases_17 : decode cX7_setPhases 17 = .ok (.ifCond .ne 52, 3) := by decide +kernel
theorem dX7_setPhases_20 : decode cX7_setPhases 20 = .ok (.iload_n 3, 1) := by decide +kernel
theorem dX7_setPhases_21 : decode cX7_setPhases 21 = .ok (.iconst 0, 1) := by decide +kernel
theorem dX7_setPhases_22 : decode cX7_setPhases 22 = .ok (.bipush 15, 2) := by decide +kernel
theorem dX7_setPhases_24 : decode cX7_setPhases 24 = .ok (.invokestatic 36, 3) := by decide +kernel
theorem dX7_setPhases_27 : decode cX7_setPhases 27 = .ok (.ifCond .ne 42, 3) := by decide +kernel
theorem dX7_setPhases_30 : decode cX7_setPhases 30 = .ok (.iload 4, 2) := by decide +kernel
theorem dX7_setPhases_32 : decode cX7_setPhases 32 = .ok (.iconst 0, 1) := by decide +kernel
theorem dX7_setPhases_33 : decode cX7_setPhases 33 = .ok (.iload_n 3, 1) := by decide +kernel
theorem dX7_setPhases_34 : decode cX7_setPhases 34 = .ok (.ifCond .ne 7, 3) := by decide +kernel
theorem dX7_setPhases_37 : decode cX7_setPhases 37 = .ok (.iconst 0, 1) := by decide +kernel
theorem dX7_setPhases_38 : decode cX7_setPhases 38 = .ok (.goto 5, 3) := by decide +kernel
theorem dX7_setPhases_41 : decode cX7_setPhases 41 = .ok (.bipush 15, 2) := by decide +kernel
theorem dX7_setPhases_43 : decode cX7_setPhases 43 = .ok (.invokestatic 36, 3) := by decide +kernel
theorem dX7_setPhases_46 : decode cX7_setPhases 46 = .ok (.ifCond .ne 23, 3) := by decide +kernel
theorem dX7_setPhases_49 : decode cX7_setPhases 49 = .ok (.iload 5, 2) := by decide +kernel
theorem dX7_setPhases_51 : decode cX7_setPhases 51 = .ok (.iconst 0, 1) := by decide +kernel
theorem dX7_setPhases_52 : decode cX7_setPhases 52 = .ok (.iload 4, 2) := by decide +kernel
theorem dX7_setPhases_54 : decode cX7_setPhases 54 = .ok (.ifCond .ne 7, 3) := by decide +kernel
theorem dX7_setPhases_57 : decode cX7_setPhases 57 = .ok (.iconst 0, 1) := by decide +kernel
theorem dX7_setPhases_58 : decode cX7_setPhases 58 = .ok (.goto 5, 3) := by decide +kernel
theorem dX7_setPhases_61 : decode cX7_setPhases 61 = .ok (.bipush 15, 2) := by decide +kernel
theorem dX7_setPhases_63 : decode cX7_setPhases 63 = .ok (.invokestatic 36, 3) := by decide +kernel
theorem dX7_setPhases_66 : decode cX7_setPhases 66 = .ok (.ifCond .eq 13, 3) := by decide +kernel
theorem dX7_setPhases_69 : decode cX7_setPhases 69 = .ok (.new 40, 3) := by decide +kernel
theorem dX7_setPhases_72 : decode cX7_setPhases 72 = .ok (.dup, 1) := by decide +kernel
theorem dX7_setPhases_73 : decode cX7_setPhases 73 = .ok (.ldc 81, 2) := by decide +kernel
theorem dX7_setPhases_75 : decode cX7_setPhases 75 = .ok (.invokespecial 44, 3) := by decide +kernel
theorem dX7_setPhases_78 : decode cX7_setPhases 78 = .ok (.athrow, 1) := by decide +kernel
theorem dX7_setPhases_79 : decode cX7_setPhases 79 = .ok (.aload_n 0, 1) := by decide +kernel
theorem dX7_setPhases_80 : decode cX7_setPhases 80 = .ok (.invokevirtual 59, 3) := by decide +kernel
theorem dX7_setPhases_83 : decode cX7_setPhases 83 = .ok (.aload 6, 2) := by decide +kernel
theorem dX7_setPhases_85 : decode cX7_setPhases 85 = .ok (.iload_n 2, 1) := by decide +kernel
theorem dX7_setPhases_86 : decode cX7_setPhases 86 = .ok (.invokevirtual 83, 3) := by decide +kernel
theorem dX7_setPhases_89 : decode cX7_setPhases 89 = .ok (.ifCond .ne 32, 3) := by decide +kernel
theorem dX7_setPhases_92 : decode cX7_setPhases 92 = .ok (.aload 6, 2) := by decide +kernel
theorem dX7_setPhases_94 : decode cX7_setPhases 94 = .ok (.iload_n 3, 1) := by decide +kernel
theorem dX7_setPhases_95 : decode cX7_setPhases 95 = .ok (.invokevirtual 83, 3) := by decide +kernel
theorem dX7_setPhases_98 : decode cX7_setPhases 98 = .ok (.ifCond .ne 23, 3) := by decide +kernel
theorem dX7_setPhases_101 : decode cX7_setPhases 101 = .ok (.aload 6, 2) := by decide +kernel
theorem dX7_setPhases_103 : decode cX7_setPhases 103 = .ok (.iload 4, 2) := by decide +kernel
theorem dX7_setPhases_105 : decode cX7_setPhases 105 = .ok (.invokevirtual 83, 3) := by decide +kernel
theorem dX7_setPhases_108 : decode cX7_setPhases 108 = .ok (.ifCond .ne 13, 3) := by decide +kernel
theorem dX7_setPhases_111 : decode cX7_setPhases 111 = .ok (.aload 6, 2) := by decide +kernel
theorem dX7_setPhases_113 : decode cX7_setPhases 113 = .ok (.iload 5, 2) := by decide +kernel
theorem dX7_setPhases_115 : decode cX7_setPhases 115 = .ok (.invokevirtual 83, 3) := by decide +kernel
theorem dX7_setPhases_118 : decode cX7_setPhases 118 = .ok (.ifCond .eq 13, 3) := by decide +kernel
theorem dX7_setPhases_121 : decode cX7_setPhases 121 = .ok (.new 68, 3) := by decide +kernel
theorem dX7_setPhases_124 : decode cX7_setPhases 124 = .ok (.dup, 1) := by decide +kernel
theorem dX7_setPhases_125 : decode cX7_setPhases 125 = .ok (.ldc 70, 2) := by decide +kernel
theorem dX7_setPhases_127 : decode cX7_setPhases 127 = .ok (.invokespecial 72, 3) := by decide +kernel
theorem dX7_setPhases_130 : decode cX7_setPhases 130 = .ok (.athrow, 1) := by decide +kernel
theorem dX7_setPhases_131 : decode cX7_setPhases 131 = .ok (.aload 6, 2) := by decide +kernel
theorem dX7_setPhases_133 : decode cX7_setPhases 133 = .ok (.iload_n 2, 1) := by decide +kernel
theorem dX7_setPhases_134 : decode cX7_setPhases 134 = .ok (.iload_n 3, 1) := by decide +kernel
theorem dX7_setPhases_135 : decode cX7_setPhases 135 = .ok (.iload 4, 2) := by decide +kernel
theorem dX7_setPhases_137 : decode cX7_setPhases 137 = .ok (.iload 5, 2) := by decide +kernel
theorem dX7_setPhases_139 : decode cX7_setPhases 139 = .ok (.invokevirtual 87, 3) := by decide +kernel
theorem dX7_setPhases_142 : decode cX7_setPhases 142 = .ok (.aload 6, 2) := by decide +kernel
theorem dX7_setPhases_144 : decode cX7_setPhases 144 = .ok (.getfield 91, 3) := by decide +kernel
theorem dX7_setPhases_147 : decode cX7_setPhases 147 = .ok (.ireturn, 1) := by decide +kernel
theorem dX7_setFlow_0 : decode cX7_setFlow 0 = .ok (.aload_n 0, 1) := by decide +kernel
theorem dX7_setFlow_1 : decode cX7_setFlow 1 = .ok (.getfield 10, 3) := by decide +kernel
theorem dX7_setFlow_4 : decode cX7_setFlow 4 = .ok (.iload_n 1, 1) := by decide +kernel
theorem dX7_setFlow_5 : decode cX7_setFlow 5 = .ok (.invokevirtual 49, 3) := by decide +kernel
theorem dX7_setFlow_8 : decode cX7_setFlow 8 = .ok (.astore 4, 2) := by decide +kernel
theorem dX7_setFlow_10 : decode cX7_setFlow 10 = .ok (.iload_n 2, 1) := by decide +kernel
theorem dX7_setFlow_11 : decode cX7_setFlow 11 = .ok (.invokestatic 53, 3) := by decide +kernel
theorem dX7_setFlow_14 : decode cX7_setFlow 14 = .ok (.iload_n 3, 1) := by decide +kernel
theorem dX7_setFlow_15 : decode cX7_setFlow 15 = .ok (.iconst 0, 1) := by decide +kernel
theorem dX7_setFlow_16 : decode cX7_setFlow 16 = .ok (.sipush 1800, 3) := by decide +kernel
theorem dX7_setFlow_19 : decode cX7_setFlow 19 = .ok (.invokestatic 36, 3) := by decide +kernel
theorem dX7_setFlow_22 : decode cX7_setFlow 22 = .ok (.ifCond .eq 13, 3) := by decide +kernel
theorem dX7_setFlow_25 : decode cX7_setFlow 25 = .ok (.new 40, 3) := by decide +kernel
theorem dX7_setFlow_28 : decode cX7_setFlow 28 = .ok (.dup, 1) := by decide +kernel
theorem dX7_setFlow_29 : decode cX7_setFlow 29 = .ok (.ldc 95, 2) := by decide +kernel
theorem dX7_setFlow_31 : decode cX7_setFlow 31 = .ok (.invokespecial 44, 3) := by decide +kernel
theorem dX7_setFlow_34 : decode cX7_setFlow 34 = .ok (.athrow, 1) := by decide +kernel
theorem dX7_setFlow_35 : decode cX7_setFlow 35 = .ok (.aload_n 0, 1) := by decide +kernel
theorem dX7_setFlow_36 : decode cX7_setFlow 36 = .ok (.invokevirtual 59, 3) := by decide +kernel
theorem dX7_setFlow_39 : decode cX7_setFlow 39 = .ok (.aload 4, 2) := by decide +kernel
theorem dX7_setFlow_41 : decode cX7_setFlow 41 = .ok (.iload_n 2, 1) := by decide +kernel
theorem dX7_setFlow_42 : decode cX7_setFlow 42 = .ok (.invokevirtual 97, 3) := by decide +kernel
theorem dX7_setFlow_45 : decode cX7_setFlow 45 = .ok (.istore 5, 2) := by decide +kernel
theorem dX7_setFlow_47 : decode cX7_setFlow 47 = .ok (.aload 4, 2) := by decide +kernel
theorem dX7_setFlow_49 : decode cX7_setFlow 49 = .ok (.iload_n 2, 1) := by decide +kernel
theorem dX7_setFlow_50 : decode cX7_setFlow 50 = .ok (.iload_n 3, 1) := by decide +kernel
theorem dX7_setFlow_51 : decode cX7_setFlow 51 = .ok (.invokevirtual 101, 3) := by decide +kernel
theorem dX7_setFlow_54 : decode cX7_setFlow 54 = .ok (.iload 5, 2) := by decide +kernel
theorem dX7_setFlow_56 : decode cX7_setFlow 56 = .ok (.ireturn, 1) := by decide +kernel
theorem dX7_setLink_0 : decode cX7_setLink 0 = .ok (.aload_n 0, 1) := by decide +kernel
theorem dX7_setLink_1 : decode cX7_setLink 1 = .ok (.getfield 10, 3) := by decide +kernel
theorem dX7_setLink_4 : decode cX7_setLink 4 = .ok (.iload_n 1, 1) := by decide +kernel
theorem dX7_setLink_5 : decode cX7_setLink 5 = .ok (.invokevirtual 104, 3) := by decide +kernel
theorem dX7_setLink_8 : decode cX7_setLink 8 = .ok (.astore 4, 2) := by decide +kernel
theorem dX7_setLink_10 : decode cX7_setLink 10 = .ok (.iload_n 2, 1) := by decide +kernel
theorem dX7_setLink_11 : decode cX7_setLink 11 = .ok (.iconst 1, 1) := by decide +kernel
theorem dX7_setLink_12 : decode cX7_setLink 12 = .ok (.bipush 60, 2) := by decide +kernel
theorem dX7_setLink_14 : decode cX7_setLink 14 = .ok (.invokestatic 36, 3) := by decide +kernel
theorem dX7_setLink_17 : decode cX7_setLink 17 = .ok (.ifCond .ne 13, 3) := by decide +kernel
theorem dX7_setLink_20 : decode cX7_setLink 20 = .ok (.iload_n 3, 1) := by decide +kernel
theorem dX7_setLink_21 : decode cX7_setLink 21 = .ok (.iconst 1, 1) := by decide +kernel
theorem dX7_setLink_22 : decode cX7_setLink 22 = .ok (.bipush 40, 2) := by decide +kernel
theorem dX7_setLink_24 : decode cX7_setLink 24 = .ok (.invokestatic 36, 3) := by decide +kernel
theorem dX7_setLink_27 : decode cX7_setLink 27 = .ok (.ifCond .eq 13, 3) := by decide +kernel
theorem dX7_setLink_30 : decode cX7_setLink 30 = .ok (.new 40, 3) := by decide +kernel
theorem dX7_setLink_33 : decode cX7_setLink 33 = .ok (.dup, 1) := by decide +kernel
theorem dX7_setLink_34 : decode cX7_setLink 34 = .ok (.ldc 108, 2) := by decide +kernel
theorem dX7_setLink_36 : decode cX7_setLink 36 = .ok (.invokespecial 44, 3) := by decide +kernel
theorem dX7_setLink_39 : decode cX7_setLink 39 = .ok (.athrow, 1) := by decide +kernel
theorem dX7_setLink_40 : decode cX7_setLink 40 = .ok (.aload_n 0, 1) := by decide +kernel
theorem dX7_setLink_41 : decode cX7_setLink 41 = .ok (.invokevirtual 59, 3) := by decide +kernel
theorem dX7_setLink_44 : decode cX7_setLink 44 = .ok (.aload 4, 2) := by decide +kernel
theorem dX7_setLink_46 : decode cX7_setLink 46 = .ok (.iload_n 2, 1) := by decide +kernel
theorem dX7_setLink_47 : decode cX7_setLink 47 = .ok (.putfield 110, 3) := by decide +kernel
theorem dX7_setLink_50 : decode cX7_setLink 50 = .ok (.aload 4, 2) := by decide +kernel
theorem dX7_setLink_52 : decode cX7_setLink 52 = .ok (.iload_n 3, 1) := by decide +kernel
theorem dX7_setLink_53 : decode cX7_setLink 53 = .ok (.putfield 115, 3) := by decide +kernel
theorem dX7_setLink_56 : decode cX7_setLink 56 = .ok (.return_, 1) := by decide +kernel
theorem dX7_setOffset_0 : decode cX7_setOffset 0 = .ok (.aload_n 0, 1) := by decide +kernel
theorem dX7_setOffset_1 : decode cX7_setOffset 1 = .ok (.getfield 10, 3) := by decide +kernel
theorem dX7_setOffset_4 : decode cX7_setOffset 4 = .ok (.iload_n 1, 1) := by decide +kernel
theorem dX7_setOffset_5 : decode cX7_setOffset 5 = .ok (.invokevirtual 49, 3) := by decide +kernel
theorem dX7_setOffset_8 : decode cX7_setOffset 8 = .ok (.astore_n 3, 1) := by decide +kernel
theorem dX7_setOffset_9 : decode cX7_setOffset 9 = .ok (.iload_n 2, 1) := by decide +kernel
theorem dX7_setOffset_10 : decode cX7_setOffset 10 = .ok (.iconst 0, 1) := by decide +kernel
theorem dX7_setOffset_11 : decode cX7_setOffset 11 = .ok (.aload_n 0, 1) := by decide +kernel
theorem dX7_setOffset_12 : decode cX7_setOffset 12 = .ok (.getfield 10, 3) := by decide +kernel
theorem dX7_setOffset_15 : decode cX7_setOffset 15 = .ok (.getfield 118, 3) := by decide +kernel
theorem dX7_setOffset_18 : decode cX7_setOffset 18 = .ok (.iconst 1, 1) := by decide +kernel
theorem dX7_setOffset_19 : decode cX7_setOffset 19 = .ok (.isub, 1) := by decide +kernel
theorem dX7_setOffset_20 : decode cX7_setOffset 20 = .ok (.invokestatic 36, 3) := by decide +kernel
theorem dX7_setOffset_23 : decode cX7_setOffset 23 = .ok (.ifCond .eq 13, 3) := by decide +kernel
theorem dX7_setOffset_26 : decode cX7_setOffset 26 = .ok (.new 40, 3) := by decide +kernel
theorem dX7_setOffset_29 : decode cX7_setOffset 29 = .ok (.dup, 1) := by decide +kernel
theorem dX7_setOffset_30 : decode cX7_setOffset 30 = .ok (.ldc 121, 2) := by decide +kernel
theorem dX7_setOffset_32 : decode cX7_setOffset 32 = .ok (.invokespecial 44, 3) := by decide +kernel
theorem dX7_setOffset_35 : decode cX7_setOffset 35 = .ok (.athrow, 1) := by decide +kernel
theorem dX7_setOffset_36 : decode cX7_setOffset 36 = .ok (.aload_n 0, 1) := by decide +kernel
theorem dX7_setOffset_37 : decode cX7_setOffset 37 = .ok (.invokevirtual 59, 3) := by decide +kernel
theorem dX7_setOffset_40 : decode cX7_setOffset 40 = .ok (.aload_n 3, 1) := by decide +kernel
theorem dX7_setOffset_41 : decode cX7_setOffset 41 = .ok (.getfield 123, 3) := by decide +kernel
theorem dX7_setOffset_44 : decode cX7_setOffset 44 = .ok (.istore 4, 2) := by decide +kernel
theorem dX7_setOffset_46 : decode cX7_setOffset 46 = .ok (.aload_n 3, 1) := by decide +kernel
theorem dX7_setOffset_47 : decode cX7_setOffset 47 = .ok (.iload_n 2, 1) := by decide +kernel
theorem dX7_setOffset_48 : decode cX7_setOffset 48 = .ok (.putfield 123, 3) := by decide +kernel
theorem dX7_setOffset_51 : decode cX7_setOffset 51 = .ok (.iload 4, 2) := by decide +kernel
theorem dX7_setOffset_53 : decode cX7_setOffset 53 = .ok (.ireturn, 1) := by decide +kernel
theorem dX7_improve_0 : decode cX7_improve 0 = .ok (.aload_n 0, 1) := by decide +kernel
theorem dX7_improve_1 : decode cX7_improve 1 = .ok (.invokevirtual 126, 3) := by decide +kernel
theorem dX7_improve_4 : decode cX7_improve 4 = .ok (.aload_n 0, 1) := by decide +kernel
theorem dX7_improve_5 : decode cX7_improve 5 = .ok (.invokevirtual 59, 3) := by decide +kernel
theorem dX7_improve_8 : decode cX7_improve 8 = .ok (.aload_n 0, 1) := by decide +kernel
theorem dX7_improve_9 : decode cX7_improve 9 = .ok (.getfield 21, 3) := by decide +kernel
theorem dX7_improve_12 : decode cX7_improve 12 = .ok (.invokevirtual 129, 3) := by decide +kernel
theorem dX7_improve_15 : decode cX7_improve 15 = .ok (.ireturn, 1) := by decide +kernel
theorem dX7_junctions_0 : decode cX7_junctions 0 = .ok (.aload_n 0, 1) := by decide +kernel
theorem dX7_junctions_1 : decode cX7_junctions 1 = .ok (.getfield 10, 3) := by decide +kernel
theorem dX7_junctions_4 : decode cX7_junctions 4 = .ok (.getfield 133, 3) := by decide +kernel
theorem dX7_junctions_7 : decode cX7_junctions 7 = .ok (.ireturn, 1) := by decide +kernel
theorem dX7_hasPlan_0 : decode cX7_hasPlan 0 = .ok (.aload_n 0, 1) := by decide +kernel
theorem dX7_hasPlan_1 : decode cX7_hasPlan 1 = .ok (.getfield 10, 3) := by decide +kernel
theorem dX7_hasPlan_4 : decode cX7_hasPlan 4 = .ok (.iload_n 1, 1) := by decide +kernel
theorem dX7_hasPlan_5 : decode cX7_hasPlan 5 = .ok (.invokevirtual 49, 3) := by decide +kernel
theorem dX7_hasPlan_8 : decode cX7_hasPlan 8 = .ok (.getfield 136, 3) := by decide +kernel
theorem dX7_hasPlan_11 : decode cX7_hasPlan 11 = .ok (.ireturn, 1) := by decide +kernel
theorem dX7_green_0 : decode cX7_green 0 = .ok (.aload_n 0, 1) := by decide +kernel
theorem dX7_green_1 : decode cX7_green 1 = .ok (.getfield 10, 3) := by decide +kernel
theorem dX7_green_4 : decode cX7_green 4 = .ok (.iload_n 1, 1) := by decide +kernel
theorem dX7_green_5 : decode cX7_green 5 = .ok (.invokevirtual 49, 3) := by decide +kernel
theorem dX7_green_8 : decode cX7_green 8 = .ok (.astore_n 3, 1) := by decide +kernel
theorem dX7_green_9 : decode cX7_green 9 = .ok (.aload_n 3, 1) := by decide +kernel
theorem dX7_green_10 : decode cX7_green 10 = .ok (.iload_n 2, 1) := by decide +kernel
theorem dX7_green_11 : decode cX7_green 11 = .ok (.invokestatic 140, 3) := by decide +kernel
theorem dX7_green_14 : decode cX7_green 14 = .ok (.aload_n 3, 1) := by decide +kernel
theorem dX7_green_15 : decode cX7_green 15 = .ok (.invokestatic 144, 3) := by decide +kernel
theorem dX7_green_18 : decode cX7_green 18 = .ok (.aload_n 3, 1) := by decide +kernel
theorem dX7_green_19 : decode cX7_green 19 = .ok (.getfield 148, 3) := by decide +kernel
theorem dX7_green_22 : decode cX7_green 22 = .ok (.iload_n 2, 1) := by decide +kernel
theorem dX7_green_23 : decode cX7_green 23 = .ok (.invokestatic 152, 3) := by decide +kernel
theorem dX7_green_26 : decode cX7_green 26 = .ok (.ireturn, 1) := by decide +kernel
theorem dX7_clearing_0 : decode cX7_clearing 0 = .ok (.aload_n 0, 1) := by decide +kernel
theorem dX7_clearing_1 : decode cX7_clearing 1 = .ok (.getfield 10, 3) := by decide +kernel
theorem dX7_clearing_4 : decode cX7_clearing 4 = .ok (.iload_n 1, 1) := by decide +kernel
theorem dX7_clearing_5 : decode cX7_clearing 5 = .ok (.invokevirtual 49, 3) := by decide +kernel
theorem dX7_clearing_8 : decode cX7_clearing 8 = .ok (.astore_n 3, 1) := by decide +kernel
theorem dX7_clearing_9 : decode cX7_clearing 9 = .ok (.aload_n 3, 1) := by decide +kernel
theorem dX7_clearing_10 : decode cX7_clearing 10 = .ok (.iload_n 2, 1) := by decide +kernel
theorem dX7_clearing_11 : decode cX7_clearing 11 = .ok (.invokestatic 140, 3) := by decide +kernel
theorem dX7_clearing_14 : decode cX7_clearing 14 = .ok (.aload_n 3, 1) := by decide +kernel
theorem dX7_clearing_15 : decode cX7_clearing 15 = .ok (.getfield 156, 3) := by decide +kernel
theorem dX7_clearing_18 : decode cX7_clearing 18 = .ok (.iload_n 2, 1) := by decide +kernel
theorem dX7_clearing_19 : decode cX7_clearing 19 = .ok (.invokestatic 152, 3) := by decide +kernel
theorem dX7_clearing_22 : decode cX7_clearing 22 = .ok (.ireturn, 1) := by decide +kernel
theorem dX7_offset_0 : decode cX7_offset 0 = .ok (.aload_n 0, 1) := by decide +kernel
theorem dX7_offset_1 : decode cX7_offset 1 = .ok (.getfield 10, 3) := by decide +kernel
theorem dX7_offset_4 : decode cX7_offset 4 = .ok (.iload_n 1, 1) := by decide +kernel
theorem dX7_offset_5 : decode cX7_offset 5 = .ok (.invokevirtual 49, 3) := by decide +kernel
theorem dX7_offset_8 : decode cX7_offset 8 = .ok (.getfield 123, 3) := by decide +kernel
theorem dX7_offset_11 : decode cX7_offset 11 = .ok (.ireturn, 1) := by decide +kernel
theorem dX7_isGreen_0 : decode cX7_isGreen 0 = .ok (.aload_n 0, 1) := by decide +kernel
theorem dX7_isGreen_1 : decode cX7_isGreen 1 = .ok (.getfield 10, 3) := by decide +kernel
theorem dX7_isGreen_4 : decode cX7_isGreen 4 = .ok (.iload_n 1, 1) := by decide +kernel
theorem dX7_isGreen_5 : decode cX7_isGreen 5 = .ok (.invokevirtual 49, 3) := by decide +kernel
theorem dX7_isGreen_8 : decode cX7_isGreen 8 = .ok (.astore 4, 2) := by decide +kernel
theorem dX7_isGreen_10 : decode cX7_isGreen 10 = .ok (.iload_n 2, 1) := by decide +kernel
theorem dX7_isGreen_11 : decode cX7_isGreen 11 = .ok (.invokestatic 53, 3) := by decide +kernel
theorem dX7_isGreen_14 : decode cX7_isGreen 14 = .ok (.iload_n 3, 1) := by decide +kernel
theorem dX7_isGreen_15 : decode cX7_isGreen 15 = .ok (.iconst 0, 1) := by decide +kernel
theorem dX7_isGreen_16 : decode cX7_isGreen 16 = .ok (.ldc 159, 2) := by decide +kernel
theorem dX7_isGreen_18 : decode cX7_isGreen 18 = .ok (.invokestatic 36, 3) := by decide +kernel
theorem dX7_isGreen_21 : decode cX7_isGreen 21 = .ok (.ifCond .eq 13, 3) := by decide +kernel
theorem dX7_isGreen_24 : decode cX7_isGreen 24 = .ok (.new 40, 3) := by decide +kernel
theorem dX7_isGreen_27 : decode cX7_isGreen 27 = .ok (.dup, 1) := by decide +kernel
theorem dX7_isGreen_28 : decode cX7_isGreen 28 = .ok (.ldc 160, 2) := by decide +kernel
theorem dX7_isGreen_30 : decode cX7_isGreen 30 = .ok (.invokespecial 44, 3) := by decide +kernel
theorem dX7_isGreen_33 : decode cX7_isGreen 33 = .ok (.athrow, 1) := by decide +kernel
theorem dX7_isGreen_34 : decode cX7_isGreen 34 = .ok (.aload 4, 2) := by decide +kernel
theorem dX7_isGreen_36 : decode cX7_isGreen 36 = .ok (.invokestatic 144, 3) := by decide +kernel
theorem dX7_isGreen_39 : decode cX7_isGreen 39 = .ok (.aload 4, 2) := by decide +kernel
theorem dX7_isGreen_41 : decode cX7_isGreen 41 = .ok (.iload_n 2, 1) := by decide +kernel
theorem dX7_isGreen_42 : decode cX7_isGreen 42 = .ok (.iload_n 3, 1) := by decide +kernel
theorem dX7_isGreen_43 : decode cX7_isGreen 43 = .ok (.invokevirtual 162, 3) := by decide +kernel
theorem dX7_isGreen_46 : decode cX7_isGreen 46 = .ok (.ireturn, 1) := by decide +kernel
theorem dX7_breaches_0 : decode cX7_breaches 0 = .ok (.aload_n 0, 1) := by decide +kernel
theorem dX7_breaches_1 : decode cX7_breaches 1 = .ok (.getfield 10, 3) := by decide +kernel
theorem dX7_breaches_4 : decode cX7_breaches 4 = .ok (.iload_n 1, 1) := by decide +kernel
theorem dX7_breaches_5 : decode cX7_breaches 5 = .ok (.invokevirtual 49, 3) := by decide +kernel
theorem dX7_breaches_8 : decode cX7_breaches 8 = .ok (.astore_n 2, 1) := by decide +kernel
theorem dX7_breaches_9 : decode cX7_breaches 9 = .ok (.aload_n 2, 1) := by decide +kernel
theorem dX7_breaches_10 : decode cX7_breaches 10 = .ok (.invokestatic 144, 3) := by decide +kernel
theorem dX7_breaches_13 : decode cX7_breaches 13 = .ok (.aload_n 2, 1) := by decide +kernel
theorem dX7_breaches_14 : decode cX7_breaches 14 = .ok (.invokevirtual 165, 3) := by decide +kernel
theorem dX7_breaches_17 : decode cX7_breaches 17 = .ok (.ireturn, 1) := by decide +kernel
theorem dX7_band_0 : decode cX7_band 0 = .ok (.aload_n 0, 1) := by decide +kernel
theorem dX7_band_1 : decode cX7_band 1 = .ok (.invokevirtual 126, 3) := by decide +kernel
theorem dX7_band_4 : decode cX7_band 4 = .ok (.aload_n 0, 1) := by decide +kernel
theorem dX7_band_5 : decode cX7_band 5 = .ok (.getfield 21, 3) := by decide +kernel
theorem dX7_band_8 : decode cX7_band 8 = .ok (.iload_n 1, 1) := by decide +kernel
theorem dX7_band_9 : decode cX7_band 9 = .ok (.invokevirtual 168, 3) := by decide +kernel
theorem dX7_band_12 : decode cX7_band 12 = .ok (.ireturn, 1) := by decide +kernel
theorem dX7_run_0 : decode cX7_run 0 = .ok (.iload_n 1, 1) := by decide +kernel
theorem dX7_run_1 : decode cX7_run 1 = .ok (.iconst 1, 1) := by decide +kernel
theorem dX7_run_2 : decode cX7_run 2 = .ok (.sipush 600, 3) := by decide +kernel
theorem dX7_run_5 : decode cX7_run 5 = .ok (.invokestatic 36, 3) := by decide +kernel
theorem dX7_run_8 : decode cX7_run 8 = .ok (.ifCond .eq 13, 3) := by decide +kernel
theorem dX7_run_11 : decode cX7_run 11 = .ok (.new 40, 3) := by decide +kernel
theorem dX7_run_14 : decode cX7_run 14 = .ok (.dup, 1) := by decide +kernel
theorem dX7_run_15 : decode cX7_run 15 = .ok (.ldc 177, 2) := by decide +kernel
theorem dX7_run_17 : decode cX7_run 17 = .ok (.invokespecial 44, 3) := by decide +kernel
theorem dX7_run_20 : decode cX7_run 20 = .ok (.athrow, 1) := by decide +kernel
theorem dX7_run_21 : decode cX7_run 21 = .ok (.aload_n 0, 1) := by decide +kernel
theorem dX7_run_22 : decode cX7_run 22 = .ok (.invokevirtual 126, 3) := by decide +kernel
theorem dX7_run_25 : decode cX7_run 25 = .ok (.aload_n 0, 1) := by decide +kernel
theorem dX7_run_26 : decode cX7_run 26 = .ok (.getfield 28, 3) := by decide +kernel
theorem dX7_run_29 : decode cX7_run 29 = .ok (.getfield 179, 3) := by decide +kernel
theorem dX7_run_32 : decode cX7_run 32 = .ok (.iload_n 1, 1) := by decide +kernel
theorem dX7_run_33 : decode cX7_run 33 = .ok (.iadd, 1) := by decide +kernel
theorem dX7_run_34 : decode cX7_run 34 = .ok (.sipush 7200, 3) := by decide +kernel
theorem dX7_run_37 : decode cX7_run 37 = .ok (.if_icmp .le 13, 3) := by decide +kernel
theorem dX7_run_40 : decode cX7_run 40 = .ok (.new 68, 3) := by decide +kernel
theorem dX7_run_43 : decode cX7_run 43 = .ok (.dup, 1) := by decide +kernel
theorem dX7_run_44 : decode cX7_run 44 = .ok (.ldc 182, 2) := by decide +kernel
theorem dX7_run_46 : decode cX7_run 46 = .ok (.invokespecial 72, 3) := by decide +kernel
theorem dX7_run_49 : decode cX7_run 49 = .ok (.athrow, 1) := by decide +kernel
theorem dX7_run_50 : decode cX7_run 50 = .ok (.aload_n 0, 1) := by decide +kernel
theorem dX7_run_51 : decode cX7_run 51 = .ok (.getfield 28, 3) := by decide +kernel
theorem dX7_run_54 : decode cX7_run 54 = .ok (.iload_n 1, 1) := by decide +kernel
theorem dX7_run_55 : decode cX7_run 55 = .ok (.invokevirtual 184, 3) := by decide +kernel
theorem dX7_run_58 : decode cX7_run 58 = .ok (.ireturn, 1) := by decide +kernel
theorem dX7_callBus_0 : decode cX7_callBus 0 = .ok (.aload_n 0, 1) := by decide +kernel
theorem dX7_callBus_1 : decode cX7_callBus 1 = .ok (.getfield 10, 3) := by decide +kernel
theorem dX7_callBus_4 : decode cX7_callBus 4 = .ok (.iload_n 1, 1) := by decide +kernel
theorem dX7_callBus_5 : decode cX7_callBus 5 = .ok (.invokevirtual 49, 3) := by decide +kernel
theorem dX7_callBus_8 : decode cX7_callBus 8 = .ok (.astore_n 3, 1) := by decide +kernel
theorem dX7_callBus_9 : decode cX7_callBus 9 = .ok (.iload_n 2, 1) := by decide +kernel
theorem dX7_callBus_10 : decode cX7_callBus 10 = .ok (.invokestatic 53, 3) := by decide +kernel
theorem dX7_callBus_13 : decode cX7_callBus 13 = .ok (.aload_n 0, 1) := by decide +kernel
theorem dX7_callBus_14 : decode cX7_callBus 14 = .ok (.invokevirtual 126, 3) := by decide +kernel
theorem dX7_callBus_17 : decode cX7_callBus 17 = .ok (.aload_n 3, 1) := by decide +kernel
theorem dX7_callBus_18 : decode cX7_callBus 18 = .ok (.iload_n 2, 1) := by decide +kernel
theorem dX7_callBus_19 : decode cX7_callBus 19 = .ok (.invokevirtual 187, 3) := by decide +kernel
theorem dX7_callBus_22 : decode cX7_callBus 22 = .ok (.iconst (-1), 1) := by decide +kernel
theorem dX7_callBus_23 : decode cX7_callBus 23 = .ok (.if_icmp .ne 13, 3) := by decide +kernel
theorem dX7_callBus_26 : decode cX7_callBus 26 = .ok (.new 68, 3) := by decide +kernel
theorem dX7_callBus_29 : decode cX7_callBus 29 = .ok (.dup, 1) := by decide +kernel
theorem dX7_callBus_30 : decode cX7_callBus 30 = .ok (.ldc 190, 2) := by decide +kernel
theorem dX7_callBus_32 : decode cX7_callBus 32 = .ok (.invokespecial 72, 3) := by decide +kernel
theorem dX7_callBus_35 : decode cX7_callBus 35 = .ok (.athrow, 1) := by decide +kernel
theorem dX7_callBus_36 : decode cX7_callBus 36 = .ok (.aload_n 3, 1) := by decide +kernel
theorem dX7_callBus_37 : decode cX7_callBus 37 = .ok (.aload_n 0, 1) := by decide +kernel
theorem dX7_callBus_38 : decode cX7_callBus 38 = .ok (.getfield 28, 3) := by decide +kernel
theorem dX7_callBus_41 : decode cX7_callBus 41 = .ok (.getfield 179, 3) := by decide +kernel
theorem dX7_callBus_44 : decode cX7_callBus 44 = .ok (.invokevirtual 192, 3) := by decide +kernel
theorem dX7_callBus_47 : decode cX7_callBus 47 = .ok (.ifCond .eq 13, 3) := by decide +kernel
theorem dX7_callBus_50 : decode cX7_callBus 50 = .ok (.new 68, 3) := by decide +kernel
theorem dX7_callBus_53 : decode cX7_callBus 53 = .ok (.dup, 1) := by decide +kernel
theorem dX7_callBus_54 : decode cX7_callBus 54 = .ok (.ldc 195, 2) := by decide +kernel
theorem dX7_callBus_56 : decode cX7_callBus 56 = .ok (.invokespecial 72, 3) := by decide +kernel
theorem dX7_callBus_59 : decode cX7_callBus 59 = .ok (.athrow, 1) := by decide +kernel
theorem dX7_callBus_60 : decode cX7_callBus 60 = .ok (.aload_n 0, 1) := by decide +kernel
theorem dX7_callBus_61 : decode cX7_callBus 61 = .ok (.getfield 28, 3) := by decide +kernel
theorem dX7_callBus_64 : decode cX7_callBus 64 = .ok (.iconst 1, 1) := by decide +kernel
theorem dX7_callBus_65 : decode cX7_callBus 65 = .ok (.putfield 197, 3) := by decide +kernel
theorem dX7_callBus_68 : decode cX7_callBus 68 = .ok (.aload_n 3, 1) := by decide +kernel
theorem dX7_callBus_69 : decode cX7_callBus 69 = .ok (.aload_n 0, 1) := by decide +kernel
theorem dX7_callBus_70 : decode cX7_callBus 70 = .ok (.getfield 28, 3) := by decide +kernel
theorem dX7_callBus_73 : decode cX7_callBus 73 = .ok (.getfield 179, 3) := by decide +kernel
theorem dX7_callBus_76 : decode cX7_callBus 76 = .ok (.iload_n 2, 1) := by decide +kernel
theorem dX7_callBus_77 : decode cX7_callBus 77 = .ok (.invokevirtual 200, 3) := by decide +kernel
theorem dX7_callBus_80 : decode cX7_callBus 80 = .ok (.ireturn, 1) := by decide +kernel
theorem dX7_clock_0 : decode cX7_clock 0 = .ok (.aload_n 0, 1) := by decide +kernel
theorem dX7_clock_1 : decode cX7_clock 1 = .ok (.getfield 28, 3) := by decide +kernel
theorem dX7_clock_4 : decode cX7_clock 4 = .ok (.getfield 179, 3) := by decide +kernel
theorem dX7_clock_7 : decode cX7_clock 7 = .ok (.ireturn, 1) := by decide +kernel
theorem dX7_phaseNow_0 : decode cX7_phaseNow 0 = .ok (.aload_n 0, 1) := by decide +kernel
theorem dX7_phaseNow_1 : decode cX7_phaseNow 1 = .ok (.getfield 10, 3) := by decide +kernel
theorem dX7_phaseNow_4 : decode cX7_phaseNow 4 = .ok (.iload_n 1, 1) := by decide +kernel
theorem dX7_phaseNow_5 : decode cX7_phaseNow 5 = .ok (.invokevirtual 49, 3) := by decide +kernel
theorem dX7_phaseNow_8 : decode cX7_phaseNow 8 = .ok (.astore_n 2, 1) := by decide +kernel
theorem dX7_phaseNow_9 : decode cX7_phaseNow 9 = .ok (.aload_n 2, 1) := by decide +kernel
theorem dX7_phaseNow_10 : decode cX7_phaseNow 10 = .ok (.invokestatic 144, 3) := by decide +kernel
theorem dX7_phaseNow_13 : decode cX7_phaseNow 13 = .ok (.aload_n 2, 1) := by decide +kernel
theorem dX7_phaseNow_14 : decode cX7_phaseNow 14 = .ok (.aload_n 0, 1) := by decide +kernel
theorem dX7_phaseNow_15 : decode cX7_phaseNow 15 = .ok (.getfield 28, 3) := by decide +kernel
theorem dX7_phaseNow_18 : decode cX7_phaseNow 18 = .ok (.getfield 179, 3) := by decide +kernel
theorem dX7_phaseNow_21 : decode cX7_phaseNow 21 = .ok (.invokevirtual 203, 3) := by decide +kernel
theorem dX7_phaseNow_24 : decode cX7_phaseNow 24 = .ok (.ireturn, 1) := by decide +kernel
theorem dX7_queue_0 : decode cX7_queue 0 = .ok (.aload_n 0, 1) := by decide +kernel
theorem dX7_queue_1 : decode cX7_queue 1 = .ok (.getfield 10, 3) := by decide +kernel
theorem dX7_queue_4 : decode cX7_queue 4 = .ok (.iload_n 1, 1) := by decide +kernel
theorem dX7_queue_5 : decode cX7_queue 5 = .ok (.invokevirtual 49, 3) := by decide +kernel
theorem dX7_queue_8 : decode cX7_queue 8 = .ok (.getfield 206, 3) := by decide +kernel
theorem dX7_queue_11 : decode cX7_queue 11 = .ok (.ireturn, 1) := by decide +kernel
theorem dX7_held_0 : decode cX7_held 0 = .ok (.aload_n 0, 1) := by decide +kernel
theorem dX7_held_1 : decode cX7_held 1 = .ok (.getfield 10, 3) := by decide +kernel
theorem dX7_held_4 : decode cX7_held 4 = .ok (.iload_n 1, 1) := by decide +kernel
theorem dX7_held_5 : decode cX7_held 5 = .ok (.invokevirtual 209, 3) := by decide +kernel
theorem dX7_held_8 : decode cX7_held 8 = .ok (.ireturn, 1) := by decide +kernel
theorem dX7_come_0 : decode cX7_come 0 = .ok (.aload_n 0, 1) := by decide +kernel
theorem dX7_come_1 : decode cX7_come 1 = .ok (.getfield 28, 3) := by decide +kernel
theorem dX7_come_4 : decode cX7_come 4 = .ok (.getfield 212, 3) := by decide +kernel
theorem dX7_come_7 : decode cX7_come 7 = .ok (.ireturn, 1) := by decide +kernel
theorem dX7_through_0 : decode cX7_through 0 = .ok (.aload_n 0, 1) := by decide +kernel
theorem dX7_through_1 : decode cX7_through 1 = .ok (.getfield 28, 3) := by decide +kernel
theorem dX7_through_4 : decode cX7_through 4 = .ok (.getfield 215, 3) := by decide +kernel
theorem dX7_through_7 : decode cX7_through 7 = .ok (.ireturn, 1) := by decide +kernel
theorem dX7_checkSettingUp_0 : decode cX7_checkSettingUp 0 = .ok (.aload_n 0, 1) := by decide +kernel
theorem dX7_checkSettingUp_1 : decode cX7_checkSettingUp 1 = .ok (.getfield 28, 3) := by decide +kernel
theorem dX7_checkSettingUp_4 : decode cX7_checkSettingUp 4 = .ok (.getfield 197, 3) := by decide +kernel
theorem dX7_checkSettingUp_7 : decode cX7_checkSettingUp 7 = .ok (.ifCond .eq 13, 3) := by decide +kernel
theorem dX7_checkSettingUp_10 : decode cX7_checkSettingUp 10 = .ok (.new 68, 3) := by decide +kernel
theorem dX7_checkSettingUp_13 : decode cX7_checkSettingUp 13 = .ok (.dup, 1) := by decide +kernel
theorem dX7_checkSettingUp_14 : decode cX7_checkSettingUp 14 = .ok (.ldc 218, 2) := by decide +kernel
theorem dX7_checkSettingUp_16 : decode cX7_checkSettingUp 16 = .ok (.invokespecial 72, 3) := by decide +kernel
theorem dX7_checkSettingUp_19 : decode cX7_checkSettingUp 19 = .ok (.athrow, 1) := by decide +kernel
theorem dX7_checkSettingUp_20 : decode cX7_checkSettingUp 20 = .ok (.return_, 1) := by decide +kernel
theorem dX7_checkPlans_0 : decode cX7_checkPlans 0 = .ok (.aload_n 0, 1) := by decide +kernel
theorem dX7_checkPlans_1 : decode cX7_checkPlans 1 = .ok (.getfield 10, 3) := by decide +kernel
theorem dX7_checkPlans_4 : decode cX7_checkPlans 4 = .ok (.invokevirtual 220, 3) := by decide +kernel
theorem dX7_checkPlans_7 : decode cX7_checkPlans 7 = .ok (.ifCond .ne 13, 3) := by decide +kernel
theorem dX7_checkPlans_10 : decode cX7_checkPlans 10 = .ok (.new 68, 3) := by decide +kernel
theorem dX7_checkPlans_13 : decode cX7_checkPlans 13 = .ok (.dup, 1) := by decide +kernel
theorem dX7_checkPlans_14 : decode cX7_checkPlans 14 = .ok (.ldc 223, 2) := by decide +kernel
theorem dX7_checkPlans_16 : decode cX7_checkPlans 16 = .ok (.invokespecial 72, 3) := by decide +kernel
theorem dX7_checkPlans_19 : decode cX7_checkPlans 19 = .ok (.athrow, 1) := by decide +kernel
theorem dX7_checkPlans_20 : decode cX7_checkPlans 20 = .ok (.return_, 1) := by decide +kernel
theorem dX7_checkPlan_0 : decode cX7_checkPlan 0 = .ok (.aload_n 0, 1) := by decide +kernel
theorem dX7_checkPlan_1 : decode cX7_checkPlan 1 = .ok (.getfield 136, 3) := by decide +kernel
theorem dX7_checkPlan_4 : decode cX7_checkPlan 4 = .ok (.ifCond .ne 13, 3) := by decide +kernel
theorem dX7_checkPlan_7 : decode cX7_checkPlan 7 = .ok (.new 68, 3) := by decide +kernel
theorem dX7_checkPlan_10 : decode cX7_checkPlan 10 = .ok (.dup, 1) := by decide +kernel
theorem dX7_checkPlan_11 : decode cX7_checkPlan 11 = .ok (.ldc 225, 2) := by decide +kernel
theorem dX7_checkPlan_13 : decode cX7_checkPlan 13 = .ok (.invokespecial 72, 3) := by decide +kernel
theorem dX7_checkPlan_16 : decode cX7_checkPlan 16 = .ok (.athrow, 1) := by decide +kernel
theorem dX7_checkPlan_17 : decode cX7_checkPlan 17 = .ok (.return_, 1) := by decide +kernel
theorem dX7_checkPhase_0 : decode cX7_checkPhase 0 = .ok (.iload_n 1, 1) := by decide +kernel
theorem dX7_checkPhase_1 : decode cX7_checkPhase 1 = .ok (.ifCond .lt 11, 3) := by decide +kernel
theorem dX7_checkPhase_4 : decode cX7_checkPhase 4 = .ok (.iload_n 1, 1) := by decide +kernel
theorem dX7_checkPhase_5 : decode cX7_checkPhase 5 = .ok (.aload_n 0, 1) := by decide +kernel
theorem dX7_checkPhase_6 : decode cX7_checkPhase 6 = .ok (.getfield 91, 3) := by decide +kernel
theorem dX7_checkPhase_9 : decode cX7_checkPhase 9 = .ok (.if_icmp .lt 13, 3) := by decide +kernel
theorem dX7_checkPhase_12 : decode cX7_checkPhase 12 = .ok (.new 227, 3) := by decide +kernel
theorem dX7_checkPhase_15 : decode cX7_checkPhase 15 = .ok (.dup, 1) := by decide +kernel
theorem dX7_checkPhase_16 : decode cX7_checkPhase 16 = .ok (.ldc 229, 2) := by decide +kernel
theorem dX7_checkPhase_18 : decode cX7_checkPhase 18 = .ok (.invokespecial 231, 3) := by decide +kernel
theorem dX7_checkPhase_21 : decode cX7_checkPhase 21 = .ok (.athrow, 1) := by decide +kernel
theorem dX7_checkPhase_22 : decode cX7_checkPhase 22 = .ok (.return_, 1) := by decide +kernel
theorem dX7_checkMovement_0 : decode cX7_checkMovement 0 = .ok (.iload_n 0, 1) := by decide +kernel
theorem dX7_checkMovement_1 : decode cX7_checkMovement 1 = .ok (.ifCond .lt 8, 3) := by decide +kernel
theorem dX7_checkMovement_4 : decode cX7_checkMovement 4 = .ok (.iload_n 0, 1) := by decide +kernel
theorem dX7_checkMovement_5 : decode cX7_checkMovement 5 = .ok (.iconst 4, 1) := by decide +kernel
theorem dX7_checkMovement_6 : decode cX7_checkMovement 6 = .ok (.if_icmp .lt 13, 3) := by decide +kernel
theorem dX7_checkMovement_9 : decode cX7_checkMovement 9 = .ok (.new 227, 3) := by decide +kernel
theorem dX7_checkMovement_12 : decode cX7_checkMovement 12 = .ok (.dup, 1) := by decide +kernel
theorem dX7_checkMovement_13 : decode cX7_checkMovement 13 = .ok (.ldc 232, 2) := by decide +kernel
theorem dX7_checkMovement_15 : decode cX7_checkMovement 15 = .ok (.invokespecial 231, 3) := by decide +kernel
theorem dX7_checkMovement_18 : decode cX7_checkMovement 18 = .ok (.athrow, 1) := by decide +kernel
theorem dX7_checkMovement_19 : decode cX7_checkMovement 19 = .ok (.return_, 1) := by decide +kernel
theorem dX7_isOutside_0 : decode cX7_isOutside 0 = .ok (.iload_n 0, 1) := by decide +kernel
theorem dX7_isOutside_1 : decode cX7_isOutside 1 = .ok (.iload_n 1, 1) := by decide +kernel
theorem dX7_isOutside_2 : decode cX7_isOutside 2 = .ok (.if_icmp .lt 8, 3) := by decide +kernel
theorem dX7_isOutside_5 : decode cX7_isOutside 5 = .ok (.iload_n 0, 1) := by decide +kernel
theorem dX7_isOutside_6 : decode cX7_isOutside 6 = .ok (.iload_n 2, 1) := by decide +kernel
theorem dX7_isOutside_7 : decode cX7_isOutside 7 = .ok (.if_icmp .le 7, 3) := by decide +kernel
theorem dX7_isOutside_10 : decode cX7_isOutside 10 = .ok (.iconst 1, 1) := by decide +kernel
theorem dX7_isOutside_11 : decode cX7_isOutside 11 = .ok (.goto 4, 3) := by decide +kernel
theorem dX7_isOutside_14 : decode cX7_isOutside 14 = .ok (.iconst 0, 1) := by decide +kernel
theorem dX7_isOutside_15 : decode cX7_isOutside 15 = .ok (.ireturn, 1) := by decide +kernel
theorem dX7_read_0 : decode cX7_read 0 = .ok (.iload_n 1, 1) := by decide +kernel
theorem dX7_read_1 : decode cX7_read 1 = .ok (.ifCond .lt 15, 3) := by decide +kernel
theorem dX7_read_4 : decode cX7_read 4 = .ok (.iload_n 1, 1) := by decide +kernel
theorem dX7_read_5 : decode cX7_read 5 = .ok (.aload_n 0, 1) := by decide +kernel
theorem dX7_read_6 : decode cX7_read 6 = .ok (.arraylength, 1) := by decide +kernel
theorem dX7_read_7 : decode cX7_read 7 = .ok (.if_icmp .ge 9, 3) := by decide +kernel
theorem dX7_read_10 : decode cX7_read 10 = .ok (.aload_n 0, 1) := by decide +kernel
theorem dX7_read_11 : decode cX7_read 11 = .ok (.iload_n 1, 1) := by decide +kernel
theorem dX7_read_12 : decode cX7_read 12 = .ok (.iaload, 1) := by decide +kernel
theorem dX7_read_13 : decode cX7_read 13 = .ok (.goto 4, 3) := by decide +kernel
theorem dX7_read_16 : decode cX7_read 16 = .ok (.iconst 0, 1) := by decide +kernel
theorem dX7_read_17 : decode cX7_read 17 = .ok (.ireturn, 1) := by decide +kernel
theorem dX7_write_0 : decode cX7_write 0 = .ok (.iload_n 1, 1) := by decide +kernel
theorem dX7_write_1 : decode cX7_write 1 = .ok (.ifCond .lt 13, 3) := by decide +kernel
theorem dX7_write_4 : decode cX7_write 4 = .ok (.iload_n 1, 1) := by decide +kernel
theorem dX7_write_5 : decode cX7_write 5 = .ok (.aload_n 0, 1) := by decide +kernel
theorem dX7_write_6 : decode cX7_write 6 = .ok (.arraylength, 1) := by decide +kernel
theorem dX7_write_7 : decode cX7_write 7 = .ok (.if_icmp .ge 7, 3) := by decide +kernel
theorem dX7_write_10 : decode cX7_write 10 = .ok (.aload_n 0, 1) := by decide +kernel
theorem dX7_write_11 : decode cX7_write 11 = .ok (.iload_n 1, 1) := by decide +kernel
theorem dX7_write_12 : decode cX7_write 12 = .ok (.iload_n 2, 1) := by decide +kernel
theorem dX7_write_13 : decode cX7_write 13 = .ok (.iastore, 1) := by decide +kernel
theorem dX7_write_14 : decode cX7_write 14 = .ok (.return_, 1) := by decide +kernel
theorem dX7_modulo_0 : decode cX7_modulo 0 = .ok (.iload_n 1, 1) := by decide +kernel
theorem dX7_modulo_1 : decode cX7_modulo 1 = .ok (.ifCond .gt 5, 3) := by decide +kernel
theorem dX7_modulo_4 : decode cX7_modulo 4 = .ok (.iconst 0, 1) := by decide +kernel
theorem dX7_modulo_5 : decode cX7_modulo 5 = .ok (.ireturn, 1) := by decide +kernel
theorem dX7_modulo_6 : decode cX7_modulo 6 = .ok (.iload_n 0, 1) := by decide +kernel
theorem dX7_modulo_7 : decode cX7_modulo 7 = .ok (.iload_n 1, 1) := by decide +kernel
theorem dX7_modulo_8 : decode cX7_modulo 8 = .ok (.irem, 1) := by decide +kernel
theorem dX7_modulo_9 : decode cX7_modulo 9 = .ok (.istore_n 2, 1) := by decide +kernel
theorem dX7_modulo_10 : decode cX7_modulo 10 = .ok (.iload_n 2, 1) := by decide +kernel
theorem dX7_modulo_11 : decode cX7_modulo 11 = .ok (.ifCond .ge 9, 3) := by decide +kernel
theorem dX7_modulo_14 : decode cX7_modulo 14 = .ok (.iload_n 2, 1) := by decide +kernel
theorem dX7_modulo_15 : decode cX7_modulo 15 = .ok (.iload_n 1, 1) := by decide +kernel
theorem dX7_modulo_16 : decode cX7_modulo 16 = .ok (.iadd, 1) := by decide +kernel
theorem dX7_modulo_17 : decode cX7_modulo 17 = .ok (.goto 4, 3) := by decide +kernel
theorem dX7_modulo_20 : decode cX7_modulo 20 = .ok (.iload_n 2, 1) := by decide +kernel
theorem dX7_modulo_21 : decode cX7_modulo 21 = .ok (.ireturn, 1) := by decide +kernel
theorem dX7_share_0 : decode cX7_share 0 = .ok (.iload_n 1, 1) := by decide +kernel
theorem dX7_share_1 : decode cX7_share 1 = .ok (.ifCond .le 9, 3) := by decide +kernel
theorem dX7_share_4 : decode cX7_share 4 = .ok (.iload_n 0, 1) := by decide +kernel
theorem dX7_share_5 : decode cX7_share 5 = .ok (.iload_n 1, 1) := by decide +kernel
theorem dX7_share_6 : decode cX7_share 6 = .ok (.idiv, 1) := by decide +kernel
theorem dX7_share_7 : decode cX7_share 7 = .ok (.goto 4, 3) := by decide +kernel
theorem dX7_share_10 : decode cX7_share 10 = .ok (.iconst 0, 1) := by decide +kernel
theorem dX7_share_11 : decode cX7_share 11 = .ok (.ireturn, 1) := by decide +kernel
theorem dX7_hasBit_0 : decode cX7_hasBit 0 = .ok (.iload_n 0, 1) := by decide +kernel
theorem dX7_hasBit_1 : decode cX7_hasBit 1 = .ok (.iload_n 1, 1) := by decide +kernel
theorem dX7_hasBit_2 : decode cX7_hasBit 2 = .ok (.ishr, 1) := by decide +kernel
theorem dX7_hasBit_3 : decode cX7_hasBit 3 = .ok (.iconst 1, 1) := by decide +kernel
theorem dX7_hasBit_4 : decode cX7_hasBit 4 = .ok (.iand, 1) := by decide +kernel
theorem dX7_hasBit_5 : decode cX7_hasBit 5 = .ok (.ifCond .eq 7, 3) := by decide +kernel
theorem dX7_hasBit_8 : decode cX7_hasBit 8 = .ok (.iconst 1, 1) := by decide +kernel
theorem dX7_hasBit_9 : decode cX7_hasBit 9 = .ok (.goto 4, 3) := by decide +kernel
theorem dX7_hasBit_12 : decode cX7_hasBit 12 = .ok (.iconst 0, 1) := by decide +kernel
theorem dX7_hasBit_13 : decode cX7_hasBit 13 = .ok (.ireturn, 1) := by decide +kernel
theorem dJ13_bitCount_95d88_0 : decode cJ13_bitCount_95d88 0 = .ok (.lload_n 0, 1) := by decide +kernel
theorem dJ13_bitCount_95d88_1 : decode cJ13_bitCount_95d88 1 = .ok (.lload_n 0, 1) := by decide +kernel
theorem dJ13_bitCount_95d88_2 : decode cJ13_bitCount_95d88 2 = .ok (.iconst 1, 1) := by decide +kernel
theorem dJ13_bitCount_95d88_3 : decode cJ13_bitCount_95d88 3 = .ok (.lushr, 1) := by decide +kernel
theorem dJ13_bitCount_95d88_4 : decode cJ13_bitCount_95d88 4 = .ok (.ldc2_w 314, 3) := by decide +kernel
theorem dJ13_bitCount_95d88_7 : decode cJ13_bitCount_95d88 7 = .ok (.land, 1) := by decide +kernel
theorem dJ13_bitCount_95d88_8 : decode cJ13_bitCount_95d88 8 = .ok (.lsub, 1) := by decide +kernel
theorem dJ13_bitCount_95d88_9 : decode cJ13_bitCount_95d88 9 = .ok (.lstore_n 0, 1) := by decide +kernel
theorem dJ13_bitCount_95d88_10 : decode cJ13_bitCount_95d88 10 = .ok (.lload_n 0, 1) := by decide +kernel
theorem dJ13_bitCount_95d88_11 : decode cJ13_bitCount_95d88 11 = .ok (.ldc2_w 316, 3) := by decide +kernel
theorem dJ13_bitCount_95d88_14 : decode cJ13_bitCount_95d88 14 = .ok (.land, 1) := by decide +kernel
theorem dJ13_bitCount_95d88_15 : decode cJ13_bitCount_95d88 15 = .ok (.lload_n 0, 1) := by decide +kernel
theorem dJ13_bitCount_95d88_16 : decode cJ13_bitCount_95d88 16 = .ok (.iconst 2, 1) := by decide +kernel
theorem dJ13_bitCount_95d88_17 : decode cJ13_bitCount_95d88 17 = .ok (.lushr, 1) := by decide +kernel
theorem dJ13_bitCount_95d88_18 : decode cJ13_bitCount_95d88 18 = .ok (.ldc2_w 316, 3) := by decide +kernel
theorem dJ13_bitCount_95d88_21 : decode cJ13_bitCount_95d88 21 = .ok (.land, 1) := by decide +kernel
theorem dJ13_bitCount_95d88_22 : decode cJ13_bitCount_95d88 22 = .ok (.ladd, 1) := by decide +kernel
theorem dJ13_bitCount_95d88_23 : decode cJ13_bitCount_95d88 23 = .ok (.lstore_n 0, 1) := by decide +kernel
theorem dJ13_bitCount_95d88_24 : decode cJ13_bitCount_95d88 24 = .ok (.lload_n 0, 1) := by decide +kernel
theorem dJ13_bitCount_95d88_25 : decode cJ13_bitCount_95d88 25 = .ok (.lload_n 0, 1) := by decide +kernel
theorem dJ13_bitCount_95d88_26 : decode cJ13_bitCount_95d88 26 = .ok (.iconst 4, 1) := by decide +kernel
theorem dJ13_bitCount_95d88_27 : decode cJ13_bitCount_95d88 27 = .ok (.lushr, 1) := by decide +kernel
theorem dJ13_bitCount_95d88_28 : decode cJ13_bitCount_95d88 28 = .ok (.ladd, 1) := by decide +kernel
theorem dJ13_bitCount_95d88_29 : decode cJ13_bitCount_95d88 29 = .ok (.ldc2_w 318, 3) := by decide +kernel
theorem dJ13_bitCount_95d88_32 : decode cJ13_bitCount_95d88 32 = .ok (.land, 1) := by decide +kernel
theorem dJ13_bitCount_95d88_33 : decode cJ13_bitCount_95d88 33 = .ok (.lstore_n 0, 1) := by decide +kernel
theorem dJ13_bitCount_95d88_34 : decode cJ13_bitCount_95d88 34 = .ok (.lload_n 0, 1) := by decide +kernel
theorem dJ13_bitCount_95d88_35 : decode cJ13_bitCount_95d88 35 = .ok (.lload_n 0, 1) := by decide +kernel
theorem dJ13_bitCount_95d88_36 : decode cJ13_bitCount_95d88 36 = .ok (.bipush 8, 2) := by decide +kernel
theorem dJ13_bitCount_95d88_38 : decode cJ13_bitCount_95d88 38 = .ok (.lushr, 1) := by decide +kernel
theorem dJ13_bitCount_95d88_39 : decode cJ13_bitCount_95d88 39 = .ok (.ladd, 1) := by decide +kernel
theorem dJ13_bitCount_95d88_40 : decode cJ13_bitCount_95d88 40 = .ok (.lstore_n 0, 1) := by decide +kernel
theorem dJ13_bitCount_95d88_41 : decode cJ13_bitCount_95d88 41 = .ok (.lload_n 0, 1) := by decide +kernel
theorem dJ13_bitCount_95d88_42 : decode cJ13_bitCount_95d88 42 = .ok (.lload_n 0, 1) := by decide +kernel
theorem dJ13_bitCount_95d88_43 : decode cJ13_bitCount_95d88 43 = .ok (.bipush 16, 2) := by decide +kernel
theorem dJ13_bitCount_95d88_45 : decode cJ13_bitCount_95d88 45 = .ok (.lushr, 1) := by decide +kernel
theorem dJ13_bitCount_95d88_46 : decode cJ13_bitCount_95d88 46 = .ok (.ladd, 1) := by decide +kernel
theorem dJ13_bitCount_95d88_47 : decode cJ13_bitCount_95d88 47 = .ok (.lstore_n 0, 1) := by decide +kernel
theorem dJ13_bitCount_95d88_48 : decode cJ13_bitCount_95d88 48 = .ok (.lload_n 0, 1) := by decide +kernel
theorem dJ13_bitCount_95d88_49 : decode cJ13_bitCount_95d88 49 = .ok (.lload_n 0, 1) := by decide +kernel
theorem dJ13_bitCount_95d88_50 : decode cJ13_bitCount_95d88 50 = .ok (.bipush 32, 2) := by decide +kernel
theorem dJ13_bitCount_95d88_52 : decode cJ13_bitCount_95d88 52 = .ok (.lushr, 1) := by decide +kernel
theorem dJ13_bitCount_95d88_53 : decode cJ13_bitCount_95d88 53 = .ok (.ladd, 1) := by decide +kernel
theorem dJ13_bitCount_95d88_54 : decode cJ13_bitCount_95d88 54 = .ok (.lstore_n 0, 1) := by decide +kernel
theorem dJ13_bitCount_95d88_55 : decode cJ13_bitCount_95d88 55 = .ok (.lload_n 0, 1) := by decide +kernel
theorem dJ13_bitCount_95d88_56 : decode cJ13_bitCount_95d88 56 = .ok (.l2i, 1) := by decide +kernel
theorem dJ13_bitCount_95d88_57 : decode cJ13_bitCount_95d88 57 = .ok (.bipush 127, 2) := by decide +kernel
theorem dJ13_bitCount_95d88_59 : decode cJ13_bitCount_95d88 59 = .ok (.iand, 1) := by decide +kernel
theorem dJ13_bitCount_95d88_60 : decode cJ13_bitCount_95d88 60 = .ok (.ireturn, 1) := by decide +kernel
theorem dJ9_max_7cf53_0 : decode cJ9_max_7cf53 0 = .ok (.iload_n 0, 1) := by decide +kernel
theorem dJ9_max_7cf53_1 : decode cJ9_max_7cf53 1 = .ok (.iload_n 1, 1) := by decide +kernel
theorem dJ9_max_7cf53_2 : decode cJ9_max_7cf53 2 = .ok (.if_icmp .lt 7, 3) := by decide +kernel
theorem dJ9_max_7cf53_5 : decode cJ9_max_7cf53 5 = .ok (.iload_n 0, 1) := by decide +kernel
theorem dJ9_max_7cf53_6 : decode cJ9_max_7cf53 6 = .ok (.goto 4, 3) := by decide +kernel
theorem dJ9_max_7cf53_9 : decode cJ9_max_7cf53 9 = .ok (.iload_n 1, 1) := by decide +kernel
theorem dJ9_max_7cf53_10 : decode cJ9_max_7cf53 10 = .ok (.ireturn, 1) := by decide +kernel
theorem dJ9_min_7cf53_0 : decode cJ9_min_7cf53 0 = .ok (.iload_n 0, 1) := by decide +kernel
theorem dJ9_min_7cf53_1 : decode cJ9_min_7cf53 1 = .ok (.iload_n 1, 1) := by decide +kernel
theorem dJ9_min_7cf53_2 : decode cJ9_min_7cf53 2 = .ok (.if_icmp .gt 7, 3) := by decide +kernel
theorem dJ9_min_7cf53_5 : decode cJ9_min_7cf53 5 = .ok (.iload_n 0, 1) := by decide +kernel
theorem dJ9_min_7cf53_6 : decode cJ9_min_7cf53 6 = .ok (.goto 4, 3) := by decide +kernel
theorem dJ9_min_7cf53_9 : decode cJ9_min_7cf53 9 = .ok (.iload_n 1, 1) := by decide +kernel
theorem dJ9_min_7cf53_10 : decode cJ9_min_7cf53 10 = .ok (.ireturn, 1) := by decide +kernel
theorem dJ7_fill_53178_0 : decode cJ7_fill_53178 0 = .ok (.iconst 0, 1) := by decide +kernel
theorem dJ7_fill_53178_1 : decode cJ7_fill_53178 1 = .ok (.istore_n 2, 1) := by decide +kernel
theorem dJ7_fill_53178_2 : decode cJ7_fill_53178 2 = .ok (.aload_n 0, 1) := by decide +kernel
theorem dJ7_fill_53178_3 : decode cJ7_fill_53178 3 = .ok (.arraylength, 1) := by decide +kernel
theorem dJ7_fill_53178_4 : decode cJ7_fill_53178 4 = .ok (.istore_n 3, 1) := by decide +kernel
theorem dJ7_fill_53178_5 : decode cJ7_fill_53178 5 = .ok (.iload_n 2, 1) := by decide +kernel
theorem dJ7_fill_53178_6 : decode cJ7_fill_53178 6 = .ok (.iload_n 3, 1) := by decide +kernel
theorem dJ7_fill_53178_7 : decode cJ7_fill_53178 7 = .ok (.if_icmp .ge 13, 3) := by decide +kernel
theorem dJ7_fill_53178_10 : decode cJ7_fill_53178 10 = .ok (.aload_n 0, 1) := by decide +kernel
theorem dJ7_fill_53178_11 : decode cJ7_fill_53178 11 = .ok (.iload_n 2, 1) := by decide +kernel
theorem dJ7_fill_53178_12 : decode cJ7_fill_53178 12 = .ok (.iload_n 1, 1) := by decide +kernel
theorem dJ7_fill_53178_13 : decode cJ7_fill_53178 13 = .ok (.iastore, 1) := by decide +kernel
theorem dJ7_fill_53178_14 : decode cJ7_fill_53178 14 = .ok (.iinc 2 1, 3) := by decide +kernel
theorem dJ7_fill_53178_17 : decode cJ7_fill_53178 17 = .ok (.goto (-12), 3) := by decide +kernel
theorem dJ7_fill_53178_20 : decode cJ7_fill_53178 20 = .ok (.return_, 1) := by decide +kernel
theorem dL_cell_0 : decode cL_cell 0 = .ok (.iload_n 1, 1) := by decide +kernel
theorem dL_cell_1 : decode cL_cell 1 = .ok (.aload_n 0, 1) := by decide +kernel
theorem dL_cell_2 : decode cL_cell 2 = .ok (.arraylength, 1) := by decide +kernel
theorem dL_cell_3 : decode cL_cell 3 = .ok (.if_icmp .ge 9, 3) := by decide +kernel
theorem dL_cell_6 : decode cL_cell 6 = .ok (.aload_n 0, 1) := by decide +kernel
theorem dL_cell_7 : decode cL_cell 7 = .ok (.iload_n 1, 1) := by decide +kernel
theorem dL_cell_8 : decode cL_cell 8 = .ok (.iaload, 1) := by decide +kernel
theorem dL_cell_9 : decode cL_cell 9 = .ok (.goto 18, 3) := by decide +kernel
theorem dL_cell_12 : decode cL_cell 12 = .ok (.sipush 7919, 3) := by decide +kernel
theorem dL_cell_15 : decode cL_cell 15 = .ok (.iload_n 1, 1) := by decide +kernel
theorem dL_cell_16 : decode cL_cell 16 = .ok (.sipush 449, 3) := by decide +kernel
theorem dL_cell_19 : decode cL_cell 19 = .ok (.iadd, 1) := by decide +kernel
theorem dL_cell_20 : decode cL_cell 20 = .ok (.imul, 1) := by decide +kernel
theorem dL_cell_21 : decode cL_cell 21 = .ok (.iload_n 1, 1) := by decide +kernel
theorem dL_cell_22 : decode cL_cell 22 = .ok (.sipush 2741, 3) := by decide +kernel
theorem dL_cell_25 : decode cL_cell 25 = .ok (.iadd, 1) := by decide +kernel
theorem dL_cell_26 : decode cL_cell 26 = .ok (.imul, 1) := by decide +kernel
theorem dL_cell_27 : decode cL_cell 27 = .ok (.ireturn, 1) := by decide +kernel
theorem dL_low_0 : decode cL_low 0 = .ok (.iload_n 0, 1) := by decide +kernel
theorem dL_low_1 : decode cL_low 1 = .ok (.ldc 7, 2) := by decide +kernel
theorem dL_low_3 : decode cL_low 3 = .ok (.iand, 1) := by decide +kernel
theorem dL_low_4 : decode cL_low 4 = .ok (.iload_n 1, 1) := by decide +kernel
theorem dL_low_5 : decode cL_low 5 = .ok (.irem, 1) := by decide +kernel
theorem dL_low_6 : decode cL_low 6 = .ok (.ireturn, 1) := by decide +kernel
theorem dL_does_0 : decode cL_does 0 = .ok (.iload_n 1, 1) := by decide +kernel
theorem dL_does_1 : decode cL_does 1 = .ok (.ifCond .ne 17, 3) := by decide +kernel
theorem dL_does_4 : decode cL_does 4 = .ok (.aload_n 0, 1) := by decide +kernel
theorem dL_does_5 : decode cL_does 5 = .ok (.iload_n 2, 1) := by decide +kernel
theorem dL_does_6 : decode cL_does 6 = .ok (.iload_n 3, 1) := by decide +kernel
theorem dL_does_7 : decode cL_does 7 = .ok (.iload 4, 2) := by decide +kernel
theorem dL_does_9 : decode cL_does 9 = .ok (.iload 5, 2) := by decide +kernel
theorem dL_does_11 : decode cL_does 11 = .ok (.iconst 0, 1) := by decide +kernel
theorem dL_does_12 : decode cL_does 12 = .ok (.invokevirtual 8, 3) := by decide +kernel
theorem dL_does_15 : decode cL_does 15 = .ok (.goto 114, 3) := by decide +kernel
theorem dL_does_18 : decode cL_does 18 = .ok (.iload_n 1, 1) := by decide +kernel
theorem dL_does_19 : decode cL_does 19 = .ok (.iconst 1, 1) := by decide +kernel
theorem dL_does_20 : decode cL_does 20 = .ok (.if_icmp .ne 16, 3) := by decide +kernel
theorem dL_does_23 : decode cL_does 23 = .ok (.aload_n 0, 1) := by decide +kernel
theorem dL_does_24 : decode cL_does 24 = .ok (.iload_n 2, 1) := by decide +kernel
theorem dL_does_25 : decode cL_does 25 = .ok (.iload_n 3, 1) := by decide +kernel
theorem dL_does_26 : decode cL_does 26 = .ok (.iload 4, 2) := by decide +kernel
theorem dL_does_28 : decode cL_does 28 = .ok (.iload 5, 2) := by decide +kernel
theorem dL_does_30 : decode cL_does 30 = .ok (.invokevirtual 14, 3) := by decide +kernel
theorem dL_does_33 : decode cL_does 33 = .ok (.goto 96, 3) := by decide +kernel
theorem dL_does_36 : decode cL_does 36 = .ok (.iload_n 1, 1) := by decide +kernel
theorem dL_does_37 : decode cL_does 37 = .ok (.iconst 2, 1) := by decide +kernel
theorem dL_does_38 : decode cL_does 38 = .ok (.if_icmp .ne 14, 3) := by decide +kernel
theorem dL_does_41 : decode cL_does 41 = .ok (.aload_n 0, 1) := by decide +kernel
theorem dL_does_42 : decode cL_does 42 = .ok (.iload_n 2, 1) := by decide +kernel
theorem dL_does_43 : decode cL_does 43 = .ok (.iload_n 3, 1) := by decide +kernel
theorem dL_does_44 : decode cL_does 44 = .ok (.iload 4, 2) := by decide +kernel
theorem dL_does_46 : decode cL_does 46 = .ok (.invokevirtual 18, 3) := by decide +kernel
theorem dL_does_49 : decode cL_does 49 = .ok (.goto 80, 3) := by decide +kernel
theorem dL_does_52 : decode cL_does 52 = .ok (.iload_n 1, 1) := by decide +kernel
theorem dL_does_53 : decode cL_does 53 = .ok (.iconst 3, 1) := by decide +kernel
theorem dL_does_54 : decode cL_does 54 = .ok (.if_icmp .ne 12, 3) := by decide +kernel
theorem dL_does_57 : decode cL_does 57 = .ok (.aload_n 0, 1) := by decide +kernel
theorem dL_does_58 : decode cL_does 58 = .ok (.iload_n 2, 1) := by decide +kernel
theorem dL_does_59 : decode cL_does 59 = .ok (.iload_n 3, 1) := by decide +kernel
theorem dL_does_60 : decode cL_does 60 = .ok (.invokevirtual 22, 3) := by decide +kernel
theorem dL_does_63 : decode cL_does 63 = .ok (.goto 66, 3) := by decide +kernel
theorem dL_does_66 : decode cL_does 66 = .ok (.iload_n 1, 1) := by decide +kernel
theorem dL_does_67 : decode cL_does 67 = .ok (.iconst 4, 1) := by decide +kernel
theorem dL_does_68 : decode cL_does 68 = .ok (.if_icmp .ne 14, 3) := by decide +kernel
theorem dL_does_71 : decode cL_does 71 = .ok (.aload_n 0, 1) := by decide +kernel
theorem dL_does_72 : decode cL_does 72 = .ok (.iload_n 2, 1) := by decide +kernel
theorem dL_does_73 : decode cL_does 73 = .ok (.iload_n 3, 1) := by decide +kernel
theorem dL_does_74 : decode cL_does 74 = .ok (.iload 4, 2) := by decide +kernel
theorem dL_does_76 : decode cL_does 76 = .ok (.invokestatic 26, 3) := by decide +kernel
theorem dL_does_79 : decode cL_does 79 = .ok (.goto 50, 3) := by decide +kernel
theorem dL_does_82 : decode cL_does 82 = .ok (.iload_n 1, 1) := by decide +kernel
theorem dL_does_83 : decode cL_does 83 = .ok (.iconst 5, 1) := by decide +kernel
theorem dL_does_84 : decode cL_does 84 = .ok (.if_icmp .ne 11, 3) := by decide +kernel
theorem dL_does_87 : decode cL_does 87 = .ok (.aload_n 0, 1) := by decide +kernel
theorem dL_does_88 : decode cL_does 88 = .ok (.iload_n 2, 1) := by decide +kernel
theorem dL_does_89 : decode cL_does 89 = .ok (.invokevirtual 32, 3) := by decide +kernel
theorem dL_does_92 : decode cL_does 92 = .ok (.goto 37, 3) := by decide +kernel
theorem dL_does_95 : decode cL_does 95 = .ok (.iload_n 1, 1) := by decide +kernel
theorem dL_does_96 : decode cL_does 96 = .ok (.bipush 6, 2) := by decide +kernel
theorem dL_does_98 : decode cL_does 98 = .ok (.if_icmp .ne 12, 3) := by decide +kernel
theorem dL_does_101 : decode cL_does 101 = .ok (.aload_n 0, 1) := by decide +kernel
theorem dL_does_102 : decode cL_does 102 = .ok (.iload_n 2, 1) := by decide +kernel
theorem dL_does_103 : decode cL_does 103 = .ok (.iload_n 3, 1) := by decide +kernel
theorem dL_does_104 : decode cL_does 104 = .ok (.invokevirtual 36, 3) := by decide +kernel
theorem dL_does_107 : decode cL_does 107 = .ok (.goto 22, 3) := by decide +kernel
theorem dL_does_110 : decode cL_does 110 = .ok (.iload_n 1, 1) := by decide +kernel
theorem dL_does_111 : decode cL_does 111 = .ok (.bipush 7, 2) := by decide +kernel
theorem dL_does_113 : decode cL_does 113 = .ok (.if_icmp .ne 10, 3) := by decide +kernel
theorem dL_does_116 : decode cL_does 116 = .ok (.aload_n 0, 1) := by decide +kernel
theorem dL_does_117 : decode cL_does 117 = .ok (.invokevirtual 39, 3) := by decide +kernel
theorem dL_does_120 : decode cL_does 120 = .ok (.goto 9, 3) := by decide +kernel
theorem dL_does_123 : decode cL_does 123 = .ok (.aload_n 0, 1) := by decide +kernel
theorem dL_does_124 : decode cL_does 124 = .ok (.iload_n 2, 1) := by decide +kernel
theorem dL_does_125 : decode cL_does 125 = .ok (.iload_n 3, 1) := by decide +kernel
theorem dL_does_126 : decode cL_does 126 = .ok (.invokestatic 43, 3) := by decide +kernel
theorem dL_does_129 : decode cL_does 129 = .ok (.ireturn, 1) := by decide +kernel
theorem dL_does_130 : decode cL_does 130 = .ok (.astore 6, 2) := by decide +kernel
theorem dL_does_132 : decode cL_does 132 = .ok (.ldc 49, 2) := by decide +kernel
theorem dL_does_134 : decode cL_does 134 = .ok (.ireturn, 1) := by decide +kernel
theorem dL_does_135 : decode cL_does 135 = .ok (.astore 6, 2) := by decide +kernel
theorem dL_does_137 : decode cL_does 137 = .ok (.ldc 49, 2) := by decide +kernel
theorem dL_does_139 : decode cL_does 139 = .ok (.ireturn, 1) := by decide +kernel
theorem dL_does_140 : decode cL_does 140 = .ok (.astore 6, 2) := by decide +kernel
theorem dL_does_142 : decode cL_does 142 = .ok (.ldc 49, 2) := by decide +kernel
theorem dL_does_144 : decode cL_does 144 = .ok (.ireturn, 1) := by decide +kernel
theorem dL_link_0 : decode cL_link 0 = .ok (.aload_n 0, 1) := by decide +kernel
theorem dL_link_1 : decode cL_link 1 = .ok (.iload_n 1, 1) := by decide +kernel
theorem dL_link_2 : decode cL_link 2 = .ok (.iload_n 2, 1) := by decide +kernel
theorem dL_link_3 : decode cL_link 3 = .ok (.iload_n 3, 1) := by decide +kernel
theorem dL_link_4 : decode cL_link 4 = .ok (.invokevirtual 54, 3) := by decide +kernel
theorem dL_link_7 : decode cL_link 7 = .ok (.iconst 0, 1) := by decide +kernel
theorem dL_link_8 : decode cL_link 8 = .ok (.ireturn, 1) := by decide +kernel
theorem dL_begin_0 : decode cL_begin 0 = .ok (.aload_n 0, 1) := by decide +kernel
theorem dL_begin_1 : decode cL_begin 1 = .ok (.iload_n 1, 1) := by decide +kernel
theorem dL_begin_2 : decode cL_begin 2 = .ok (.iload_n 2, 1) := by decide +kernel
theorem dL_begin_3 : decode cL_begin 3 = .ok (.invokevirtual 58, 3) := by decide +kernel
theorem dL_begin_6 : decode cL_begin 6 = .ok (.iconst 0, 1) := by decide +kernel
theorem dL_begin_7 : decode cL_begin 7 = .ok (.ireturn, 1) := by decide +kernel
theorem dL_green_0 : decode cL_green 0 = .ok (.aload_n 0, 1) := by decide +kernel
theorem dL_green_1 : decode cL_green 1 = .ok (.iload_n 1, 1) := by decide +kernel
theorem dL_green_2 : decode cL_green 2 = .ok (.iload_n 2, 1) := by decide +kernel
theorem dL_green_3 : decode cL_green 3 = .ok (.invokevirtual 61, 3) := by decide +kernel
theorem dL_green_6 : decode cL_green 6 = .ok (.ireturn, 1) := by decide +kernel
theorem dL_green_7 : decode cL_green 7 = .ok (.astore_n 3, 1) := by decide +kernel
theorem dL_green_8 : decode cL_green 8 = .ok (.iconst (-1), 1) := by decide +kernel
theorem dL_green_9 : decode cL_green 9 = .ok (.ireturn, 1) := by decide +kernel
theorem dL_green_10 : decode cL_green 10 = .ok (.astore_n 3, 1) := by decide +kernel
theorem dL_green_11 : decode cL_green 11 = .ok (.bipush (-2), 2) := by decide +kernel
theorem dL_green_13 : decode cL_green 13 = .ok (.ireturn, 1) := by decide +kernel
theorem dL_phaseNow_0 : decode cL_phaseNow 0 = .ok (.aload_n 0, 1) := by decide +kernel
theorem dL_phaseNow_1 : decode cL_phaseNow 1 = .ok (.iload_n 1, 1) := by decide +kernel
theorem dL_phaseNow_2 : decode cL_phaseNow 2 = .ok (.invokevirtual 64, 3) := by decide +kernel
theorem dL_phaseNow_5 : decode cL_phaseNow 5 = .ok (.ireturn, 1) := by decide +kernel
theorem dL_phaseNow_6 : decode cL_phaseNow 6 = .ok (.astore_n 2, 1) := by decide +kernel
theorem dL_phaseNow_7 : decode cL_phaseNow 7 = .ok (.bipush (-2), 2) := by decide +kernel
theorem dL_phaseNow_9 : decode cL_phaseNow 9 = .ok (.ireturn, 1) := by decide +kernel
theorem dL_band_0 : decode cL_band 0 = .ok (.aload_n 0, 1) := by decide +kernel
theorem dL_band_1 : decode cL_band 1 = .ok (.iload_n 1, 1) := by decide +kernel
theorem dL_band_2 : decode cL_band 2 = .ok (.invokevirtual 67, 3) := by decide +kernel
theorem dL_band_5 : decode cL_band 5 = .ok (.ireturn, 1) := by decide +kernel
theorem dL_band_6 : decode cL_band 6 = .ok (.astore_n 2, 1) := by decide +kernel
theorem dL_band_7 : decode cL_band 7 = .ok (.bipush (-2), 2) := by decide +kernel
theorem dL_band_9 : decode cL_band 9 = .ok (.ireturn, 1) := by decide +kernel
theorem dL_act_0 : decode cL_act 0 = .ok (.iload_n 1, 1) := by decide +kernel
theorem dL_act_1 : decode cL_act 1 = .ok (.bipush 24, 2) := by decide +kernel
theorem dL_act_3 : decode cL_act 3 = .ok (.ishr, 1) := by decide +kernel
theorem dL_act_4 : decode cL_act 4 = .ok (.bipush 8, 2) := by decide +kernel
theorem dL_act_6 : decode cL_act 6 = .ok (.invokestatic 71, 3) := by decide +kernel
theorem dL_act_9 : decode cL_act 9 = .ok (.ifCond .ne 7, 3) := by decide +kernel
theorem dL_act_12 : decode cL_act 12 = .ok (.iconst 1, 1) := by decide +kernel
theorem dL_act_13 : decode cL_act 13 = .ok (.goto 4, 3) := by decide +kernel
theorem dL_act_16 : decode cL_act 16 = .ok (.iconst 0, 1) := by decide +kernel
theorem dL_act_17 : decode cL_act 17 = .ok (.istore_n 2, 1) := by decide +kernel
theorem dL_act_18 : decode cL_act 18 = .ok (.iload_n 1, 1) := by decide +kernel
theorem dL_act_19 : decode cL_act 19 = .ok (.bipush 32, 2) := by decide +kernel
theorem dL_act_21 : decode cL_act 21 = .ok (.invokestatic 71, 3) := by decide +kernel
theorem dL_act_24 : decode cL_act 24 = .ok (.istore_n 3, 1) := by decide +kernel
theorem dL_act_25 : decode cL_act 25 = .ok (.iload_n 1, 1) := by decide +kernel
theorem dL_act_26 : decode cL_act 26 = .ok (.iconst 4, 1) := by decide +kernel
theorem dL_act_27 : decode cL_act 27 = .ok (.ishr, 1) := by decide +kernel
theorem dL_act_28 : decode cL_act 28 = .ok (.iload_n 2, 1) := by decide +kernel
theorem dL_act_29 : decode cL_act 29 = .ok (.ifCond .eq 8, 3) := by decide +kernel
theorem dL_act_32 : decode cL_act 32 = .ok (.bipush 7, 2) := by decide +kernel
theorem dL_act_34 : decode cL_act 34 = .ok (.goto 7, 3) := by decide +kernel
theorem dL_act_37 : decode cL_act 37 = .ok (.aload_n 0, 1) := by decide +kernel
theorem dL_act_38 : decode cL_act 38 = .ok (.invokevirtual 74, 3) := by decide +kernel
theorem dL_act_41 : decode cL_act 41 = .ok (.invokestatic 71, 3) := by decide +kernel
theorem dL_act_44 : decode cL_act 44 = .ok (.istore 4, 2) := by decide +kernel
theorem dL_act_46 : decode cL_act 46 = .ok (.iload_n 3, 1) := by decide +kernel
theorem dL_act_47 : decode cL_act 47 = .ok (.iconst 4, 1) := by decide +kernel
theorem dL_act_48 : decode cL_act 48 = .ok (.if_icmp .ge 69, 3) := by decide +kernel
theorem dL_act_51 : decode cL_act 51 = .ok (.iload_n 2, 1) := by decide +kernel
theorem dL_act_52 : decode cL_act 52 = .ok (.ifCond .eq 15, 3) := by decide +kernel
theorem dL_act_55 : decode cL_act 55 = .ok (.iload_n 1, 1) := by decide +kernel
theorem dL_act_56 : decode cL_act 56 = .ok (.bipush 10, 2) := by decide +kernel
theorem dL_act_58 : decode cL_act 58 = .ok (.ishr, 1) := by decide +kernel
theorem dL_act_59 : decode cL_act 59 = .ok (.bipush 18, 2) := by decide +kernel
theorem dL_act_61 : decode cL_act 61 = .ok (.invokestatic 71, 3) := by decide +kernel
theorem dL_act_64 : decode cL_act 64 = .ok (.goto 12, 3) := by decide +kernel
theorem dL_act_67 : decode cL_act 67 = .ok (.iload_n 1, 1) := by decide +kernel
theorem dL_act_68 : decode cL_act 68 = .ok (.bipush 10, 2) := by decide +kernel
theorem dL_act_70 : decode cL_act 70 = .ok (.ishr, 1) := by decide +kernel
theorem dL_act_71 : decode cL_act 71 = .ok (.bipush 16, 2) := by decide +kernel
theorem dL_act_73 : decode cL_act 73 = .ok (.invokestatic 71, 3) := by decide +kernel
theorem dL_act_76 : decode cL_act 76 = .ok (.istore 5, 2) := by decide +kernel
theorem dL_act_78 : decode cL_act 78 = .ok (.aload_n 0, 1) := by decide +kernel
theorem dL_act_79 : decode cL_act 79 = .ok (.iconst 0, 1) := by decide +kernel
theorem dL_act_80 : decode cL_act 80 = .ok (.iload 4, 2) := by decide +kernel
theorem dL_act_82 : decode cL_act 82 = .ok (.iconst 1, 1) := by decide +kernel
theorem dL_act_83 : decode cL_act 83 = .ok (.iload_n 1, 1) := by decide +kernel
theorem dL_act_84 : decode cL_act 84 = .ok (.bipush 7, 2) := by decide +kernel
theorem dL_act_86 : decode cL_act 86 = .ok (.ishr, 1) := by decide +kernel
theorem dL_act_87 : decode cL_act 87 = .ok (.bipush 15, 2) := by decide +kernel
theorem dL_act_89 : decode cL_act 89 = .ok (.invokestatic 71, 3) := by decide +kernel
theorem dL_act_92 : decode cL_act 92 = .ok (.iadd, 1) := by decide +kernel
theorem dL_act_93 : decode cL_act 93 = .ok (.iload 5, 2) := by decide +kernel
theorem dL_act_95 : decode cL_act 95 = .ok (.iload 5, 2) := by decide +kernel
theorem dL_act_97 : decode cL_act 97 = .ok (.ifCond .ne 7, 3) := by decide +kernel
theorem dL_act_100 : decode cL_act 100 = .ok (.iconst 0, 1) := by decide +kernel
theorem dL_act_101 : decode cL_act 101 = .ok (.goto 12, 3) := by decide +kernel
theorem dL_act_104 : decode cL_act 104 = .ok (.iload_n 1, 1) := by decide +kernel
theorem dL_act_105 : decode cL_act 105 = .ok (.bipush 13, 2) := by decide +kernel
theorem dL_act_107 : decode cL_act 107 = .ok (.ishr, 1) := by decide +kernel
theorem dL_act_108 : decode cL_act 108 = .ok (.bipush 16, 2) := by decide +kernel
theorem dL_act_110 : decode cL_act 110 = .ok (.invokestatic 71, 3) := by decide +kernel
theorem dL_act_113 : decode cL_act 113 = .ok (.invokestatic 77, 3) := by decide +kernel
theorem dL_act_116 : decode cL_act 116 = .ok (.ireturn, 1) := by decide +kernel
theorem dL_act_117 : decode cL_act 117 = .ok (.iload_n 3, 1) := by decide +kernel
theorem dL_act_118 : decode cL_act 118 = .ok (.bipush 8, 2) := by decide +kernel
theorem dL_act_120 : decode cL_act 120 = .ok (.if_icmp .ge 55, 3) := by decide +kernel
theorem dL_act_123 : decode cL_act 123 = .ok (.aload_n 0, 1) := by decide +kernel
theorem dL_act_124 : decode cL_act 124 = .ok (.iconst 1, 1) := by decide +kernel
theorem dL_act_125 : decode cL_act 125 = .ok (.iload 4, 2) := by decide +kernel
theorem dL_act_127 : decode cL_act 127 = .ok (.iload_n 1, 1) := by decide +kernel
theorem dL_act_128 : decode cL_act 128 = .ok (.bipush 7, 2) := by decide +kernel
theorem dL_act_130 : decode cL_act 130 = .ok (.ishr, 1) := by decide +kernel
theorem dL_act_131 : decode cL_act 131 = .ok (.iload_n 2, 1) := by decide +kernel
theorem dL_act_132 : decode cL_act 132 = .ok (.ifCond .eq 7, 3) := by decide +kernel
theorem dL_act_135 : decode cL_act 135 = .ok (.iconst 5, 1) := by decide +kernel
theorem dL_act_136 : decode cL_act 136 = .ok (.goto 4, 3) := by decide +kernel
theorem dL_act_139 : decode cL_act 139 = .ok (.iconst 4, 1) := by decide +kernel
theorem dL_act_140 : decode cL_act 140 = .ok (.invokestatic 71, 3) := by decide +kernel
theorem dL_act_143 : decode cL_act 143 = .ok (.iload_n 1, 1) := by decide +kernel
theorem dL_act_144 : decode cL_act 144 = .ok (.bipush 9, 2) := by decide +kernel
theorem dL_act_146 : decode cL_act 146 = .ok (.ishr, 1) := by decide +kernel
theorem dL_act_147 : decode cL_act 147 = .ok (.iconst 4, 1) := by decide +kernel
theorem dL_act_148 : decode cL_act 148 = .ok (.invokestatic 71, 3) := by decide +kernel
theorem dL_act_151 : decode cL_act 151 = .ok (.iload_n 1, 1) := by decide +kernel
theorem dL_act_152 : decode cL_act 152 = .ok (.bipush 11, 2) := by decide +kernel
theorem dL_act_154 : decode cL_act 154 = .ok (.ishr, 1) := by decide +kernel
theorem dL_act_155 : decode cL_act 155 = .ok (.iload_n 2, 1) := by decide +kernel
theorem dL_act_156 : decode cL_act 156 = .ok (.ifCond .eq 8, 3) := by decide +kernel
theorem dL_act_159 : decode cL_act 159 = .ok (.bipush 13, 2) := by decide +kernel
theorem dL_act_161 : decode cL_act 161 = .ok (.goto 5, 3) := by decide +kernel
theorem dL_act_164 : decode cL_act 164 = .ok (.bipush 11, 2) := by decide +kernel
theorem dL_act_166 : decode cL_act 166 = .ok (.invokestatic 71, 3) := by decide +kernel
theorem dL_act_169 : decode cL_act 169 = .ok (.iconst 1, 1) := by decide +kernel
theorem dL_act_170 : decode cL_act 170 = .ok (.isub, 1) := by decide +kernel
theorem dL_act_171 : decode cL_act 171 = .ok (.invokestatic 77, 3) := by decide +kernel
theorem dL_act_174 : decode cL_act 174 = .ok (.ireturn, 1) := by decide +kernel
theorem dL_act_175 : decode cL_act 175 = .ok (.iload_n 3, 1) := by decide +kernel
theorem dL_act_176 : decode cL_act 176 = .ok (.bipush 13, 2) := by decide +kernel
theorem dL_act_178 : decode cL_act 178 = .ok (.if_icmp .ge 40, 3) := by decide +kernel
theorem dL_act_181 : decode cL_act 181 = .ok (.aload_n 0, 1) := by decide +kernel
theorem dL_act_182 : decode cL_act 182 = .ok (.iconst 2, 1) := by decide +kernel
theorem dL_act_183 : decode cL_act 183 = .ok (.iload 4, 2) := by decide +kernel
theorem dL_act_185 : decode cL_act 185 = .ok (.iload_n 1, 1) := by decide +kernel
theorem dL_act_186 : decode cL_act 186 = .ok (.bipush 7, 2) := by decide +kernel
theorem dL_act_188 : decode cL_act 188 = .ok (.ishr, 1) := by decide +kernel
theorem dL_act_189 : decode cL_act 189 = .ok (.iconst 4, 1) := by decide +kernel
theorem dL_act_190 : decode cL_act 190 = .ok (.invokestatic 71, 3) := by decide +kernel
theorem dL_act_193 : decode cL_act 193 = .ok (.iload_n 1, 1) := by decide +kernel
theorem dL_act_194 : decode cL_act 194 = .ok (.bipush 9, 2) := by decide +kernel
theorem dL_act_196 : decode cL_act 196 = .ok (.ishr, 1) := by decide +kernel
theorem dL_act_197 : decode cL_act 197 = .ok (.iload_n 2, 1) := by decide +kernel
theorem dL_act_198 : decode cL_act 198 = .ok (.ifCond .eq 9, 3) := by decide +kernel
theorem dL_act_201 : decode cL_act 201 = .ok (.sipush 2000, 3) := by decide +kernel
theorem dL_act_204 : decode cL_act 204 = .ok (.goto 6, 3) := by decide +kernel
theorem dL_act_207 : decode cL_act 207 = .ok (.sipush 1801, 3) := by decide +kernel
theorem dL_act_210 : decode cL_act 210 = .ok (.invokestatic 71, 3) := by decide +kernel
theorem dL_act_213 : decode cL_act 213 = .ok (.iconst 0, 1) := by decide +kernel
theorem dL_act_214 : decode cL_act 214 = .ok (.invokestatic 77, 3) := by decide +kernel
theorem dL_act_217 : decode cL_act 217 = .ok (.ireturn, 1) := by decide +kernel
theorem dL_act_218 : decode cL_act 218 = .ok (.iload_n 3, 1) := by decide +kernel
theorem dL_act_219 : decode cL_act 219 = .ok (.bipush 16, 2) := by decide +kernel
theorem dL_act_221 : decode cL_act 221 = .ok (.if_icmp .ge 31, 3) := by decide +kernel
theorem dL_act_224 : decode cL_act 224 = .ok (.aload_n 0, 1) := by decide +kernel
theorem dL_act_225 : decode cL_act 225 = .ok (.iconst 3, 1) := by decide +kernel
theorem dL_act_226 : decode cL_act 226 = .ok (.iload 4, 2) := by decide +kernel
theorem dL_act_228 : decode cL_act 228 = .ok (.iload_n 1, 1) := by decide +kernel
theorem dL_act_229 : decode cL_act 229 = .ok (.bipush 7, 2) := by decide +kernel
theorem dL_act_231 : decode cL_act 231 = .ok (.ishr, 1) := by decide +kernel
theorem dL_act_232 : decode cL_act 232 = .ok (.iload_n 2, 1) := by decide +kernel
theorem dL_act_233 : decode cL_act 233 = .ok (.ifCond .eq 8, 3) := by decide +kernel
theorem dL_act_236 : decode cL_act 236 = .ok (.bipush 95, 2) := by decide +kernel
theorem dL_act_238 : decode cL_act 238 = .ok (.goto 5, 3) := by decide +kernel
theorem dL_act_241 : decode cL_act 241 = .ok (.bipush 30, 2) := by decide +kernel
theorem dL_act_243 : decode cL_act 243 = .ok (.invokestatic 71, 3) := by decide +kernel
theorem dL_act_246 : decode cL_act 246 = .ok (.iconst 0, 1) := by decide +kernel
theorem dL_act_247 : decode cL_act 247 = .ok (.iconst 0, 1) := by decide +kernel
theorem dL_act_248 : decode cL_act 248 = .ok (.invokestatic 77, 3) := by decide +kernel
theorem dL_act_251 : decode cL_act 251 = .ok (.ireturn, 1) := by decide +kernel
theorem dL_act_252 : decode cL_act 252 = .ok (.iload_n 3, 1) := by decide +kernel
theorem dL_act_253 : decode cL_act 253 = .ok (.bipush 18, 2) := by decide +kernel
theorem dL_act_255 : decode cL_act 255 = .ok (.if_icmp .ge 50, 3) := by decide +kernel
theorem dL_act_258 : decode cL_act 258 = .ok (.aload_n 0, 1) := by decide +kernel
theorem dL_act_259 : decode cL_act 259 = .ok (.iconst 4, 1) := by decide +kernel
theorem dL_act_260 : decode cL_act 260 = .ok (.iload 4, 2) := by decide +kernel
theorem dL_act_262 : decode cL_act 262 = .ok (.iload_n 1, 1) := by decide +kernel
theorem dL_act_263 : decode cL_act 263 = .ok (.bipush 7, 2) := by decide +kernel
theorem dL_act_265 : decode cL_act 265 = .ok (.ishr, 1) := by decide +kernel
theorem dL_act_266 : decode cL_act 266 = .ok (.iload_n 2, 1) := by decide +kernel
theorem dL_act_267 : decode cL_act 267 = .ok (.ifCond .eq 8, 3) := by decide +kernel
theorem dL_act_270 : decode cL_act 270 = .ok (.bipush 70, 2) := by decide +kernel
theorem dL_act_272 : decode cL_act 272 = .ok (.goto 5, 3) := by decide +kernel
theorem dL_act_275 : decode cL_act 275 = .ok (.bipush 40, 2) := by decide +kernel
theorem dL_act_277 : decode cL_act 277 = .ok (.invokestatic 71, 3) := by decide +kernel
theorem dL_act_280 : decode cL_act 280 = .ok (.iconst 1, 1) := by decide +kernel
theorem dL_act_281 : decode cL_act 281 = .ok (.iload_n 1, 1) := by decide +kernel
theorem dL_act_282 : decode cL_act 282 = .ok (.bipush 10, 2) := by decide +kernel
theorem dL_act_284 : decode cL_act 284 = .ok (.ishr, 1) := by decide +kernel
theorem dL_act_285 : decode cL_act 285 = .ok (.iload_n 2, 1) := by decide +kernel
theorem dL_act_286 : decode cL_act 286 = .ok (.ifCond .eq 8, 3) := by decide +kernel
theorem dL_act_289 : decode cL_act 289 = .ok (.bipush 45, 2) := by decide +kernel
theorem dL_act_291 : decode cL_act 291 = .ok (.goto 5, 3) := by decide +kernel
theorem dL_act_294 : decode cL_act 294 = .ok (.bipush 12, 2) := by decide +kernel
theorem dL_act_296 : decode cL_act 296 = .ok (.invokestatic 71, 3) := by decide +kernel
theorem dL_act_299 : decode cL_act 299 = .ok (.iadd, 1) := by decide +kernel
theorem dL_act_300 : decode cL_act 300 = .ok (.iconst 0, 1) := by decide +kernel
theorem dL_act_301 : decode cL_act 301 = .ok (.invokestatic 77, 3) := by decide +kernel
theorem dL_act_304 : decode cL_act 304 = .ok (.ireturn, 1) := by decide +kernel
theorem dL_act_305 : decode cL_act 305 = .ok (.iload_n 3, 1) := by decide +kernel
theorem dL_act_306 : decode cL_act 306 = .ok (.bipush 26, 2) := by decide +kernel
theorem dL_act_308 : decode cL_act 308 = .ok (.if_icmp .ge 49, 3) := by decide +kernel
theorem dL_act_311 : decode cL_act 311 = .ok (.aload_n 0, 1) := by decide +kernel
theorem dL_act_312 : decode cL_act 312 = .ok (.iconst 5, 1) := by decide +kernel
theorem dL_act_313 : decode cL_act 313 = .ok (.iload_n 2, 1) := by decide +kernel
theorem dL_act_314 : decode cL_act 314 = .ok (.ifCond .eq 15, 3) := by decide +kernel
theorem dL_act_317 : decode cL_act 317 = .ok (.iload_n 1, 1) := by decide +kernel
theorem dL_act_318 : decode cL_act 318 = .ok (.iconst 5, 1) := by decide +kernel
theorem dL_act_319 : decode cL_act 319 = .ok (.ishr, 1) := by decide +kernel
theorem dL_act_320 : decode cL_act 320 = .ok (.sipush 700, 3) := by decide +kernel
theorem dL_act_323 : decode cL_act 323 = .ok (.invokestatic 71, 3) := by decide +kernel
theorem dL_act_326 : decode cL_act 326 = .ok (.goto 24, 3) := by decide +kernel
theorem dL_act_329 : decode cL_act 329 = .ok (.iconst 1, 1) := by decide +kernel
theorem dL_act_330 : decode cL_act 330 = .ok (.iload_n 1, 1) := by decide +kernel
theorem dL_act_331 : decode cL_act 331 = .ok (.iconst 5, 1) := by decide +kernel
theorem dL_act_332 : decode cL_act 332 = .ok (.ishr, 1) := by decide +kernel
theorem dL_act_333 : decode cL_act 333 = .ok (.iload_n 3, 1) := by decide +kernel
theorem dL_act_334 : decode cL_act 334 = .ok (.bipush 20, 2) := by decide +kernel
theorem dL_act_336 : decode cL_act 336 = .ok (.if_icmp .ge 8, 3) := by decide +kernel
theorem dL_act_339 : decode cL_act 339 = .ok (.bipush 120, 2) := by decide +kernel
theorem dL_act_341 : decode cL_act 341 = .ok (.goto 5, 3) := by decide +kernel
theorem dL_act_344 : decode cL_act 344 = .ok (.bipush 15, 2) := by decide +kernel
theorem dL_act_346 : decode cL_act 346 = .ok (.invokestatic 71, 3) := by decide +kernel
theorem dL_act_349 : decode cL_act 349 = .ok (.iadd, 1) := by decide +kernel
theorem dL_act_350 : decode cL_act 350 = .ok (.iconst 0, 1) := by decide +kernel
theorem dL_act_351 : decode cL_act 351 = .ok (.iconst 0, 1) := by decide +kernel
theorem dL_act_352 : decode cL_act 352 = .ok (.iconst 0, 1) := by decide +kernel
theorem dL_act_353 : decode cL_act 353 = .ok (.invokestatic 77, 3) := by decide +kernel
theorem dL_act_356 : decode cL_act 356 = .ok (.ireturn, 1) := by decide +kernel
theorem dL_act_357 : decode cL_act 357 = .ok (.iload_n 3, 1) := by decide +kernel
theorem dL_act_358 : decode cL_act 358 = .ok (.bipush 30, 2) := by decide +kernel
theorem dL_act_360 : decode cL_act 360 = .ok (.if_icmp .ge 30, 3) := by decide +kernel
theorem dL_act_363 : decode cL_act 363 = .ok (.aload_n 0, 1) := by decide +kernel
theorem dL_act_364 : decode cL_act 364 = .ok (.bipush 6, 2) := by decide +kernel
theorem dL_act_366 : decode cL_act 366 = .ok (.iload 4, 2) := by decide +kernel
theorem dL_act_368 : decode cL_act 368 = .ok (.iload_n 1, 1) := by decide +kernel
theorem dL_act_369 : decode cL_act 369 = .ok (.bipush 7, 2) := by decide +kernel
theorem dL_act_371 : decode cL_act 371 = .ok (.ishr, 1) := by decide +kernel
theorem dL_act_372 : decode cL_act 372 = .ok (.iload_n 2, 1) := by decide +kernel
theorem dL_act_373 : decode cL_act 373 = .ok (.ifCond .eq 7, 3) := by decide +kernel
theorem dL_act_376 : decode cL_act 376 = .ok (.iconst 5, 1) := by decide +kernel
theorem dL_act_377 : decode cL_act 377 = .ok (.goto 4, 3) := by decide +kernel
theorem dL_act_380 : decode cL_act 380 = .ok (.iconst 4, 1) := by decide +kernel
theorem dL_act_381 : decode cL_act 381 = .ok (.invokestatic 71, 3) := by decide +kernel
theorem dL_act_384 : decode cL_act 384 = .ok (.iconst 0, 1) := by decide +kernel
theorem dL_act_385 : decode cL_act 385 = .ok (.iconst 0, 1) := by decide +kernel
theorem dL_act_386 : decode cL_act 386 = .ok (.invokestatic 77, 3) := by decide +kernel
theorem dL_act_389 : decode cL_act 389 = .ok (.ireturn, 1) := by decide +kernel
theorem dL_act_390 : decode cL_act 390 = .ok (.iload_n 3, 1) := by decide +kernel
theorem dL_act_391 : decode cL_act 391 = .ok (.bipush 30, 2) := by decide +kernel
theorem dL_act_393 : decode cL_act 393 = .ok (.if_icmp .ne 16, 3) := by decide +kernel
theorem dL_act_396 : decode cL_act 396 = .ok (.aload_n 0, 1) := by decide +kernel
theorem dL_act_397 : decode cL_act 397 = .ok (.bipush 7, 2) := by decide +kernel
theorem dL_act_399 : decode cL_act 399 = .ok (.iconst 0, 1) := by decide +kernel
theorem dL_act_400 : decode cL_act 400 = .ok (.iconst 0, 1) := by decide +kernel
theorem dL_act_401 : decode cL_act 401 = .ok (.iconst 0, 1) := by decide +kernel
theorem dL_act_402 : decode cL_act 402 = .ok (.iconst 0, 1) := by decide +kernel
theorem dL_act_403 : decode cL_act 403 = .ok (.invokestatic 77, 3) := by decide +kernel
theorem dL_act_406 : decode cL_act 406 = .ok (.goto 81, 3) := by decide +kernel
theorem dL_act_409 : decode cL_act 409 = .ok (.iload_n 1, 1) := by decide +kernel
theorem dL_act_410 : decode cL_act 410 = .ok (.bipush 8, 2) := by decide +kernel
theorem dL_act_412 : decode cL_act 412 = .ok (.ishr, 1) := by decide +kernel
theorem dL_act_413 : decode cL_act 413 = .ok (.iconst 1, 1) := by decide +kernel
theorem dL_act_414 : decode cL_act 414 = .ok (.iand, 1) := by decide +kernel
theorem dL_act_415 : decode cL_act 415 = .ok (.ifCond .ne 10, 3) := by decide +kernel
theorem dL_act_418 : decode cL_act 418 = .ok (.aload_n 0, 1) := by decide +kernel
theorem dL_act_419 : decode cL_act 419 = .ok (.invokevirtual 81, 3) := by decide +kernel
theorem dL_act_422 : decode cL_act 422 = .ok (.goto 65, 3) := by decide +kernel
theorem dL_act_425 : decode cL_act 425 = .ok (.aload_n 0, 1) := by decide +kernel
theorem dL_act_426 : decode cL_act 426 = .ok (.bipush 8, 2) := by decide +kernel
theorem dL_act_428 : decode cL_act 428 = .ok (.iload_n 2, 1) := by decide +kernel
theorem dL_act_429 : decode cL_act 429 = .ok (.ifCond .eq 15, 3) := by decide +kernel
theorem dL_act_432 : decode cL_act 432 = .ok (.iload_n 1, 1) := by decide +kernel
theorem dL_act_433 : decode cL_act 433 = .ok (.bipush 9, 2) := by decide +kernel
theorem dL_act_435 : decode cL_act 435 = .ok (.ishr, 1) := by decide +kernel
theorem dL_act_436 : decode cL_act 436 = .ok (.bipush 8, 2) := by decide +kernel
theorem dL_act_438 : decode cL_act 438 = .ok (.invokestatic 71, 3) := by decide +kernel
theorem dL_act_441 : decode cL_act 441 = .ok (.goto 13, 3) := by decide +kernel
theorem dL_act_444 : decode cL_act 444 = .ok (.iconst 2, 1) := by decide +kernel
theorem dL_act_445 : decode cL_act 445 = .ok (.iload_n 1, 1) := by decide +kernel
theorem dL_act_446 : decode cL_act 446 = .ok (.bipush 9, 2) := by decide +kernel
theorem dL_act_448 : decode cL_act 448 = .ok (.ishr, 1) := by decide +kernel
theorem dL_act_449 : decode cL_act 449 = .ok (.iconst 3, 1) := by decide +kernel
theorem dL_act_450 : decode cL_act 450 = .ok (.invokestatic 71, 3) := by decide +kernel
theorem dL_act_453 : decode cL_act 453 = .ok (.iadd, 1) := by decide +kernel
theorem dL_act_454 : decode cL_act 454 = .ok (.iload_n 2, 1) := by decide +kernel
theorem dL_act_455 : decode cL_act 455 = .ok (.ifCond .eq 15, 3) := by decide +kernel
theorem dL_act_458 : decode cL_act 458 = .ok (.iload_n 1, 1) := by decide +kernel
theorem dL_act_459 : decode cL_act 459 = .ok (.bipush 12, 2) := by decide +kernel
theorem dL_act_461 : decode cL_act 461 = .ok (.ishr, 1) := by decide +kernel
theorem dL_act_462 : decode cL_act 462 = .ok (.bipush 100, 2) := by decide +kernel
theorem dL_act_464 : decode cL_act 464 = .ok (.invokestatic 71, 3) := by decide +kernel
theorem dL_act_467 : decode cL_act 467 = .ok (.goto 15, 3) := by decide +kernel
theorem dL_act_470 : decode cL_act 470 = .ok (.bipush 30, 2) := by decide +kernel
theorem dL_act_472 : decode cL_act 472 = .ok (.iload_n 1, 1) := by decide +kernel
theorem dL_act_473 : decode cL_act 473 = .ok (.bipush 12, 2) := by decide +kernel
theorem dL_act_475 : decode cL_act 475 = .ok (.ishr, 1) := by decide +kernel
theorem dL_act_476 : decode cL_act 476 = .ok (.bipush 31, 2) := by decide +kernel
theorem dL_act_478 : decode cL_act 478 = .ok (.invokestatic 71, 3) := by decide +kernel
theorem dL_act_481 : decode cL_act 481 = .ok (.iadd, 1) := by decide +kernel
theorem dL_act_482 : decode cL_act 482 = .ok (.iconst 0, 1) := by decide +kernel
theorem dL_act_483 : decode cL_act 483 = .ok (.iconst 0, 1) := by decide +kernel
theorem dL_act_484 : decode cL_act 484 = .ok (.invokestatic 77, 3) := by decide +kernel
theorem dL_act_487 : decode cL_act 487 = .ok (.ireturn, 1) := by decide +kernel
theorem dL_areAlike_0 : decode cL_areAlike 0 = .ok (.aload_n 0, 1) := by decide +kernel
theorem dL_areAlike_1 : decode cL_areAlike 1 = .ok (.invokevirtual 74, 3) := by decide +kernel
theorem dL_areAlike_4 : decode cL_areAlike 4 = .ok (.aload_n 1, 1) := by decide +kernel
theorem dL_areAlike_5 : decode cL_areAlike 5 = .ok (.invokevirtual 74, 3) := by decide +kernel
theorem dL_areAlike_8 : decode cL_areAlike 8 = .ok (.if_icmp .ne 66, 3) := by decide +kernel
theorem dL_areAlike_11 : decode cL_areAlike 11 = .ok (.aload_n 0, 1) := by decide +kernel
theorem dL_areAlike_12 : decode cL_areAlike 12 = .ok (.invokevirtual 81, 3) := by decide +kernel
theorem dL_areAlike_15 : decode cL_areAlike 15 = .ok (.aload_n 1, 1) := by decide +kernel
theorem dL_areAlike_16 : decode cL_areAlike 16 = .ok (.invokevirtual 81, 3) := by decide +kernel
theorem dL_areAlike_19 : decode cL_areAlike 19 = .ok (.if_icmp .ne 55, 3) := by decide +kernel
theorem dL_areAlike_22 : decode cL_areAlike 22 = .ok (.aload_n 0, 1) := by decide +kernel
theorem dL_areAlike_23 : decode cL_areAlike 23 = .ok (.invokevirtual 84, 3) := by decide +kernel
theorem dL_areAlike_26 : decode cL_areAlike 26 = .ok (.aload_n 1, 1) := by decide +kernel
theorem dL_areAlike_27 : decode cL_areAlike 27 = .ok (.invokevirtual 84, 3) := by decide +kernel
theorem dL_areAlike_30 : decode cL_areAlike 30 = .ok (.if_icmp .ne 44, 3) := by decide +kernel
theorem dL_areAlike_33 : decode cL_areAlike 33 = .ok (.aload_n 0, 1) := by decide +kernel
theorem dL_areAlike_34 : decode cL_areAlike 34 = .ok (.invokevirtual 87, 3) := by decide +kernel
theorem dL_areAlike_37 : decode cL_areAlike 37 = .ok (.aload_n 1, 1) := by decide +kernel
theorem dL_areAlike_38 : decode cL_areAlike 38 = .ok (.invokevirtual 87, 3) := by decide +kernel
theorem dL_areAlike_41 : decode cL_areAlike 41 = .ok (.if_icmp .ne 33, 3) := by decide +kernel
theorem dL_areAlike_44 : decode cL_areAlike 44 = .ok (.aload_n 0, 1) := by decide +kernel
theorem dL_areAlike_45 : decode cL_areAlike 45 = .ok (.iconst 1, 1) := by decide +kernel
theorem dL_areAlike_46 : decode cL_areAlike 46 = .ok (.invokestatic 90, 3) := by decide +kernel
theorem dL_areAlike_49 : decode cL_areAlike 49 = .ok (.aload_n 1, 1) := by decide +kernel
theorem dL_areAlike_50 : decode cL_areAlike 50 = .ok (.iconst 1, 1) := by decide +kernel
theorem dL_areAlike_51 : decode cL_areAlike 51 = .ok (.invokestatic 90, 3) := by decide +kernel
theorem dL_areAlike_54 : decode cL_areAlike 54 = .ok (.if_icmp .ne 20, 3) := by decide +kernel
theorem dL_areAlike_57 : decode cL_areAlike 57 = .ok (.aload_n 0, 1) := by decide +kernel
theorem dL_areAlike_58 : decode cL_areAlike 58 = .ok (.iconst 0, 1) := by decide +kernel
theorem dL_areAlike_59 : decode cL_areAlike 59 = .ok (.invokestatic 90, 3) := by decide +kernel
theorem dL_areAlike_62 : decode cL_areAlike 62 = .ok (.aload_n 1, 1) := by decide +kernel
theorem dL_areAlike_63 : decode cL_areAlike 63 = .ok (.iconst 0, 1) := by decide +kernel
theorem dL_areAlike_64 : decode cL_areAlike 64 = .ok (.invokestatic 90, 3) := by decide +kernel
theorem dL_areAlike_67 : decode cL_areAlike 67 = .ok (.if_icmp .ne 7, 3) := by decide +kernel
theorem dL_areAlike_70 : decode cL_areAlike 70 = .ok (.iconst 1, 1) := by decide +kernel
theorem dL_areAlike_71 : decode cL_areAlike 71 = .ok (.goto 4, 3) := by decide +kernel
theorem dL_areAlike_74 : decode cL_areAlike 74 = .ok (.iconst 0, 1) := by decide +kernel
theorem dL_areAlike_75 : decode cL_areAlike 75 = .ok (.istore_n 2, 1) := by decide +kernel
theorem dL_areAlike_76 : decode cL_areAlike 76 = .ok (.iconst 0, 1) := by decide +kernel
theorem dL_areAlike_77 : decode cL_areAlike 77 = .ok (.istore_n 3, 1) := by decide +kernel
theorem dL_areAlike_78 : decode cL_areAlike 78 = .ok (.iload_n 3, 1) := by decide +kernel
theorem dL_areAlike_79 : decode cL_areAlike 79 = .ok (.aload_n 0, 1) := by decide +kernel
theorem dL_areAlike_80 : decode cL_areAlike 80 = .ok (.invokevirtual 74, 3) := by decide +kernel
theorem dL_areAlike_83 : decode cL_areAlike 83 = .ok (.if_icmp .ge 101, 3) := by decide +kernel
theorem dL_areAlike_86 : decode cL_areAlike 86 = .ok (.iload_n 2, 1) := by decide +kernel
theorem dL_areAlike_87 : decode cL_areAlike 87 = .ok (.ifCond .eq 97, 3) := by decide +kernel
theorem dL_areAlike_90 : decode cL_areAlike 90 = .ok (.aload_n 0, 1) := by decide +kernel
theorem dL_areAlike_91 : decode cL_areAlike 91 = .ok (.iload_n 3, 1) := by decide +kernel
theorem dL_areAlike_92 : decode cL_areAlike 92 = .ok (.invokevirtual 93, 3) := by decide +kernel
theorem dL_areAlike_95 : decode cL_areAlike 95 = .ok (.aload_n 1, 1) := by decide +kernel
theorem dL_areAlike_96 : decode cL_areAlike 96 = .ok (.iload_n 3, 1) := by decide +kernel
theorem dL_areAlike_97 : decode cL_areAlike 97 = .ok (.invokevirtual 93, 3) := by decide +kernel
theorem dL_areAlike_100 : decode cL_areAlike 100 = .ok (.if_icmp .ne 76, 3) := by decide +kernel
theorem dL_areAlike_103 : decode cL_areAlike 103 = .ok (.aload_n 0, 1) := by decide +kernel
theorem dL_areAlike_104 : decode cL_areAlike 104 = .ok (.iload_n 3, 1) := by decide +kernel
theorem dL_areAlike_105 : decode cL_areAlike 105 = .ok (.invokevirtual 97, 3) := by decide +kernel
theorem dL_areAlike_108 : decode cL_areAlike 108 = .ok (.aload_n 1, 1) := by decide +kernel
theorem dL_areAlike_109 : decode cL_areAlike 109 = .ok (.iload_n 3, 1) := by decide +kernel
theorem dL_areAlike_110 : decode cL_areAlike 110 = .ok (.invokevirtual 97, 3) := by decide +kernel
theorem dL_areAlike_113 : decode cL_areAlike 113 = .ok (.if_icmp .ne 63, 3) := by decide +kernel
theorem dL_areAlike_116 : decode cL_areAlike 116 = .ok (.aload_n 0, 1) := by decide +kernel
theorem dL_areAlike_117 : decode cL_areAlike 117 = .ok (.iload_n 3, 1) := by decide +kernel
theorem dL_areAlike_118 : decode cL_areAlike 118 = .ok (.invokevirtual 100, 3) := by decide +kernel
theorem dL_areAlike_121 : decode cL_areAlike 121 = .ok (.aload_n 1, 1) := by decide +kernel
theorem dL_areAlike_122 : decode cL_areAlike 122 = .ok (.iload_n 3, 1) := by decide +kernel
theorem dL_areAlike_123 : decode cL_areAlike 123 = .ok (.invokevirtual 100, 3) := by decide +kernel
theorem dL_areAlike_126 : decode cL_areAlike 126 = .ok (.if_icmp .ne 50, 3) := by decide +kernel
theorem dL_areAlike_129 : decode cL_areAlike 129 = .ok (.aload_n 0, 1) := by decide +kernel
theorem dL_areAlike_130 : decode cL_areAlike 130 = .ok (.iload_n 3, 1) := by decide +kernel
theorem dL_areAlike_131 : decode cL_areAlike 131 = .ok (.invokestatic 103, 3) := by decide +kernel
theorem dL_areAlike_134 : decode cL_areAlike 134 = .ok (.aload_n 1, 1) := by decide +kernel
theorem dL_areAlike_135 : decode cL_areAlike 135 = .ok (.iload_n 3, 1) := by decide +kernel
theorem dL_areAlike_136 : decode cL_areAlike 136 = .ok (.invokestatic 103, 3) := by decide +kernel
theorem dL_areAlike_139 : decode cL_areAlike 139 = .ok (.if_icmp .ne 37, 3) := by decide +kernel
theorem dL_areAlike_142 : decode cL_areAlike 142 = .ok (.aload_n 0, 1) := by decide +kernel
theorem dL_areAlike_143 : decode cL_areAlike 143 = .ok (.iload_n 3, 1) := by decide +kernel
theorem dL_areAlike_144 : decode cL_areAlike 144 = .ok (.iconst 0, 1) := by decide +kernel
theorem dL_areAlike_145 : decode cL_areAlike 145 = .ok (.invokestatic 106, 3) := by decide +kernel
theorem dL_areAlike_148 : decode cL_areAlike 148 = .ok (.aload_n 1, 1) := by decide +kernel
theorem dL_areAlike_149 : decode cL_areAlike 149 = .ok (.iload_n 3, 1) := by decide +kernel
theorem dL_areAlike_150 : decode cL_areAlike 150 = .ok (.iconst 0, 1) := by decide +kernel
theorem dL_areAlike_151 : decode cL_areAlike 151 = .ok (.invokestatic 106, 3) := by decide +kernel
theorem dL_areAlike_154 : decode cL_areAlike 154 = .ok (.if_icmp .ne 22, 3) := by decide +kernel
theorem dL_areAlike_157 : decode cL_areAlike 157 = .ok (.aload_n 0, 1) := by decide +kernel
theorem dL_areAlike_158 : decode cL_areAlike 158 = .ok (.iload_n 3, 1) := by decide +kernel
theorem dL_areAlike_159 : decode cL_areAlike 159 = .ok (.iconst 0, 1) := by decide +kernel
theorem dL_areAlike_160 : decode cL_areAlike 160 = .ok (.invokevirtual 108, 3) := by decide +kernel
theorem dL_areAlike_163 : decode cL_areAlike 163 = .ok (.aload_n 1, 1) := by decide +kernel
theorem dL_areAlike_164 : decode cL_areAlike 164 = .ok (.iload_n 3, 1) := by decide +kernel
theorem dL_areAlike_165 : decode cL_areAlike 165 = .ok (.iconst 0, 1) := by decide +kernel
theorem dL_areAlike_166 : decode cL_areAlike 166 = .ok (.invokevirtual 108, 3) := by decide +kernel
theorem dL_areAlike_169 : decode cL_areAlike 169 = .ok (.if_icmp .ne 7, 3) := by decide +kernel
theorem dL_areAlike_172 : decode cL_areAlike 172 = .ok (.iconst 1, 1) := by decide +kernel
theorem dL_areAlike_173 : decode cL_areAlike 173 = .ok (.goto 4, 3) := by decide +kernel
theorem dL_areAlike_176 : decode cL_areAlike 176 = .ok (.iconst 0, 1) := by decide +kernel
theorem dL_areAlike_177 : decode cL_areAlike 177 = .ok (.istore_n 2, 1) := by decide +kernel
theorem dL_areAlike_178 : decode cL_areAlike 178 = .ok (.iinc 3 1, 3) := by decide +kernel
theorem dL_areAlike_181 : decode cL_areAlike 181 = .ok (.goto (-103), 3) := by decide +kernel
theorem dL_areAlike_184 : decode cL_areAlike 184 = .ok (.iload_n 2, 1) := by decide +kernel
theorem dL_areAlike_185 : decode cL_areAlike 185 = .ok (.ireturn, 1) := by decide +kernel
theorem dL_cycle_0 : decode cL_cycle 0 = .ok (.iconst 0, 1) := by decide +kernel
theorem dL_cycle_1 : decode cL_cycle 1 = .ok (.istore_n 2, 1) := by decide +kernel
theorem dL_cycle_2 : decode cL_cycle 2 = .ok (.iconst 0, 1) := by decide +kernel
theorem dL_cycle_3 : decode cL_cycle 3 = .ok (.istore_n 3, 1) := by decide +kernel
theorem dL_cycle_4 : decode cL_cycle 4 = .ok (.aload_n 0, 1) := by decide +kernel
theorem dL_cycle_5 : decode cL_cycle 5 = .ok (.iload_n 1, 1) := by decide +kernel
theorem dL_cycle_6 : decode cL_cycle 6 = .ok (.iload_n 3, 1) := by decide +kernel
theorem dL_cycle_7 : decode cL_cycle 7 = .ok (.invokestatic 106, 3) := by decide +kernel
theorem dL_cycle_10 : decode cL_cycle 10 = .ok (.ifCond .lt 25, 3) := by decide +kernel
theorem dL_cycle_13 : decode cL_cycle 13 = .ok (.iload_n 2, 1) := by decide +kernel
theorem dL_cycle_14 : decode cL_cycle 14 = .ok (.aload_n 0, 1) := by decide +kernel
theorem dL_cycle_15 : decode cL_cycle 15 = .ok (.iload_n 1, 1) := by decide +kernel
theorem dL_cycle_16 : decode cL_cycle 16 = .ok (.iload_n 3, 1) := by decide +kernel
theorem dL_cycle_17 : decode cL_cycle 17 = .ok (.invokestatic 106, 3) := by decide +kernel
theorem dL_cycle_20 : decode cL_cycle 20 = .ok (.aload_n 0, 1) := by decide +kernel
theorem dL_cycle_21 : decode cL_cycle 21 = .ok (.iload_n 1, 1) := by decide +kernel
theorem dL_cycle_22 : decode cL_cycle 22 = .ok (.iload_n 3, 1) := by decide +kernel
theorem dL_cycle_23 : decode cL_cycle 23 = .ok (.invokevirtual 108, 3) := by decide +kernel
theorem dL_cycle_26 : decode cL_cycle 26 = .ok (.iadd, 1) := by decide +kernel
theorem dL_cycle_27 : decode cL_cycle 27 = .ok (.iadd, 1) := by decide +kernel
theorem dL_cycle_28 : decode cL_cycle 28 = .ok (.istore_n 2, 1) := by decide +kernel
theorem dL_cycle_29 : decode cL_cycle 29 = .ok (.iinc 3 1, 3) := by decide +kernel
theorem dL_cycle_32 : decode cL_cycle 32 = .ok (.goto (-28), 3) := by decide +kernel
theorem dL_cycle_35 : decode cL_cycle 35 = .ok (.iload_n 2, 1) := by decide +kernel
theorem dL_cycle_36 : decode cL_cycle 36 = .ok (.ireturn, 1) := by decide +kernel
theorem dL_arePlansSo_0 : decode cL_arePlansSo 0 = .ok (.iconst 0, 1) := by decide +kernel
theorem dL_arePlansSo_1 : decode cL_arePlansSo 1 = .ok (.istore_n 2, 1) := by decide +kernel
theorem dL_arePlansSo_2 : decode cL_arePlansSo 2 = .ok (.iconst 1, 1) := by decide +kernel
theorem dL_arePlansSo_3 : decode cL_arePlansSo 3 = .ok (.istore_n 3, 1) := by decide +kernel
theorem dL_arePlansSo_4 : decode cL_arePlansSo 4 = .ok (.iconst 0, 1) := by decide +kernel
theorem dL_arePlansSo_5 : decode cL_arePlansSo 5 = .ok (.istore 4, 2) := by decide +kernel
theorem dL_arePlansSo_7 : decode cL_arePlansSo 7 = .ok (.iload 4, 2) := by decide +kernel
theorem dL_arePlansSo_9 : decode cL_arePlansSo 9 = .ok (.aload_n 0, 1) := by decide +kernel
theorem dL_arePlansSo_10 : decode cL_arePlansSo 10 = .ok (.invokevirtual 74, 3) := by decide +kernel
theorem dL_arePlansSo_13 : decode cL_arePlansSo 13 = .ok (.if_icmp .ge 335, 3) := by decide +kernel
theorem dL_arePlansSo_16 : decode cL_arePlansSo 16 = .ok (.iload_n 3, 1) := by decide +kernel
theorem dL_arePlansSo_17 : decode cL_arePlansSo 17 = .ok (.ifCond .eq 331, 3) := by decide +kernel
theorem dL_arePlansSo_20 : decode cL_arePlansSo 20 = .ok (.aload_n 0, 1) := by decide +kernel
theorem dL_arePlansSo_21 : decode cL_arePlansSo 21 = .ok (.iload 4, 2) := by decide +kernel
theorem dL_arePlansSo_23 : decode cL_arePlansSo 23 = .ok (.invokestatic 111, 3) := by decide +kernel
theorem dL_arePlansSo_26 : decode cL_arePlansSo 26 = .ok (.istore 5, 2) := by decide +kernel
theorem dL_arePlansSo_28 : decode cL_arePlansSo 28 = .ok (.aload_n 0, 1) := by decide +kernel
theorem dL_arePlansSo_29 : decode cL_arePlansSo 29 = .ok (.iload 4, 2) := by decide +kernel
theorem dL_arePlansSo_31 : decode cL_arePlansSo 31 = .ok (.invokevirtual 93, 3) := by decide +kernel
theorem dL_arePlansSo_34 : decode cL_arePlansSo 34 = .ok (.iload 5, 2) := by decide +kernel
theorem dL_arePlansSo_36 : decode cL_arePlansSo 36 = .ok (.ifCond .le 7, 3) := by decide +kernel
theorem dL_arePlansSo_39 : decode cL_arePlansSo 39 = .ok (.iconst 1, 1) := by decide +kernel
theorem dL_arePlansSo_40 : decode cL_arePlansSo 40 = .ok (.goto 4, 3) := by decide +kernel
theorem dL_arePlansSo_43 : decode cL_arePlansSo 43 = .ok (.iconst 0, 1) := by decide +kernel
theorem dL_arePlansSo_44 : decode cL_arePlansSo 44 = .ok (.if_icmp .ne 56, 3) := by decide +kernel
theorem dL_arePlansSo_47 : decode cL_arePlansSo 47 = .ok (.iload 5, 2) := by decide +kernel
theorem dL_arePlansSo_49 : decode cL_arePlansSo 49 = .ok (.ifCond .eq 27, 3) := by decide +kernel
theorem dL_arePlansSo_52 : decode cL_arePlansSo 52 = .ok (.iload 5, 2) := by decide +kernel
theorem dL_arePlansSo_54 : decode cL_arePlansSo 54 = .ok (.bipush 30, 2) := by decide +kernel
theorem dL_arePlansSo_56 : decode cL_arePlansSo 56 = .ok (.if_icmp .lt 44, 3) := by decide +kernel
theorem dL_arePlansSo_59 : decode cL_arePlansSo 59 = .ok (.iload 5, 2) := by decide +kernel
theorem dL_arePlansSo_61 : decode cL_arePlansSo 61 = .ok (.bipush 90, 2) := by decide +kernel
theorem dL_arePlansSo_63 : decode cL_arePlansSo 63 = .ok (.if_icmp .gt 37, 3) := by decide +kernel
theorem dL_arePlansSo_66 : decode cL_arePlansSo 66 = .ok (.iload_n 2, 1) := by decide +kernel
theorem dL_arePlansSo_67 : decode cL_arePlansSo 67 = .ok (.ifCond .eq 9, 3) := by decide +kernel
theorem dL_arePlansSo_70 : decode cL_arePlansSo 70 = .ok (.iload_n 2, 1) := by decide +kernel
theorem dL_arePlansSo_71 : decode cL_arePlansSo 71 = .ok (.iload 5, 2) := by decide +kernel
theorem dL_arePlansSo_73 : decode cL_arePlansSo 73 = .ok (.if_icmp .ne 27, 3) := by decide +kernel
theorem dL_arePlansSo_76 : decode cL_arePlansSo 76 = .ok (.aload_n 0, 1) := by decide +kernel
theorem dL_arePlansSo_77 : decode cL_arePlansSo 77 = .ok (.iload 4, 2) := by decide +kernel
theorem dL_arePlansSo_79 : decode cL_arePlansSo 79 = .ok (.invokevirtual 97, 3) := by decide +kernel
theorem dL_arePlansSo_82 : decode cL_arePlansSo 82 = .ok (.ifCond .lt 18, 3) := by decide +kernel
theorem dL_arePlansSo_85 : decode cL_arePlansSo 85 = .ok (.aload_n 0, 1) := by decide +kernel
theorem dL_arePlansSo_86 : decode cL_arePlansSo 86 = .ok (.iload 4, 2) := by decide +kernel
theorem dL_arePlansSo_88 : decode cL_arePlansSo 88 = .ok (.invokevirtual 97, 3) := by decide +kernel
theorem dL_arePlansSo_91 : decode cL_arePlansSo 91 = .ok (.bipush 90, 2) := by decide +kernel
theorem dL_arePlansSo_93 : decode cL_arePlansSo 93 = .ok (.if_icmp .ge 7, 3) := by decide +kernel
theorem dL_arePlansSo_96 : decode cL_arePlansSo 96 = .ok (.iconst 1, 1) := by decide +kernel
theorem dL_arePlansSo_97 : decode cL_arePlansSo 97 = .ok (.goto 4, 3) := by decide +kernel
theorem dL_arePlansSo_100 : decode cL_arePlansSo 100 = .ok (.iconst 0, 1) := by decide +kernel
theorem dL_arePlansSo_101 : decode cL_arePlansSo 101 = .ok (.istore_n 3, 1) := by decide +kernel
theorem dL_arePlansSo_102 : decode cL_arePlansSo 102 = .ok (.iload 5, 2) := by decide +kernel
theorem dL_arePlansSo_104 : decode cL_arePlansSo 104 = .ok (.ifCond .le 8, 3) := by decide +kernel
theorem dL_arePlansSo_107 : decode cL_arePlansSo 107 = .ok (.iload 5, 2) := by decide +kernel
theorem dL_arePlansSo_109 : decode cL_arePlansSo 109 = .ok (.goto 4, 3) := by decide +kernel
theorem dL_arePlansSo_112 : decode cL_arePlansSo 112 = .ok (.iload_n 2, 1) := by decide +kernel
theorem dL_arePlansSo_113 : decode cL_arePlansSo 113 = .ok (.istore_n 2, 1) := by decide +kernel
theorem dL_arePlansSo_114 : decode cL_arePlansSo 114 = .ok (.iload 5, 2) := by decide +kernel
theorem dL_arePlansSo_116 : decode cL_arePlansSo 116 = .ok (.ifCond .le 226, 3) := by decide +kernel
theorem dL_arePlansSo_119 : decode cL_arePlansSo 119 = .ok (.iload_n 3, 1) := by decide +kernel
theorem dL_arePlansSo_120 : decode cL_arePlansSo 120 = .ok (.ifCond .eq 222, 3) := by decide +kernel
theorem dL_arePlansSo_123 : decode cL_arePlansSo 123 = .ok (.iconst 0, 1) := by decide +kernel
theorem dL_arePlansSo_124 : decode cL_arePlansSo 124 = .ok (.istore 6, 2) := by decide +kernel
theorem dL_arePlansSo_126 : decode cL_arePlansSo 126 = .ok (.iconst 0, 1) := by decide +kernel
theorem dL_arePlansSo_127 : decode cL_arePlansSo 127 = .ok (.istore 7, 2) := by decide +kernel
theorem dL_arePlansSo_129 : decode cL_arePlansSo 129 = .ok (.iload 7, 2) := by decide +kernel
theorem dL_arePlansSo_131 : decode cL_arePlansSo 131 = .ok (.iload 5, 2) := by decide +kernel
theorem dL_arePlansSo_133 : decode cL_arePlansSo 133 = .ok (.if_icmp .ge 111, 3) := by decide +kernel
theorem dL_arePlansSo_136 : decode cL_arePlansSo 136 = .ok (.iload_n 3, 1) := by decide +kernel
theorem dL_arePlansSo_137 : decode cL_arePlansSo 137 = .ok (.ifCond .eq 107, 3) := by decide +kernel
theorem dL_arePlansSo_140 : decode cL_arePlansSo 140 = .ok (.iconst 0, 1) := by decide +kernel
theorem dL_arePlansSo_141 : decode cL_arePlansSo 141 = .ok (.istore 8, 2) := by decide +kernel
theorem dL_arePlansSo_143 : decode cL_arePlansSo 143 = .ok (.iconst 0, 1) := by decide +kernel
theorem dL_arePlansSo_144 : decode cL_arePlansSo 144 = .ok (.istore 9, 2) := by decide +kernel
theorem dL_arePlansSo_146 : decode cL_arePlansSo 146 = .ok (.iload 9, 2) := by decide +kernel
theorem dL_arePlansSo_148 : decode cL_arePlansSo 148 = .ok (.iconst 4, 1) := by decide +kernel
theorem dL_arePlansSo_149 : decode cL_arePlansSo 149 = .ok (.if_icmp .ge 34, 3) := by decide +kernel
theorem dL_arePlansSo_152 : decode cL_arePlansSo 152 = .ok (.iload 8, 2) := by decide +kernel
theorem dL_arePlansSo_154 : decode cL_arePlansSo 154 = .ok (.aload_n 0, 1) := by decide +kernel
theorem dL_arePlansSo_155 : decode cL_arePlansSo 155 = .ok (.iload 4, 2) := by decide +kernel
theorem dL_arePlansSo_157 : decode cL_arePlansSo 157 = .ok (.iload 9, 2) := by decide +kernel
theorem dL_arePlansSo_159 : decode cL_arePlansSo 159 = .ok (.iload_n 1, 1) := by decide +kernel
theorem dL_arePlansSo_160 : decode cL_arePlansSo 160 = .ok (.iload 7, 2) := by decide +kernel
theorem dL_arePlansSo_162 : decode cL_arePlansSo 162 = .ok (.iadd, 1) := by decide +kernel
theorem dL_arePlansSo_163 : decode cL_arePlansSo 163 = .ok (.invokevirtual 114, 3) := by decide +kernel
theorem dL_arePlansSo_166 : decode cL_arePlansSo 166 = .ok (.ifCond .eq 7, 3) := by decide +kernel
theorem dL_arePlansSo_169 : decode cL_arePlansSo 169 = .ok (.iconst 1, 1) := by decide +kernel
theorem dL_arePlansSo_170 : decode cL_arePlansSo 170 = .ok (.goto 4, 3) := by decide +kernel
theorem dL_arePlansSo_173 : decode cL_arePlansSo 173 = .ok (.iconst 0, 1) := by decide +kernel
theorem dL_arePlansSo_174 : decode cL_arePlansSo 174 = .ok (.iadd, 1) := by decide +kernel
theorem dL_arePlansSo_175 : decode cL_arePlansSo 175 = .ok (.istore 8, 2) := by decide +kernel
theorem dL_arePlansSo_177 : decode cL_arePlansSo 177 = .ok (.iinc 9 1, 3) := by decide +kernel
theorem dL_arePlansSo_180 : decode cL_arePlansSo 180 = .ok (.goto (-34), 3) := by decide +kernel
theorem dL_arePlansSo_183 : decode cL_arePlansSo 183 = .ok (.aload_n 0, 1) := by decide +kernel
theorem dL_arePlansSo_184 : decode cL_arePlansSo 184 = .ok (.iload 4, 2) := by decide +kernel
theorem dL_arePlansSo_186 : decode cL_arePlansSo 186 = .ok (.iload 7, 2) := by decide +kernel
theorem dL_arePlansSo_188 : decode cL_arePlansSo 188 = .ok (.iconst 4, 1) := by decide +kernel
theorem dL_arePlansSo_189 : decode cL_arePlansSo 189 = .ok (.irem, 1) := by decide +kernel
theorem dL_arePlansSo_190 : decode cL_arePlansSo 190 = .ok (.iload_n 1, 1) := by decide +kernel
theorem dL_arePlansSo_191 : decode cL_arePlansSo 191 = .ok (.iload 7, 2) := by decide +kernel
theorem dL_arePlansSo_193 : decode cL_arePlansSo 193 = .ok (.iadd, 1) := by decide +kernel
theorem dL_arePlansSo_194 : decode cL_arePlansSo 194 = .ok (.invokevirtual 114, 3) := by decide +kernel
theorem dL_arePlansSo_197 : decode cL_arePlansSo 197 = .ok (.aload_n 0, 1) := by decide +kernel
theorem dL_arePlansSo_198 : decode cL_arePlansSo 198 = .ok (.iload 4, 2) := by decide +kernel
theorem dL_arePlansSo_200 : decode cL_arePlansSo 200 = .ok (.iload 7, 2) := by decide +kernel
theorem dL_arePlansSo_202 : decode cL_arePlansSo 202 = .ok (.iconst 4, 1) := by decide +kernel
theorem dL_arePlansSo_203 : decode cL_arePlansSo 203 = .ok (.irem, 1) := by decide +kernel
theorem dL_arePlansSo_204 : decode cL_arePlansSo 204 = .ok (.iload_n 1, 1) := by decide +kernel
theorem dL_arePlansSo_205 : decode cL_arePlansSo 205 = .ok (.iload 7, 2) := by decide +kernel
theorem dL_arePlansSo_207 : decode cL_arePlansSo 207 = .ok (.iadd, 1) := by decide +kernel
theorem dL_arePlansSo_208 : decode cL_arePlansSo 208 = .ok (.iload 5, 2) := by decide +kernel
theorem dL_arePlansSo_210 : decode cL_arePlansSo 210 = .ok (.iadd, 1) := by decide +kernel
theorem dL_arePlansSo_211 : decode cL_arePlansSo 211 = .ok (.invokevirtual 114, 3) := by decide +kernel
theorem dL_arePlansSo_214 : decode cL_arePlansSo 214 = .ok (.if_icmp .ne 7, 3) := by decide +kernel
theorem dL_arePlansSo_217 : decode cL_arePlansSo 217 = .ok (.iconst 1, 1) := by decide +kernel
theorem dL_arePlansSo_218 : decode cL_arePlansSo 218 = .ok (.goto 4, 3) := by decide +kernel
theorem dL_arePlansSo_221 : decode cL_arePlansSo 221 = .ok (.iconst 0, 1) := by decide +kernel
theorem dL_arePlansSo_222 : decode cL_arePlansSo 222 = .ok (.istore_n 3, 1) := by decide +kernel
theorem dL_arePlansSo_223 : decode cL_arePlansSo 223 = .ok (.iload 6, 2) := by decide +kernel
theorem dL_arePlansSo_225 : decode cL_arePlansSo 225 = .ok (.iload 8, 2) := by decide +kernel
theorem dL_arePlansSo_227 : decode cL_arePlansSo 227 = .ok (.ifCond .le 7, 3) := by decide +kernel
theorem dL_arePlansSo_230 : decode cL_arePlansSo 230 = .ok (.iconst 1, 1) := by decide +kernel
theorem dL_arePlansSo_231 : decode cL_arePlansSo 231 = .ok (.goto 4, 3) := by decide +kernel
theorem dL_arePlansSo_234 : decode cL_arePlansSo 234 = .ok (.iconst 0, 1) := by decide +kernel
theorem dL_arePlansSo_235 : decode cL_arePlansSo 235 = .ok (.iadd, 1) := by decide +kernel
theorem dL_arePlansSo_236 : decode cL_arePlansSo 236 = .ok (.istore 6, 2) := by decide +kernel
theorem dL_arePlansSo_238 : decode cL_arePlansSo 238 = .ok (.iinc 7 1, 3) := by decide +kernel
theorem dL_arePlansSo_241 : decode cL_arePlansSo 241 = .ok (.goto (-112), 3) := by decide +kernel
theorem dL_arePlansSo_244 : decode cL_arePlansSo 244 = .ok (.iconst 0, 1) := by decide +kernel
theorem dL_arePlansSo_245 : decode cL_arePlansSo 245 = .ok (.istore 7, 2) := by decide +kernel
theorem dL_arePlansSo_247 : decode cL_arePlansSo 247 = .ok (.iconst 0, 1) := by decide +kernel
theorem dL_arePlansSo_248 : decode cL_arePlansSo 248 = .ok (.istore 8, 2) := by decide +kernel
theorem dL_arePlansSo_250 : decode cL_arePlansSo 250 = .ok (.aload_n 0, 1) := by decide +kernel
theorem dL_arePlansSo_251 : decode cL_arePlansSo 251 = .ok (.iload 4, 2) := by decide +kernel
theorem dL_arePlansSo_253 : decode cL_arePlansSo 253 = .ok (.iload 8, 2) := by decide +kernel
theorem dL_arePlansSo_255 : decode cL_arePlansSo 255 = .ok (.invokestatic 106, 3) := by decide +kernel
theorem dL_arePlansSo_258 : decode cL_arePlansSo 258 = .ok (.ifCond .lt 44, 3) := by decide +kernel
theorem dL_arePlansSo_261 : decode cL_arePlansSo 261 = .ok (.iload 7, 2) := by decide +kernel
theorem dL_arePlansSo_263 : decode cL_arePlansSo 263 = .ok (.aload_n 0, 1) := by decide +kernel
theorem dL_arePlansSo_264 : decode cL_arePlansSo 264 = .ok (.iload 4, 2) := by decide +kernel
theorem dL_arePlansSo_266 : decode cL_arePlansSo 266 = .ok (.iload 8, 2) := by decide +kernel
theorem dL_arePlansSo_268 : decode cL_arePlansSo 268 = .ok (.invokevirtual 108, 3) := by decide +kernel
theorem dL_arePlansSo_271 : decode cL_arePlansSo 271 = .ok (.iadd, 1) := by decide +kernel
theorem dL_arePlansSo_272 : decode cL_arePlansSo 272 = .ok (.istore 7, 2) := by decide +kernel
theorem dL_arePlansSo_274 : decode cL_arePlansSo 274 = .ok (.iload_n 3, 1) := by decide +kernel
theorem dL_arePlansSo_275 : decode cL_arePlansSo 275 = .ok (.ifCond .eq 19, 3) := by decide +kernel
theorem dL_arePlansSo_278 : decode cL_arePlansSo 278 = .ok (.aload_n 0, 1) := by decide +kernel
theorem dL_arePlansSo_279 : decode cL_arePlansSo 279 = .ok (.iload 4, 2) := by decide +kernel
theorem dL_arePlansSo_281 : decode cL_arePlansSo 281 = .ok (.iload 8, 2) := by decide +kernel
theorem dL_arePlansSo_283 : decode cL_arePlansSo 283 = .ok (.invokestatic 106, 3) := by decide +kernel
theorem dL_arePlansSo_286 : decode cL_arePlansSo 286 = .ok (.iconst 5, 1) := by decide +kernel
theorem dL_arePlansSo_287 : decode cL_arePlansSo 287 = .ok (.if_icmp .lt 7, 3) := by decide +kernel
theorem dL_arePlansSo_290 : decode cL_arePlansSo 290 = .ok (.iconst 1, 1) := by decide +kernel
theorem dL_arePlansSo_291 : decode cL_arePlansSo 291 = .ok (.goto 4, 3) := by decide +kernel
theorem dL_arePlansSo_294 : decode cL_arePlansSo 294 = .ok (.iconst 0, 1) := by decide +kernel
theorem dL_arePlansSo_295 : decode cL_arePlansSo 295 = .ok (.istore_n 3, 1) := by decide +kernel
theorem dL_arePlansSo_296 : decode cL_arePlansSo 296 = .ok (.iinc 8 1, 3) := by decide +kernel
theorem dL_arePlansSo_299 : decode cL_arePlansSo 299 = .ok (.goto (-49), 3) := by decide +kernel
theorem dL_arePlansSo_302 : decode cL_arePlansSo 302 = .ok (.iload_n 3, 1) := by decide +kernel
theorem dL_arePlansSo_303 : decode cL_arePlansSo 303 = .ok (.ifCond .eq 37, 3) := by decide +kernel
theorem dL_arePlansSo_306 : decode cL_arePlansSo 306 = .ok (.iload 6, 2) := by decide +kernel
theorem dL_arePlansSo_308 : decode cL_arePlansSo 308 = .ok (.iload 5, 2) := by decide +kernel
theorem dL_arePlansSo_310 : decode cL_arePlansSo 310 = .ok (.iload 7, 2) := by decide +kernel
theorem dL_arePlansSo_312 : decode cL_arePlansSo 312 = .ok (.isub, 1) := by decide +kernel
theorem dL_arePlansSo_313 : decode cL_arePlansSo 313 = .ok (.if_icmp .ne 27, 3) := by decide +kernel
theorem dL_arePlansSo_316 : decode cL_arePlansSo 316 = .ok (.aload_n 0, 1) := by decide +kernel
theorem dL_arePlansSo_317 : decode cL_arePlansSo 317 = .ok (.iload 4, 2) := by decide +kernel
theorem dL_arePlansSo_319 : decode cL_arePlansSo 319 = .ok (.invokevirtual 118, 3) := by decide +kernel
theorem dL_arePlansSo_322 : decode cL_arePlansSo 322 = .ok (.ifCond .lt 18, 3) := by decide +kernel
theorem dL_arePlansSo_325 : decode cL_arePlansSo 325 = .ok (.aload_n 0, 1) := by decide +kernel
theorem dL_arePlansSo_326 : decode cL_arePlansSo 326 = .ok (.iload 4, 2) := by decide +kernel
theorem dL_arePlansSo_328 : decode cL_arePlansSo 328 = .ok (.invokevirtual 118, 3) := by decide +kernel
theorem dL_arePlansSo_331 : decode cL_arePlansSo 331 = .ok (.iload 5, 2) := by decide +kernel
theorem dL_arePlansSo_333 : decode cL_arePlansSo 333 = .ok (.if_icmp .gt 7, 3) := by decide +kernel
theorem dL_arePlansSo_336 : decode cL_arePlansSo 336 = .ok (.iconst 1, 1) := by decide +kernel
theorem dL_arePlansSo_337 : decode cL_arePlansSo 337 = .ok (.goto 4, 3) := by decide +kernel
theorem dL_arePlansSo_340 : decode cL_arePlansSo 340 = .ok (.iconst 0, 1) := by decide +kernel
theorem dL_arePlansSo_341 : decode cL_arePlansSo 341 = .ok (.istore_n 3, 1) := by decide +kernel
theorem dL_arePlansSo_342 : decode cL_arePlansSo 342 = .ok (.iinc 4 1, 3) := by decide +kernel
theorem dL_arePlansSo_345 : decode cL_arePlansSo 345 = .ok (.goto (-338), 3) := by decide +kernel
theorem dL_arePlansSo_348 : decode cL_arePlansSo 348 = .ok (.aload_n 0, 1) := by decide +kernel
theorem dL_arePlansSo_349 : decode cL_arePlansSo 349 = .ok (.iconst 1, 1) := by decide +kernel
theorem dL_arePlansSo_350 : decode cL_arePlansSo 350 = .ok (.invokestatic 90, 3) := by decide +kernel
theorem dL_arePlansSo_353 : decode cL_arePlansSo 353 = .ok (.istore 4, 2) := by decide +kernel
theorem dL_arePlansSo_355 : decode cL_arePlansSo 355 = .ok (.aload_n 0, 1) := by decide +kernel
theorem dL_arePlansSo_356 : decode cL_arePlansSo 356 = .ok (.iconst 0, 1) := by decide +kernel
theorem dL_arePlansSo_357 : decode cL_arePlansSo 357 = .ok (.invokestatic 90, 3) := by decide +kernel
theorem dL_arePlansSo_360 : decode cL_arePlansSo 360 = .ok (.istore 5, 2) := by decide +kernel
theorem dL_arePlansSo_362 : decode cL_arePlansSo 362 = .ok (.iload_n 3, 1) := by decide +kernel
theorem dL_arePlansSo_363 : decode cL_arePlansSo 363 = .ok (.ifCond .eq 52, 3) := by decide +kernel
theorem dL_arePlansSo_366 : decode cL_arePlansSo 366 = .ok (.iload 4, 2) := by decide +kernel
theorem dL_arePlansSo_368 : decode cL_arePlansSo 368 = .ok (.ifCond .lt 20, 3) := by decide +kernel
theorem dL_arePlansSo_371 : decode cL_arePlansSo 371 = .ok (.iload 4, 2) := by decide +kernel
theorem dL_arePlansSo_373 : decode cL_arePlansSo 373 = .ok (.iload_n 2, 1) := by decide +kernel
theorem dL_arePlansSo_374 : decode cL_arePlansSo 374 = .ok (.if_icmp .gt 41, 3) := by decide +kernel
theorem dL_arePlansSo_377 : decode cL_arePlansSo 377 = .ok (.iload 5, 2) := by decide +kernel
theorem dL_arePlansSo_379 : decode cL_arePlansSo 379 = .ok (.ifCond .lt 36, 3) := by decide +kernel
theorem dL_arePlansSo_382 : decode cL_arePlansSo 382 = .ok (.iload 5, 2) := by decide +kernel
theorem dL_arePlansSo_384 : decode cL_arePlansSo 384 = .ok (.iload_n 2, 1) := by decide +kernel
theorem dL_arePlansSo_385 : decode cL_arePlansSo 385 = .ok (.if_icmp .gt 30, 3) := by decide +kernel
theorem dL_arePlansSo_388 : decode cL_arePlansSo 388 = .ok (.iload 4, 2) := by decide +kernel
theorem dL_arePlansSo_390 : decode cL_arePlansSo 390 = .ok (.ifCond .ge 7, 3) := by decide +kernel
theorem dL_arePlansSo_393 : decode cL_arePlansSo 393 = .ok (.iconst 1, 1) := by decide +kernel
theorem dL_arePlansSo_394 : decode cL_arePlansSo 394 = .ok (.goto 4, 3) := by decide +kernel
theorem dL_arePlansSo_397 : decode cL_arePlansSo 397 = .ok (.iconst 0, 1) := by decide +kernel
theorem dL_arePlansSo_398 : decode cL_arePlansSo 398 = .ok (.iload 5, 2) := by decide +kernel
theorem dL_arePlansSo_400 : decode cL_arePlansSo 400 = .ok (.ifCond .ge 7, 3) := by decide +kernel
theorem dL_arePlansSo_403 : decode cL_arePlansSo 403 = .ok (.iconst 1, 1) := by decide +kernel
theorem dL_arePlansSo_404 : decode cL_arePlansSo 404 = .ok (.goto 4, 3) := by decide +kernel
theorem dL_arePlansSo_407 : decode cL_arePlansSo 407 = .ok (.iconst 0, 1) := by decide +kernel
theorem dL_arePlansSo_408 : decode cL_arePlansSo 408 = .ok (.if_icmp .ne 7, 3) := by decide +kernel
theorem dL_arePlansSo_411 : decode cL_arePlansSo 411 = .ok (.iconst 1, 1) := by decide +kernel
theorem dL_arePlansSo_412 : decode cL_arePlansSo 412 = .ok (.goto 4, 3) := by decide +kernel
theorem dL_arePlansSo_415 : decode cL_arePlansSo 415 = .ok (.iconst 0, 1) := by decide +kernel
theorem dL_arePlansSo_416 : decode cL_arePlansSo 416 = .ok (.ireturn, 1) := by decide +kernel
theorem dL_areVehiclesSo_0 : decode cL_areVehiclesSo 0 = .ok (.aload_n 0, 1) := by decide +kernel
theorem dL_areVehiclesSo_1 : decode cL_areVehiclesSo 1 = .ok (.invokevirtual 87, 3) := by decide +kernel
theorem dL_areVehiclesSo_4 : decode cL_areVehiclesSo 4 = .ok (.aload_n 0, 1) := by decide +kernel
theorem dL_areVehiclesSo_5 : decode cL_areVehiclesSo 5 = .ok (.iconst 0, 1) := by decide +kernel
theorem dL_areVehiclesSo_6 : decode cL_areVehiclesSo 6 = .ok (.invokevirtual 100, 3) := by decide +kernel
theorem dL_areVehiclesSo_9 : decode cL_areVehiclesSo 9 = .ok (.iadd, 1) := by decide +kernel
theorem dL_areVehiclesSo_10 : decode cL_areVehiclesSo 10 = .ok (.istore_n 1, 1) := by decide +kernel
theorem dL_areVehiclesSo_11 : decode cL_areVehiclesSo 11 = .ok (.aload_n 0, 1) := by decide +kernel
theorem dL_areVehiclesSo_12 : decode cL_areVehiclesSo 12 = .ok (.invokevirtual 81, 3) := by decide +kernel
theorem dL_areVehiclesSo_15 : decode cL_areVehiclesSo 15 = .ok (.ifCond .lt 43, 3) := by decide +kernel
theorem dL_areVehiclesSo_18 : decode cL_areVehiclesSo 18 = .ok (.aload_n 0, 1) := by decide +kernel
theorem dL_areVehiclesSo_19 : decode cL_areVehiclesSo 19 = .ok (.invokevirtual 81, 3) := by decide +kernel
theorem dL_areVehiclesSo_22 : decode cL_areVehiclesSo 22 = .ok (.sipush 7200, 3) := by decide +kernel
theorem dL_areVehiclesSo_25 : decode cL_areVehiclesSo 25 = .ok (.if_icmp .gt 33, 3) := by decide +kernel
theorem dL_areVehiclesSo_28 : decode cL_areVehiclesSo 28 = .ok (.iconst 2, 1) := by decide +kernel
theorem dL_areVehiclesSo_29 : decode cL_areVehiclesSo 29 = .ok (.aload_n 0, 1) := by decide +kernel
theorem dL_areVehiclesSo_30 : decode cL_areVehiclesSo 30 = .ok (.invokevirtual 84, 3) := by decide +kernel
theorem dL_areVehiclesSo_33 : decode cL_areVehiclesSo 33 = .ok (.imul, 1) := by decide +kernel
theorem dL_areVehiclesSo_34 : decode cL_areVehiclesSo 34 = .ok (.aload_n 0, 1) := by decide +kernel
theorem dL_areVehiclesSo_35 : decode cL_areVehiclesSo 35 = .ok (.invokevirtual 81, 3) := by decide +kernel
theorem dL_areVehiclesSo_38 : decode cL_areVehiclesSo 38 = .ok (.if_icmp .gt 20, 3) := by decide +kernel
theorem dL_areVehiclesSo_41 : decode cL_areVehiclesSo 41 = .ok (.iconst 2, 1) := by decide +kernel
theorem dL_areVehiclesSo_42 : decode cL_areVehiclesSo 42 = .ok (.aload_n 0, 1) := by decide +kernel
theorem dL_areVehiclesSo_43 : decode cL_areVehiclesSo 43 = .ok (.invokevirtual 87, 3) := by decide +kernel
theorem dL_areVehiclesSo_46 : decode cL_areVehiclesSo 46 = .ok (.imul, 1) := by decide +kernel
theorem dL_areVehiclesSo_47 : decode cL_areVehiclesSo 47 = .ok (.aload_n 0, 1) := by decide +kernel
theorem dL_areVehiclesSo_48 : decode cL_areVehiclesSo 48 = .ok (.invokevirtual 81, 3) := by decide +kernel
theorem dL_areVehiclesSo_51 : decode cL_areVehiclesSo 51 = .ok (.if_icmp .gt 7, 3) := by decide +kernel
theorem dL_areVehiclesSo_54 : decode cL_areVehiclesSo 54 = .ok (.iconst 1, 1) := by decide +kernel
theorem dL_areVehiclesSo_55 : decode cL_areVehiclesSo 55 = .ok (.goto 4, 3) := by decide +kernel
theorem dL_areVehiclesSo_58 : decode cL_areVehiclesSo 58 = .ok (.iconst 0, 1) := by decide +kernel
theorem dL_areVehiclesSo_59 : decode cL_areVehiclesSo 59 = .ok (.istore_n 2, 1) := by decide +kernel
theorem dL_areVehiclesSo_60 : decode cL_areVehiclesSo 60 = .ok (.iconst 0, 1) := by decide +kernel
theorem dL_areVehiclesSo_61 : decode cL_areVehiclesSo 61 = .ok (.istore_n 3, 1) := by decide +kernel
theorem dL_areVehiclesSo_62 : decode cL_areVehiclesSo 62 = .ok (.iload_n 3, 1) := by decide +kernel
theorem dL_areVehiclesSo_63 : decode cL_areVehiclesSo 63 = .ok (.aload_n 0, 1) := by decide +kernel
theorem dL_areVehiclesSo_64 : decode cL_areVehiclesSo 64 = .ok (.invokevirtual 74, 3) := by decide +kernel
theorem dL_areVehiclesSo_67 : decode cL_areVehiclesSo 67 = .ok (.if_icmp .ge 89, 3) := by decide +kernel
theorem dL_areVehiclesSo_70 : decode cL_areVehiclesSo 70 = .ok (.iload_n 2, 1) := by decide +kernel
theorem dL_areVehiclesSo_71 : decode cL_areVehiclesSo 71 = .ok (.ifCond .eq 85, 3) := by decide +kernel
theorem dL_areVehiclesSo_74 : decode cL_areVehiclesSo 74 = .ok (.iload_n 1, 1) := by decide +kernel
theorem dL_areVehiclesSo_75 : decode cL_areVehiclesSo 75 = .ok (.iload_n 3, 1) := by decide +kernel
theorem dL_areVehiclesSo_76 : decode cL_areVehiclesSo 76 = .ok (.aload_n 0, 1) := by decide +kernel
theorem dL_areVehiclesSo_77 : decode cL_areVehiclesSo 77 = .ok (.invokevirtual 74, 3) := by decide +kernel
theorem dL_areVehiclesSo_80 : decode cL_areVehiclesSo 80 = .ok (.iconst 1, 1) := by decide +kernel
theorem dL_areVehiclesSo_81 : decode cL_areVehiclesSo 81 = .ok (.isub, 1) := by decide +kernel
theorem dL_areVehiclesSo_82 : decode cL_areVehiclesSo 82 = .ok (.if_icmp .ge 11, 3) := by decide +kernel
theorem dL_areVehiclesSo_85 : decode cL_areVehiclesSo 85 = .ok (.aload_n 0, 1) := by decide +kernel
theorem dL_areVehiclesSo_86 : decode cL_areVehiclesSo 86 = .ok (.iload_n 3, 1) := by decide +kernel
theorem dL_areVehiclesSo_87 : decode cL_areVehiclesSo 87 = .ok (.invokevirtual 121, 3) := by decide +kernel
theorem dL_areVehiclesSo_90 : decode cL_areVehiclesSo 90 = .ok (.goto 4, 3) := by decide +kernel
theorem dL_areVehiclesSo_93 : decode cL_areVehiclesSo 93 = .ok (.iconst 0, 1) := by decide +kernel
theorem dL_areVehiclesSo_94 : decode cL_areVehiclesSo 94 = .ok (.iadd, 1) := by decide +kernel
theorem dL_areVehiclesSo_95 : decode cL_areVehiclesSo 95 = .ok (.istore_n 1, 1) := by decide +kernel
theorem dL_areVehiclesSo_96 : decode cL_areVehiclesSo 96 = .ok (.aload_n 0, 1) := by decide +kernel
theorem dL_areVehiclesSo_97 : decode cL_areVehiclesSo 97 = .ok (.iload_n 3, 1) := by decide +kernel
theorem dL_areVehiclesSo_98 : decode cL_areVehiclesSo 98 = .ok (.invokevirtual 100, 3) := by decide +kernel
theorem dL_areVehiclesSo_101 : decode cL_areVehiclesSo 101 = .ok (.ifCond .lt 47, 3) := by decide +kernel
theorem dL_areVehiclesSo_104 : decode cL_areVehiclesSo 104 = .ok (.iload_n 3, 1) := by decide +kernel
theorem dL_areVehiclesSo_105 : decode cL_areVehiclesSo 105 = .ok (.ifCond .eq 30, 3) := by decide +kernel
theorem dL_areVehiclesSo_108 : decode cL_areVehiclesSo 108 = .ok (.aload_n 0, 1) := by decide +kernel
theorem dL_areVehiclesSo_109 : decode cL_areVehiclesSo 109 = .ok (.iload_n 3, 1) := by decide +kernel
theorem dL_areVehiclesSo_110 : decode cL_areVehiclesSo 110 = .ok (.iconst 1, 1) := by decide +kernel
theorem dL_areVehiclesSo_111 : decode cL_areVehiclesSo 111 = .ok (.isub, 1) := by decide +kernel
theorem dL_areVehiclesSo_112 : decode cL_areVehiclesSo 112 = .ok (.invokevirtual 121, 3) := by decide +kernel
theorem dL_areVehiclesSo_115 : decode cL_areVehiclesSo 115 = .ok (.aload_n 0, 1) := by decide +kernel
theorem dL_areVehiclesSo_116 : decode cL_areVehiclesSo 116 = .ok (.iload_n 3, 1) := by decide +kernel
theorem dL_areVehiclesSo_117 : decode cL_areVehiclesSo 117 = .ok (.invokevirtual 100, 3) := by decide +kernel
theorem dL_areVehiclesSo_120 : decode cL_areVehiclesSo 120 = .ok (.if_icmp .lt 28, 3) := by decide +kernel
theorem dL_areVehiclesSo_123 : decode cL_areVehiclesSo 123 = .ok (.aload_n 0, 1) := by decide +kernel
theorem dL_areVehiclesSo_124 : decode cL_areVehiclesSo 124 = .ok (.iload_n 3, 1) := by decide +kernel
theorem dL_areVehiclesSo_125 : decode cL_areVehiclesSo 125 = .ok (.iconst 1, 1) := by decide +kernel
theorem dL_areVehiclesSo_126 : decode cL_areVehiclesSo 126 = .ok (.isub, 1) := by decide +kernel
theorem dL_areVehiclesSo_127 : decode cL_areVehiclesSo 127 = .ok (.invokevirtual 121, 3) := by decide +kernel
theorem dL_areVehiclesSo_130 : decode cL_areVehiclesSo 130 = .ok (.bipush 40, 2) := by decide +kernel
theorem dL_areVehiclesSo_132 : decode cL_areVehiclesSo 132 = .ok (.if_icmp .gt 16, 3) := by decide +kernel
theorem dL_areVehiclesSo_135 : decode cL_areVehiclesSo 135 = .ok (.aload_n 0, 1) := by decide +kernel
theorem dL_areVehiclesSo_136 : decode cL_areVehiclesSo 136 = .ok (.iload_n 3, 1) := by decide +kernel
theorem dL_areVehiclesSo_137 : decode cL_areVehiclesSo 137 = .ok (.invokestatic 103, 3) := by decide +kernel
theorem dL_areVehiclesSo_140 : decode cL_areVehiclesSo 140 = .ok (.iconst 4, 1) := by decide +kernel
theorem dL_areVehiclesSo_141 : decode cL_areVehiclesSo 141 = .ok (.if_icmp .ge 7, 3) := by decide +kernel
theorem dL_areVehiclesSo_144 : decode cL_areVehiclesSo 144 = .ok (.iconst 1, 1) := by decide +kernel
theorem dL_areVehiclesSo_145 : decode cL_areVehiclesSo 145 = .ok (.goto 4, 3) := by decide +kernel
theorem dL_areVehiclesSo_148 : decode cL_areVehiclesSo 148 = .ok (.iconst 0, 1) := by decide +kernel
theorem dL_areVehiclesSo_149 : decode cL_areVehiclesSo 149 = .ok (.istore_n 2, 1) := by decide +kernel
theorem dL_areVehiclesSo_150 : decode cL_areVehiclesSo 150 = .ok (.iinc 3 1, 3) := by decide +kernel
theorem dL_areVehiclesSo_153 : decode cL_areVehiclesSo 153 = .ok (.goto (-91), 3) := by decide +kernel
theorem dL_areVehiclesSo_156 : decode cL_areVehiclesSo 156 = .ok (.iload_n 2, 1) := by decide +kernel
theorem dL_areVehiclesSo_157 : decode cL_areVehiclesSo 157 = .ok (.ifCond .eq 15, 3) := by decide +kernel
theorem dL_areVehiclesSo_160 : decode cL_areVehiclesSo 160 = .ok (.aload_n 0, 1) := by decide +kernel
theorem dL_areVehiclesSo_161 : decode cL_areVehiclesSo 161 = .ok (.invokevirtual 84, 3) := by decide +kernel
theorem dL_areVehiclesSo_164 : decode cL_areVehiclesSo 164 = .ok (.iload_n 1, 1) := by decide +kernel
theorem dL_areVehiclesSo_165 : decode cL_areVehiclesSo 165 = .ok (.if_icmp .ne 7, 3) := by decide +kernel
theorem dL_areVehiclesSo_168 : decode cL_areVehiclesSo 168 = .ok (.iconst 1, 1) := by decide +kernel
theorem dL_areVehiclesSo_169 : decode cL_areVehiclesSo 169 = .ok (.goto 4, 3) := by decide +kernel
theorem dL_areVehiclesSo_172 : decode cL_areVehiclesSo 172 = .ok (.iconst 0, 1) := by decide +kernel
theorem dL_areVehiclesSo_173 : decode cL_areVehiclesSo 173 = .ok (.ireturn, 1) := by decide +kernel
theorem dL_isCalledSo_0 : decode cL_isCalledSo 0 = .ok (.aload_n 0, 1) := by decide +kernel
theorem dL_isCalledSo_1 : decode cL_isCalledSo 1 = .ok (.iload_n 2, 1) := by decide +kernel
theorem dL_isCalledSo_2 : decode cL_isCalledSo 2 = .ok (.invokestatic 103, 3) := by decide +kernel
theorem dL_isCalledSo_5 : decode cL_isCalledSo 5 = .ok (.istore 4, 2) := by decide +kernel
theorem dL_isCalledSo_7 : decode cL_isCalledSo 7 = .ok (.aload_n 0, 1) := by decide +kernel
theorem dL_isCalledSo_8 : decode cL_isCalledSo 8 = .ok (.bipush 6, 2) := by decide +kernel
theorem dL_isCalledSo_10 : decode cL_isCalledSo 10 = .ok (.iload_n 2, 1) := by decide +kernel
theorem dL_isCalledSo_11 : decode cL_isCalledSo 11 = .ok (.iload_n 3, 1) := by decide +kernel
theorem dL_isCalledSo_12 : decode cL_isCalledSo 12 = .ok (.iconst 0, 1) := by decide +kernel
theorem dL_isCalledSo_13 : decode cL_isCalledSo 13 = .ok (.iconst 0, 1) := by decide +kernel
theorem dL_isCalledSo_14 : decode cL_isCalledSo 14 = .ok (.invokestatic 77, 3) := by decide +kernel
theorem dL_isCalledSo_17 : decode cL_isCalledSo 17 = .ok (.istore 5, 2) := by decide +kernel
theorem dL_isCalledSo_19 : decode cL_isCalledSo 19 = .ok (.aload_n 1, 1) := by decide +kernel
theorem dL_isCalledSo_20 : decode cL_isCalledSo 20 = .ok (.bipush 6, 2) := by decide +kernel
theorem dL_isCalledSo_22 : decode cL_isCalledSo 22 = .ok (.iload_n 2, 1) := by decide +kernel
theorem dL_isCalledSo_23 : decode cL_isCalledSo 23 = .ok (.iload_n 3, 1) := by decide +kernel
theorem dL_isCalledSo_24 : decode cL_isCalledSo 24 = .ok (.iconst 0, 1) := by decide +kernel
theorem dL_isCalledSo_25 : decode cL_isCalledSo 25 = .ok (.iconst 0, 1) := by decide +kernel
theorem dL_isCalledSo_26 : decode cL_isCalledSo 26 = .ok (.invokestatic 77, 3) := by decide +kernel
theorem dL_isCalledSo_29 : decode cL_isCalledSo 29 = .ok (.iload 5, 2) := by decide +kernel
theorem dL_isCalledSo_31 : decode cL_isCalledSo 31 = .ok (.if_icmp .ne 64, 3) := by decide +kernel
theorem dL_isCalledSo_34 : decode cL_isCalledSo 34 = .ok (.iload 5, 2) := by decide +kernel
theorem dL_isCalledSo_36 : decode cL_isCalledSo 36 = .ok (.ldc 49, 2) := by decide +kernel
theorem dL_isCalledSo_38 : decode cL_isCalledSo 38 = .ok (.if_icmp .eq 53, 3) := by decide +kernel
theorem dL_isCalledSo_41 : decode cL_isCalledSo 41 = .ok (.iload 5, 2) := by decide +kernel
theorem dL_isCalledSo_43 : decode cL_isCalledSo 43 = .ok (.ifCond .lt 52, 3) := by decide +kernel
theorem dL_isCalledSo_46 : decode cL_isCalledSo 46 = .ok (.iload 5, 2) := by decide +kernel
theorem dL_isCalledSo_48 : decode cL_isCalledSo 48 = .ok (.iconst 5, 1) := by decide +kernel
theorem dL_isCalledSo_49 : decode cL_isCalledSo 49 = .ok (.if_icmp .gt 46, 3) := by decide +kernel
theorem dL_isCalledSo_52 : decode cL_isCalledSo 52 = .ok (.aload_n 0, 1) := by decide +kernel
theorem dL_isCalledSo_53 : decode cL_isCalledSo 53 = .ok (.iload_n 2, 1) := by decide +kernel
theorem dL_isCalledSo_54 : decode cL_isCalledSo 54 = .ok (.invokestatic 103, 3) := by decide +kernel
theorem dL_isCalledSo_57 : decode cL_isCalledSo 57 = .ok (.iload 4, 2) := by decide +kernel
theorem dL_isCalledSo_59 : decode cL_isCalledSo 59 = .ok (.if_icmp .ne 36, 3) := by decide +kernel
theorem dL_isCalledSo_62 : decode cL_isCalledSo 62 = .ok (.aload_n 0, 1) := by decide +kernel
theorem dL_isCalledSo_63 : decode cL_isCalledSo 63 = .ok (.bipush 6, 2) := by decide +kernel
theorem dL_isCalledSo_65 : decode cL_isCalledSo 65 = .ok (.iload_n 2, 1) := by decide +kernel
theorem dL_isCalledSo_66 : decode cL_isCalledSo 66 = .ok (.iload_n 3, 1) := by decide +kernel
theorem dL_isCalledSo_67 : decode cL_isCalledSo 67 = .ok (.iconst 0, 1) := by decide +kernel
theorem dL_isCalledSo_68 : decode cL_isCalledSo 68 = .ok (.iconst 0, 1) := by decide +kernel
theorem dL_isCalledSo_69 : decode cL_isCalledSo 69 = .ok (.invokestatic 77, 3) := by decide +kernel
theorem dL_isCalledSo_72 : decode cL_isCalledSo 72 = .ok (.ldc 49, 2) := by decide +kernel
theorem dL_isCalledSo_74 : decode cL_isCalledSo 74 = .ok (.if_icmp .ne 21, 3) := by decide +kernel
theorem dL_isCalledSo_77 : decode cL_isCalledSo 77 = .ok (.aload_n 0, 1) := by decide +kernel
theorem dL_isCalledSo_78 : decode cL_isCalledSo 78 = .ok (.iconst 3, 1) := by decide +kernel
theorem dL_isCalledSo_79 : decode cL_isCalledSo 79 = .ok (.iload_n 2, 1) := by decide +kernel
theorem dL_isCalledSo_80 : decode cL_isCalledSo 80 = .ok (.iconst 0, 1) := by decide +kernel
theorem dL_isCalledSo_81 : decode cL_isCalledSo 81 = .ok (.iconst 0, 1) := by decide +kernel
theorem dL_isCalledSo_82 : decode cL_isCalledSo 82 = .ok (.iconst 0, 1) := by decide +kernel
theorem dL_isCalledSo_83 : decode cL_isCalledSo 83 = .ok (.invokestatic 77, 3) := by decide +kernel
theorem dL_isCalledSo_86 : decode cL_isCalledSo 86 = .ok (.ldc 49, 2) := by decide +kernel
theorem dL_isCalledSo_88 : decode cL_isCalledSo 88 = .ok (.if_icmp .ne 7, 3) := by decide +kernel
theorem dL_isCalledSo_91 : decode cL_isCalledSo 91 = .ok (.iconst 1, 1) := by decide +kernel
theorem dL_isCalledSo_92 : decode cL_isCalledSo 92 = .ok (.goto 4, 3) := by decide +kernel
theorem dL_isCalledSo_95 : decode cL_isCalledSo 95 = .ok (.iconst 0, 1) := by decide +kernel
theorem dL_isCalledSo_96 : decode cL_isCalledSo 96 = .ok (.istore 6, 2) := by decide +kernel
theorem dL_isCalledSo_98 : decode cL_isCalledSo 98 = .ok (.aload_n 0, 1) := by decide +kernel
theorem dL_isCalledSo_99 : decode cL_isCalledSo 99 = .ok (.invokevirtual 81, 3) := by decide +kernel
theorem dL_isCalledSo_102 : decode cL_isCalledSo 102 = .ok (.istore 7, 2) := by decide +kernel
theorem dL_isCalledSo_104 : decode cL_isCalledSo 104 = .ok (.aload_n 0, 1) := by decide +kernel
theorem dL_isCalledSo_105 : decode cL_isCalledSo 105 = .ok (.iconst 5, 1) := by decide +kernel
theorem dL_isCalledSo_106 : decode cL_isCalledSo 106 = .ok (.iconst 1, 1) := by decide +kernel
theorem dL_isCalledSo_107 : decode cL_isCalledSo 107 = .ok (.iconst 0, 1) := by decide +kernel
theorem dL_isCalledSo_108 : decode cL_isCalledSo 108 = .ok (.iconst 0, 1) := by decide +kernel
theorem dL_isCalledSo_109 : decode cL_isCalledSo 109 = .ok (.iconst 0, 1) := by decide +kernel
theorem dL_isCalledSo_110 : decode cL_isCalledSo 110 = .ok (.invokestatic 77, 3) := by decide +kernel
theorem dL_isCalledSo_113 : decode cL_isCalledSo 113 = .ok (.istore 8, 2) := by decide +kernel
theorem dL_isCalledSo_115 : decode cL_isCalledSo 115 = .ok (.iload 6, 2) := by decide +kernel
theorem dL_isCalledSo_117 : decode cL_isCalledSo 117 = .ok (.ifCond .eq 62, 3) := by decide +kernel
theorem dL_isCalledSo_120 : decode cL_isCalledSo 120 = .ok (.aload_n 1, 1) := by decide +kernel
theorem dL_isCalledSo_121 : decode cL_isCalledSo 121 = .ok (.iconst 5, 1) := by decide +kernel
theorem dL_isCalledSo_122 : decode cL_isCalledSo 122 = .ok (.iconst 1, 1) := by decide +kernel
theorem dL_isCalledSo_123 : decode cL_isCalledSo 123 = .ok (.iconst 0, 1) := by decide +kernel
theorem dL_isCalledSo_124 : decode cL_isCalledSo 124 = .ok (.iconst 0, 1) := by decide +kernel
theorem dL_isCalledSo_125 : decode cL_isCalledSo 125 = .ok (.iconst 0, 1) := by decide +kernel
theorem dL_isCalledSo_126 : decode cL_isCalledSo 126 = .ok (.invokestatic 77, 3) := by decide +kernel
theorem dL_isCalledSo_129 : decode cL_isCalledSo 129 = .ok (.iload 8, 2) := by decide +kernel
theorem dL_isCalledSo_131 : decode cL_isCalledSo 131 = .ok (.if_icmp .ne 48, 3) := by decide +kernel
theorem dL_isCalledSo_134 : decode cL_isCalledSo 134 = .ok (.iload 8, 2) := by decide +kernel
theorem dL_isCalledSo_136 : decode cL_isCalledSo 136 = .ok (.ldc 49, 2) := by decide +kernel
theorem dL_isCalledSo_138 : decode cL_isCalledSo 138 = .ok (.if_icmp .ne 15, 3) := by decide +kernel
theorem dL_isCalledSo_141 : decode cL_isCalledSo 141 = .ok (.aload_n 0, 1) := by decide +kernel
theorem dL_isCalledSo_142 : decode cL_isCalledSo 142 = .ok (.invokevirtual 81, 3) := by decide +kernel
theorem dL_isCalledSo_145 : decode cL_isCalledSo 145 = .ok (.iload 7, 2) := by decide +kernel
theorem dL_isCalledSo_147 : decode cL_isCalledSo 147 = .ok (.if_icmp .ne 32, 3) := by decide +kernel
theorem dL_isCalledSo_150 : decode cL_isCalledSo 150 = .ok (.goto 25, 3) := by decide +kernel
theorem dL_isCalledSo_153 : decode cL_isCalledSo 153 = .ok (.iload 8, 2) := by decide +kernel
theorem dL_isCalledSo_155 : decode cL_isCalledSo 155 = .ok (.ifCond .lt 24, 3) := by decide +kernel
theorem dL_isCalledSo_158 : decode cL_isCalledSo 158 = .ok (.iload 8, 2) := by decide +kernel
theorem dL_isCalledSo_160 : decode cL_isCalledSo 160 = .ok (.iconst 1, 1) := by decide +kernel
theorem dL_isCalledSo_161 : decode cL_isCalledSo 161 = .ok (.if_icmp .gt 18, 3) := by decide +kernel
theorem dL_isCalledSo_164 : decode cL_isCalledSo 164 = .ok (.aload_n 0, 1) := by decide +kernel
theorem dL_isCalledSo_165 : decode cL_isCalledSo 165 = .ok (.invokevirtual 81, 3) := by decide +kernel
theorem dL_isCalledSo_168 : decode cL_isCalledSo 168 = .ok (.iload 7, 2) := by decide +kernel
theorem dL_isCalledSo_170 : decode cL_isCalledSo 170 = .ok (.iconst 1, 1) := by decide +kernel
theorem dL_isCalledSo_171 : decode cL_isCalledSo 171 = .ok (.iadd, 1) := by decide +kernel
theorem dL_isCalledSo_172 : decode cL_isCalledSo 172 = .ok (.if_icmp .ne 7, 3) := by decide +kernel
theorem dL_isCalledSo_175 : decode cL_isCalledSo 175 = .ok (.iconst 1, 1) := by decide +kernel
theorem dL_isCalledSo_176 : decode cL_isCalledSo 176 = .ok (.goto 4, 3) := by decide +kernel
theorem dL_isCalledSo_179 : decode cL_isCalledSo 179 = .ok (.iconst 0, 1) := by decide +kernel
theorem dL_isCalledSo_180 : decode cL_isCalledSo 180 = .ok (.ireturn, 1) := by decide +kernel
theorem dL_law_0 : decode cL_law 0 = .ok (.new 9, 3) := by decide +kernel
theorem dL_law_3 : decode cL_law 3 = .ok (.dup, 1) := by decide +kernel
theorem dL_law_4 : decode cL_law 4 = .ok (.invokespecial 124, 3) := by decide +kernel
theorem dL_law_7 : decode cL_law 7 = .ok (.astore_n 1, 1) := by decide +kernel
theorem dL_law_8 : decode cL_law 8 = .ok (.new 9, 3) := by decide +kernel
theorem dL_law_11 : decode cL_law 11 = .ok (.dup, 1) := by decide +kernel
theorem dL_law_12 : decode cL_law 12 = .ok (.invokespecial 124, 3) := by decide +kernel
theorem dL_law_15 : decode cL_law 15 = .ok (.astore_n 2, 1) := by decide +kernel
theorem dL_law_16 : decode cL_law 16 = .ok (.iconst 2, 1) := by decide +kernel
theorem dL_law_17 : decode cL_law 17 = .ok (.aload_n 0, 1) := by decide +kernel
theorem dL_law_18 : decode cL_law 18 = .ok (.iconst 0, 1) := by decide +kernel
theorem dL_law_19 : decode cL_law 19 = .ok (.invokestatic 125, 3) := by decide +kernel
theorem dL_law_22 : decode cL_law 22 = .ok (.iconst 3, 1) := by decide +kernel
theorem dL_law_23 : decode cL_law 23 = .ok (.invokestatic 71, 3) := by decide +kernel
theorem dL_law_26 : decode cL_law 26 = .ok (.iadd, 1) := by decide +kernel
theorem dL_law_27 : decode cL_law 27 = .ok (.istore_n 3, 1) := by decide +kernel
theorem dL_law_28 : decode cL_law 28 = .ok (.aload_n 1, 1) := by decide +kernel
theorem dL_law_29 : decode cL_law 29 = .ok (.bipush 8, 2) := by decide +kernel
theorem dL_law_31 : decode cL_law 31 = .ok (.iload_n 3, 1) := by decide +kernel
theorem dL_law_32 : decode cL_law 32 = .ok (.bipush 60, 2) := by decide +kernel
theorem dL_law_34 : decode cL_law 34 = .ok (.iconst 0, 1) := by decide +kernel
theorem dL_law_35 : decode cL_law 35 = .ok (.iconst 0, 1) := by decide +kernel
theorem dL_law_36 : decode cL_law 36 = .ok (.invokestatic 77, 3) := by decide +kernel
theorem dL_law_39 : decode cL_law 39 = .ok (.ifCond .ne 21, 3) := by decide +kernel
theorem dL_law_42 : decode cL_law 42 = .ok (.aload_n 2, 1) := by decide +kernel
theorem dL_law_43 : decode cL_law 43 = .ok (.bipush 8, 2) := by decide +kernel
theorem dL_law_45 : decode cL_law 45 = .ok (.iload_n 3, 1) := by decide +kernel
theorem dL_law_46 : decode cL_law 46 = .ok (.bipush 60, 2) := by decide +kernel
theorem dL_law_48 : decode cL_law 48 = .ok (.iconst 0, 1) := by decide +kernel
theorem dL_law_49 : decode cL_law 49 = .ok (.iconst 0, 1) := by decide +kernel
theorem dL_law_50 : decode cL_law 50 = .ok (.invokestatic 77, 3) := by decide +kernel
theorem dL_law_53 : decode cL_law 53 = .ok (.ifCond .ne 7, 3) := by decide +kernel
theorem dL_law_56 : decode cL_law 56 = .ok (.iconst 1, 1) := by decide +kernel
theorem dL_law_57 : decode cL_law 57 = .ok (.goto 4, 3) := by decide +kernel
theorem dL_law_60 : decode cL_law 60 = .ok (.iconst 0, 1) := by decide +kernel
theorem dL_law_61 : decode cL_law 61 = .ok (.istore 4, 2) := by decide +kernel
theorem dL_law_63 : decode cL_law 63 = .ok (.iconst 1, 1) := by decide +kernel
theorem dL_law_64 : decode cL_law 64 = .ok (.istore 5, 2) := by decide +kernel
theorem dL_law_66 : decode cL_law 66 = .ok (.iload 5, 2) := by decide +kernel
theorem dL_law_68 : decode cL_law 68 = .ok (.bipush 64, 2) := by decide +kernel
theorem dL_law_70 : decode cL_law 70 = .ok (.if_icmp .ge 195, 3) := by decide +kernel
theorem dL_law_73 : decode cL_law 73 = .ok (.iload 4, 2) := by decide +kernel
theorem dL_law_75 : decode cL_law 75 = .ok (.ifCond .eq 190, 3) := by decide +kernel
theorem dL_law_78 : decode cL_law 78 = .ok (.iload 5, 2) := by decide +kernel
theorem dL_law_80 : decode cL_law 80 = .ok (.bipush 16, 2) := by decide +kernel
theorem dL_law_82 : decode cL_law 82 = .ok (.if_icmp .ge 30, 3) := by decide +kernel
theorem dL_law_85 : decode cL_law 85 = .ok (.aload_n 0, 1) := by decide +kernel
theorem dL_law_86 : decode cL_law 86 = .ok (.iload 5, 2) := by decide +kernel
theorem dL_law_88 : decode cL_law 88 = .ok (.invokestatic 125, 3) := by decide +kernel
theorem dL_law_91 : decode cL_law 91 = .ok (.bipush 32, 2) := by decide +kernel
theorem dL_law_93 : decode cL_law 93 = .ok (.idiv, 1) := by decide +kernel
theorem dL_law_94 : decode cL_law 94 = .ok (.bipush 32, 2) := by decide +kernel
theorem dL_law_96 : decode cL_law 96 = .ok (.imul, 1) := by decide +kernel
theorem dL_law_97 : decode cL_law 97 = .ok (.aload_n 0, 1) := by decide +kernel
theorem dL_law_98 : decode cL_law 98 = .ok (.iload 5, 2) := by decide +kernel
theorem dL_law_100 : decode cL_law 100 = .ok (.invokestatic 125, 3) := by decide +kernel
theorem dL_law_103 : decode cL_law 103 = .ok (.bipush 18, 2) := by decide +kernel
theorem dL_law_105 : decode cL_law 105 = .ok (.invokestatic 71, 3) := by decide +kernel
theorem dL_law_108 : decode cL_law 108 = .ok (.iadd, 1) := by decide +kernel
theorem dL_law_109 : decode cL_law 109 = .ok (.goto 9, 3) := by decide +kernel
theorem dL_law_112 : decode cL_law 112 = .ok (.aload_n 0, 1) := by decide +kernel
theorem dL_law_113 : decode cL_law 113 = .ok (.iload 5, 2) := by decide +kernel
theorem dL_law_115 : decode cL_law 115 = .ok (.invokestatic 125, 3) := by decide +kernel
theorem dL_law_118 : decode cL_law 118 = .ok (.istore 6, 2) := by decide +kernel
theorem dL_law_120 : decode cL_law 120 = .ok (.aload_n 1, 1) := by decide +kernel
theorem dL_law_121 : decode cL_law 121 = .ok (.iload 6, 2) := by decide +kernel
theorem dL_law_123 : decode cL_law 123 = .ok (.invokestatic 129, 3) := by decide +kernel
theorem dL_law_126 : decode cL_law 126 = .ok (.istore 7, 2) := by decide +kernel
theorem dL_law_128 : decode cL_law 128 = .ok (.iload 7, 2) := by decide +kernel
theorem dL_law_130 : decode cL_law 130 = .ok (.ldc 49, 2) := by decide +kernel
theorem dL_law_132 : decode cL_law 132 = .ok (.if_icmp .eq 14, 3) := by decide +kernel
theorem dL_law_135 : decode cL_law 135 = .ok (.aload_n 2, 1) := by decide +kernel
theorem dL_law_136 : decode cL_law 136 = .ok (.iload 6, 2) := by decide +kernel
theorem dL_law_138 : decode cL_law 138 = .ok (.invokestatic 129, 3) := by decide +kernel
theorem dL_law_141 : decode cL_law 141 = .ok (.iload 7, 2) := by decide +kernel
theorem dL_law_143 : decode cL_law 143 = .ok (.if_icmp .ne 57, 3) := by decide +kernel
theorem dL_law_146 : decode cL_law 146 = .ok (.iload 5, 2) := by decide +kernel
theorem dL_law_148 : decode cL_law 148 = .ok (.iconst 5, 1) := by decide +kernel
theorem dL_law_149 : decode cL_law 149 = .ok (.irem, 1) := by decide +kernel
theorem dL_law_150 : decode cL_law 150 = .ok (.iconst 3, 1) := by decide +kernel
theorem dL_law_151 : decode cL_law 151 = .ok (.if_icmp .ne 11, 3) := by decide +kernel
theorem dL_law_154 : decode cL_law 154 = .ok (.aload_n 1, 1) := by decide +kernel
theorem dL_law_155 : decode cL_law 155 = .ok (.aload_n 2, 1) := by decide +kernel
theorem dL_law_156 : decode cL_law 156 = .ok (.invokestatic 132, 3) := by decide +kernel
theorem dL_law_159 : decode cL_law 159 = .ok (.ifCond .eq 41, 3) := by decide +kernel
theorem dL_law_162 : decode cL_law 162 = .ok (.iload 5, 2) := by decide +kernel
theorem dL_law_164 : decode cL_law 164 = .ok (.bipush 6, 2) := by decide +kernel
theorem dL_law_166 : decode cL_law 166 = .ok (.irem, 1) := by decide +kernel
theorem dL_law_167 : decode cL_law 167 = .ok (.iconst 2, 1) := by decide +kernel
theorem dL_law_168 : decode cL_law 168 = .ok (.if_icmp .ne 21, 3) := by decide +kernel
theorem dL_law_171 : decode cL_law 171 = .ok (.aload_n 1, 1) := by decide +kernel
theorem dL_law_172 : decode cL_law 172 = .ok (.iload 6, 2) := by decide +kernel
theorem dL_law_174 : decode cL_law 174 = .ok (.bipush 6, 2) := by decide +kernel
theorem dL_law_176 : decode cL_law 176 = .ok (.ishr, 1) := by decide +kernel
theorem dL_law_177 : decode cL_law 177 = .ok (.sipush 500, 3) := by decide +kernel
theorem dL_law_180 : decode cL_law 180 = .ok (.invokestatic 71, 3) := by decide +kernel
theorem dL_law_183 : decode cL_law 183 = .ok (.invokestatic 136, 3) := by decide +kernel
theorem dL_law_186 : decode cL_law 186 = .ok (.ifCond .eq 14, 3) := by decide +kernel
theorem dL_law_189 : decode cL_law 189 = .ok (.aload_n 1, 1) := by decide +kernel
theorem dL_law_190 : decode cL_law 190 = .ok (.invokestatic 140, 3) := by decide +kernel
theorem dL_law_193 : decode cL_law 193 = .ok (.ifCond .eq 7, 3) := by decide +kernel
theorem dL_law_196 : decode cL_law 196 = .ok (.iconst 1, 1) := by decide +kernel
theorem dL_law_197 : decode cL_law 197 = .ok (.goto 4, 3) := by decide +kernel
theorem dL_law_200 : decode cL_law 200 = .ok (.iconst 0, 1) := by decide +kernel
theorem dL_law_201 : decode cL_law 201 = .ok (.istore 4, 2) := by decide +kernel
theorem dL_law_203 : decode cL_law 203 = .ok (.iload 5, 2) := by decide +kernel
theorem dL_law_205 : decode cL_law 205 = .ok (.bipush 20, 2) := by decide +kernel
theorem dL_law_207 : decode cL_law 207 = .ok (.if_icmp .le 52, 3) := by decide +kernel
theorem dL_law_210 : decode cL_law 210 = .ok (.iload 5, 2) := by decide +kernel
theorem dL_law_212 : decode cL_law 212 = .ok (.bipush 7, 2) := by decide +kernel
theorem dL_law_214 : decode cL_law 214 = .ok (.irem, 1) := by decide +kernel
theorem dL_law_215 : decode cL_law 215 = .ok (.iconst 5, 1) := by decide +kernel
theorem dL_law_216 : decode cL_law 216 = .ok (.if_icmp .ne 43, 3) := by decide +kernel
theorem dL_law_219 : decode cL_law 219 = .ok (.iload 4, 2) := by decide +kernel
theorem dL_law_221 : decode cL_law 221 = .ok (.ifCond .eq 35, 3) := by decide +kernel
theorem dL_law_224 : decode cL_law 224 = .ok (.aload_n 1, 1) := by decide +kernel
theorem dL_law_225 : decode cL_law 225 = .ok (.aload_n 2, 1) := by decide +kernel
theorem dL_law_226 : decode cL_law 226 = .ok (.iload 6, 2) := by decide +kernel
theorem dL_law_228 : decode cL_law 228 = .ok (.iconst 3, 1) := by decide +kernel
theorem dL_law_229 : decode cL_law 229 = .ok (.ishr, 1) := by decide +kernel
theorem dL_law_230 : decode cL_law 230 = .ok (.aload_n 1, 1) := by decide +kernel
theorem dL_law_231 : decode cL_law 231 = .ok (.invokevirtual 74, 3) := by decide +kernel
theorem dL_law_234 : decode cL_law 234 = .ok (.invokestatic 71, 3) := by decide +kernel
theorem dL_law_237 : decode cL_law 237 = .ok (.iload 6, 2) := by decide +kernel
theorem dL_law_239 : decode cL_law 239 = .ok (.bipush 6, 2) := by decide +kernel
theorem dL_law_241 : decode cL_law 241 = .ok (.ishr, 1) := by decide +kernel
theorem dL_law_242 : decode cL_law 242 = .ok (.iconst 4, 1) := by decide +kernel
theorem dL_law_243 : decode cL_law 243 = .ok (.invokestatic 71, 3) := by decide +kernel
theorem dL_law_246 : decode cL_law 246 = .ok (.invokestatic 144, 3) := by decide +kernel
theorem dL_law_249 : decode cL_law 249 = .ok (.ifCond .eq 7, 3) := by decide +kernel
theorem dL_law_252 : decode cL_law 252 = .ok (.iconst 1, 1) := by decide +kernel
theorem dL_law_253 : decode cL_law 253 = .ok (.goto 4, 3) := by decide +kernel
theorem dL_law_256 : decode cL_law 256 = .ok (.iconst 0, 1) := by decide +kernel
theorem dL_law_257 : decode cL_law 257 = .ok (.istore 4, 2) := by decide +kernel
theorem dL_law_259 : decode cL_law 259 = .ok (.iinc 5 1, 3) := by decide +kernel
theorem dL_law_262 : decode cL_law 262 = .ok (.goto (-196), 3) := by decide +kernel
theorem dL_law_265 : decode cL_law 265 = .ok (.iload 4, 2) := by decide +kernel
theorem dL_law_267 : decode cL_law 267 = .ok (.ifCond .eq 23, 3) := by decide +kernel
theorem dL_law_270 : decode cL_law 270 = .ok (.aload_n 1, 1) := by decide +kernel
theorem dL_law_271 : decode cL_law 271 = .ok (.aload_n 2, 1) := by decide +kernel
theorem dL_law_272 : decode cL_law 272 = .ok (.invokestatic 132, 3) := by decide +kernel
theorem dL_law_275 : decode cL_law 275 = .ok (.ifCond .eq 15, 3) := by decide +kernel
theorem dL_law_278 : decode cL_law 278 = .ok (.aload_n 1, 1) := by decide +kernel
theorem dL_law_279 : decode cL_law 279 = .ok (.iconst 0, 1) := by decide +kernel
theorem dL_law_280 : decode cL_law 280 = .ok (.invokestatic 136, 3) := by decide +kernel
theorem dL_law_283 : decode cL_law 283 = .ok (.ifCond .eq 7, 3) := by decide +kernel
theorem dL_law_286 : decode cL_law 286 = .ok (.iconst 1, 1) := by decide +kernel
theorem dL_law_287 : decode cL_law 287 = .ok (.goto 4, 3) := by decide +kernel
theorem dL_law_290 : decode cL_law 290 = .ok (.iconst 0, 1) := by decide +kernel
theorem dL_law_291 : decode cL_law 291 = .ok (.ireturn, 1) := by decide +kernel
