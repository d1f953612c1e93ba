theorem dX0_init_0 : decode cX0_init 0 = .ok (.aload_n 0, 1) := by decide +kernel
theorem dX0_init_1 : decode cX0_init 1 = .ok (.invokespecial 3, 3) := by decide +kernel
theorem dX0_init_4 : decode cX0_init 4 = .ok (.aload_n 0, 1) := by decide +kernel
theorem dX0_init_5 : decode cX0_init 5 = .ok (.new 9, 3) := by decide +kernel
theorem dX0_init_8 : decode cX0_init 8 = .ok (.dup, 1) := by decide +kernel
theorem dX0_init_9 : decode cX0_init 9 = .ok (.invokespecial 11, 3) := by decide +kernel
theorem dX0_init_12 : decode cX0_init 12 = .ok (.putfield 12, 3) := by decide +kernel
theorem dX0_init_15 : decode cX0_init 15 = .ok (.aload_n 0, 1) := by decide +kernel
theorem dX0_init_16 : decode cX0_init 16 = .ok (.new 9, 3) := by decide +kernel
theorem dX0_init_19 : decode cX0_init 19 = .ok (.dup, 1) := by decide +kernel
theorem dX0_init_20 : decode cX0_init 20 = .ok (.invokespecial 11, 3) := by decide +kernel
theorem dX0_init_23 : decode cX0_init 23 = .ok (.putfield 18, 3) := by decide +kernel
theorem dX0_init_26 : decode cX0_init 26 = .ok (.aload_n 0, 1) := by decide +kernel
theorem dX0_init_27 : decode cX0_init 27 = .ok (.new 9, 3) := by decide +kernel
theorem dX0_init_30 : decode cX0_init 30 = .ok (.dup, 1) := by decide +kernel
theorem dX0_init_31 : decode cX0_init 31 = .ok (.invokespecial 11, 3) := by decide +kernel
theorem dX0_init_34 : decode cX0_init 34 = .ok (.putfield 21, 3) := by decide +kernel
theorem dX0_init_37 : decode cX0_init 37 = .ok (.aload_n 0, 1) := by decide +kernel
theorem dX0_init_38 : decode cX0_init 38 = .ok (.new 9, 3) := by decide +kernel
theorem dX0_init_41 : decode cX0_init 41 = .ok (.dup, 1) := by decide +kernel
theorem dX0_init_42 : decode cX0_init 42 = .ok (.invokespecial 11, 3) := by decide +kernel
theorem dX0_init_45 : decode cX0_init 45 = .ok (.putfield 24, 3) := by decide +kernel
theorem dX0_init_48 : decode cX0_init 48 = .ok (.aload_n 0, 1) := by decide +kernel
theorem dX0_init_49 : decode cX0_init 49 = .ok (.new 9, 3) := by decide +kernel
theorem dX0_init_52 : decode cX0_init 52 = .ok (.dup, 1) := by decide +kernel
theorem dX0_init_53 : decode cX0_init 53 = .ok (.invokespecial 11, 3) := by decide +kernel
theorem dX0_init_56 : decode cX0_init 56 = .ok (.putfield 27, 3) := by decide +kernel
theorem dX0_init_59 : decode cX0_init 59 = .ok (.aload_n 0, 1) := by decide +kernel
theorem dX0_init_60 : decode cX0_init 60 = .ok (.iconst 1, 1) := by decide +kernel
theorem dX0_init_61 : decode cX0_init 61 = .ok (.putfield 30, 3) := by decide +kernel
theorem dX0_init_64 : decode cX0_init 64 = .ok (.aload_n 0, 1) := by decide +kernel
theorem dX0_init_65 : decode cX0_init 65 = .ok (.aload_n 1, 1) := by decide +kernel
theorem dX0_init_66 : decode cX0_init 66 = .ok (.putfield 34, 3) := by decide +kernel
theorem dX0_init_69 : decode cX0_init 69 = .ok (.aload_n 0, 1) := by decide +kernel
theorem dX0_init_70 : decode cX0_init 70 = .ok (.aload_n 2, 1) := by decide +kernel
theorem dX0_init_71 : decode cX0_init 71 = .ok (.putfield 38, 3) := by decide +kernel
theorem dX0_init_74 : decode cX0_init 74 = .ok (.return_, 1) := by decide +kernel
theorem dX0_forget_0 : decode cX0_forget 0 = .ok (.aload_n 0, 1) := by decide +kernel
theorem dX0_forget_1 : decode cX0_forget 1 = .ok (.dup, 1) := by decide +kernel
theorem dX0_forget_2 : decode cX0_forget 2 = .ok (.getfield 30, 3) := by decide +kernel
theorem dX0_forget_5 : decode cX0_forget 5 = .ok (.iconst 1, 1) := by decide +kernel
theorem dX0_forget_6 : decode cX0_forget 6 = .ok (.iadd, 1) := by decide +kernel
theorem dX0_forget_7 : decode cX0_forget 7 = .ok (.putfield 30, 3) := by decide +kernel
theorem dX0_forget_10 : decode cX0_forget 10 = .ok (.return_, 1) := by decide +kernel
theorem dX0_find_0 : decode cX0_find 0 = .ok (.aload_n 0, 1) := by decide +kernel
theorem dX0_find_1 : decode cX0_find 1 = .ok (.iload_n 1, 1) := by decide +kernel
theorem dX0_find_2 : decode cX0_find 2 = .ok (.iload_n 2, 1) := by decide +kernel
theorem dX0_find_3 : decode cX0_find 3 = .ok (.iload_n 3, 1) := by decide +kernel
theorem dX0_find_4 : decode cX0_find 4 = .ok (.iconst 0, 1) := by decide +kernel
theorem dX0_find_5 : decode cX0_find 5 = .ok (.invokevirtual 42, 3) := by decide +kernel
theorem dX0_find_8 : decode cX0_find 8 = .ok (.aload_n 0, 1) := by decide +kernel
theorem dX0_find_9 : decode cX0_find 9 = .ok (.getfield 38, 3) := by decide +kernel
theorem dX0_find_12 : decode cX0_find 12 = .ok (.iload_n 1, 1) := by decide +kernel
theorem dX0_find_13 : decode cX0_find 13 = .ok (.aaload, 1) := by decide +kernel
theorem dX0_find_14 : decode cX0_find 14 = .ok (.iload_n 2, 1) := by decide +kernel
theorem dX0_find_15 : decode cX0_find 15 = .ok (.iload_n 3, 1) := by decide +kernel
theorem dX0_find_16 : decode cX0_find 16 = .ok (.aload_n 0, 1) := by decide +kernel
theorem dX0_find_17 : decode cX0_find 17 = .ok (.getfield 12, 3) := by decide +kernel
theorem dX0_find_20 : decode cX0_find 20 = .ok (.invokevirtual 46, 3) := by decide +kernel
theorem dX0_find_23 : decode cX0_find 23 = .ok (.aload_n 0, 1) := by decide +kernel
theorem dX0_find_24 : decode cX0_find 24 = .ok (.getfield 12, 3) := by decide +kernel
theorem dX0_find_27 : decode cX0_find 27 = .ok (.areturn, 1) := by decide +kernel
theorem dX0_isKeeping_0 : decode cX0_isKeeping 0 = .ok (.iconst 0, 1) := by decide +kernel
theorem dX0_isKeeping_1 : decode cX0_isKeeping 1 = .ok (.istore_n 2, 1) := by decide +kernel
theorem dX0_isKeeping_2 : decode cX0_isKeeping 2 = .ok (.iload_n 2, 1) := by decide +kernel
theorem dX0_isKeeping_3 : decode cX0_isKeeping 3 = .ok (.aload_n 0, 1) := by decide +kernel
theorem dX0_isKeeping_4 : decode cX0_isKeeping 4 = .ok (.getfield 34, 3) := by decide +kernel
theorem dX0_isKeeping_7 : decode cX0_isKeeping 7 = .ok (.getfield 52, 3) := by decide +kernel
theorem dX0_isKeeping_10 : decode cX0_isKeeping 10 = .ok (.if_icmp .ge 125, 3) := by decide +kernel
theorem dX0_isKeeping_13 : decode cX0_isKeeping 13 = .ok (.aload_n 0, 1) := by decide +kernel
theorem dX0_isKeeping_14 : decode cX0_isKeeping 14 = .ok (.getfield 24, 3) := by decide +kernel
theorem dX0_isKeeping_17 : decode cX0_isKeeping 17 = .ok (.lconst 0, 1) := by decide +kernel
theorem dX0_isKeeping_18 : decode cX0_isKeeping 18 = .ok (.lconst 1, 1) := by decide +kernel
theorem dX0_isKeeping_19 : decode cX0_isKeeping 19 = .ok (.invokevirtual 57, 3) := by decide +kernel
theorem dX0_isKeeping_22 : decode cX0_isKeeping 22 = .ok (.iconst 0, 1) := by decide +kernel
theorem dX0_isKeeping_23 : decode cX0_isKeeping 23 = .ok (.istore_n 3, 1) := by decide +kernel
theorem dX0_isKeeping_24 : decode cX0_isKeeping 24 = .ok (.iload_n 3, 1) := by decide +kernel
theorem dX0_isKeeping_25 : decode cX0_isKeeping 25 = .ok (.aload_n 0, 1) := by decide +kernel
theorem dX0_isKeeping_26 : decode cX0_isKeeping 26 = .ok (.getfield 34, 3) := by decide +kernel
theorem dX0_isKeeping_29 : decode cX0_isKeeping 29 = .ok (.getfield 52, 3) := by decide +kernel
theorem dX0_isKeeping_32 : decode cX0_isKeeping 32 = .ok (.if_icmp .ge 50, 3) := by decide +kernel
theorem dX0_isKeeping_35 : decode cX0_isKeeping 35 = .ok (.aload_n 0, 1) := by decide +kernel
theorem dX0_isKeeping_36 : decode cX0_isKeeping 36 = .ok (.getfield 24, 3) := by decide +kernel
theorem dX0_isKeeping_39 : decode cX0_isKeeping 39 = .ok (.getfield 61, 3) := by decide +kernel
theorem dX0_isKeeping_42 : decode cX0_isKeeping 42 = .ok (.ifCond .eq 40, 3) := by decide +kernel
theorem dX0_isKeeping_45 : decode cX0_isKeeping 45 = .ok (.aload_n 0, 1) := by decide +kernel
theorem dX0_isKeeping_46 : decode cX0_isKeeping 46 = .ok (.iload_n 1, 1) := by decide +kernel
theorem dX0_isKeeping_47 : decode cX0_isKeeping 47 = .ok (.iload_n 3, 1) := by decide +kernel
theorem dX0_isKeeping_48 : decode cX0_isKeeping 48 = .ok (.iload_n 2, 1) := by decide +kernel
theorem dX0_isKeeping_49 : decode cX0_isKeeping 49 = .ok (.iconst 0, 1) := by decide +kernel
theorem dX0_isKeeping_50 : decode cX0_isKeeping 50 = .ok (.invokevirtual 42, 3) := by decide +kernel
theorem dX0_isKeeping_53 : decode cX0_isKeeping 53 = .ok (.aload_n 0, 1) := by decide +kernel
theorem dX0_isKeeping_54 : decode cX0_isKeeping 54 = .ok (.iload_n 1, 1) := by decide +kernel
theorem dX0_isKeeping_55 : decode cX0_isKeeping 55 = .ok (.iload_n 3, 1) := by decide +kernel
theorem dX0_isKeeping_56 : decode cX0_isKeeping 56 = .ok (.iload_n 2, 1) := by decide +kernel
theorem dX0_isKeeping_57 : decode cX0_isKeeping 57 = .ok (.aload_n 0, 1) := by decide +kernel
theorem dX0_isKeeping_58 : decode cX0_isKeeping 58 = .ok (.getfield 27, 3) := by decide +kernel
theorem dX0_isKeeping_61 : decode cX0_isKeeping 61 = .ok (.invokevirtual 65, 3) := by decide +kernel
theorem dX0_isKeeping_64 : decode cX0_isKeeping 64 = .ok (.aload_n 0, 1) := by decide +kernel
theorem dX0_isKeeping_65 : decode cX0_isKeeping 65 = .ok (.getfield 24, 3) := by decide +kernel
theorem dX0_isKeeping_68 : decode cX0_isKeeping 68 = .ok (.iconst 1, 1) := by decide +kernel
theorem dX0_isKeeping_69 : decode cX0_isKeeping 69 = .ok (.aload_n 0, 1) := by decide +kernel
theorem dX0_isKeeping_70 : decode cX0_isKeeping 70 = .ok (.getfield 27, 3) := by decide +kernel
theorem dX0_isKeeping_73 : decode cX0_isKeeping 73 = .ok (.invokevirtual 69, 3) := by decide +kernel
theorem dX0_isKeeping_76 : decode cX0_isKeeping 76 = .ok (.iinc 3 1, 3) := by decide +kernel
theorem dX0_isKeeping_79 : decode cX0_isKeeping 79 = .ok (.goto (-55), 3) := by decide +kernel
theorem dX0_isKeeping_82 : decode cX0_isKeeping 82 = .ok (.aload_n 0, 1) := by decide +kernel
theorem dX0_isKeeping_83 : decode cX0_isKeeping 83 = .ok (.getfield 24, 3) := by decide +kernel
theorem dX0_isKeeping_86 : decode cX0_isKeeping 86 = .ok (.getfield 61, 3) := by decide +kernel
theorem dX0_isKeeping_89 : decode cX0_isKeeping 89 = .ok (.ifCond .ne 6, 3) := by decide +kernel
theorem dX0_isKeeping_92 : decode cX0_isKeeping 92 = .ok (.bipush (-4), 2) := by decide +kernel
theorem dX0_isKeeping_94 : decode cX0_isKeeping 94 = .ok (.ireturn, 1) := by decide +kernel
theorem dX0_isKeeping_95 : decode cX0_isKeeping 95 = .ok (.aload_n 0, 1) := by decide +kernel
theorem dX0_isKeeping_96 : decode cX0_isKeeping 96 = .ok (.getfield 27, 3) := by decide +kernel
theorem dX0_isKeeping_99 : decode cX0_isKeeping 99 = .ok (.aload_n 0, 1) := by decide +kernel
theorem dX0_isKeeping_100 : decode cX0_isKeeping 100 = .ok (.getfield 34, 3) := by decide +kernel
theorem dX0_isKeeping_103 : decode cX0_isKeeping 103 = .ok (.getfield 73, 3) := by decide +kernel
theorem dX0_isKeeping_106 : decode cX0_isKeeping 106 = .ok (.iload_n 2, 1) := by decide +kernel
theorem dX0_isKeeping_107 : decode cX0_isKeeping 107 = .ok (.iaload, 1) := by decide +kernel
theorem dX0_isKeeping_108 : decode cX0_isKeeping 108 = .ok (.i2l, 1) := by decide +kernel
theorem dX0_isKeeping_109 : decode cX0_isKeeping 109 = .ok (.lconst 1, 1) := by decide +kernel
theorem dX0_isKeeping_110 : decode cX0_isKeeping 110 = .ok (.invokevirtual 57, 3) := by decide +kernel
theorem dX0_isKeeping_113 : decode cX0_isKeeping 113 = .ok (.aload_n 0, 1) := by decide +kernel
theorem dX0_isKeeping_114 : decode cX0_isKeeping 114 = .ok (.getfield 24, 3) := by decide +kernel
theorem dX0_isKeeping_117 : decode cX0_isKeeping 117 = .ok (.aload_n 0, 1) := by decide +kernel
theorem dX0_isKeeping_118 : decode cX0_isKeeping 118 = .ok (.getfield 27, 3) := by decide +kernel
theorem dX0_isKeeping_121 : decode cX0_isKeeping 121 = .ok (.invokevirtual 77, 3) := by decide +kernel
theorem dX0_isKeeping_124 : decode cX0_isKeeping 124 = .ok (.ifCond .ne 5, 3) := by decide +kernel
theorem dX0_isKeeping_127 : decode cX0_isKeeping 127 = .ok (.iconst 0, 1) := by decide +kernel
theorem dX0_isKeeping_128 : decode cX0_isKeeping 128 = .ok (.ireturn, 1) := by decide +kernel
theorem dX0_isKeeping_129 : decode cX0_isKeeping 129 = .ok (.iinc 2 1, 3) := by decide +kernel
theorem dX0_isKeeping_132 : decode cX0_isKeeping 132 = .ok (.goto (-130), 3) := by decide +kernel
theorem dX0_isKeeping_135 : decode cX0_isKeeping 135 = .ok (.iconst 1, 1) := by decide +kernel
theorem dX0_isKeeping_136 : decode cX0_isKeeping 136 = .ok (.ireturn, 1) := by decide +kernel
theorem dX0_isBalanced_0 : decode cX0_isBalanced 0 = .ok (.iconst 0, 1) := by decide +kernel
theorem dX0_isBalanced_1 : decode cX0_isBalanced 1 = .ok (.istore_n 2, 1) := by decide +kernel
theorem dX0_isBalanced_2 : decode cX0_isBalanced 2 = .ok (.iload_n 2, 1) := by decide +kernel
theorem dX0_isBalanced_3 : decode cX0_isBalanced 3 = .ok (.aload_n 0, 1) := by decide +kernel
theorem dX0_isBalanced_4 : decode cX0_isBalanced 4 = .ok (.getfield 34, 3) := by decide +kernel
theorem dX0_isBalanced_7 : decode cX0_isBalanced 7 = .ok (.getfield 52, 3) := by decide +kernel
theorem dX0_isBalanced_10 : decode cX0_isBalanced 10 = .ok (.if_icmp .ge 107, 3) := by decide +kernel
theorem dX0_isBalanced_13 : decode cX0_isBalanced 13 = .ok (.iload_n 2, 1) := by decide +kernel
theorem dX0_isBalanced_14 : decode cX0_isBalanced 14 = .ok (.iconst 1, 1) := by decide +kernel
theorem dX0_isBalanced_15 : decode cX0_isBalanced 15 = .ok (.iadd, 1) := by decide +kernel
theorem dX0_isBalanced_16 : decode cX0_isBalanced 16 = .ok (.istore_n 3, 1) := by decide +kernel
theorem dX0_isBalanced_17 : decode cX0_isBalanced 17 = .ok (.iload_n 3, 1) := by decide +kernel
theorem dX0_isBalanced_18 : decode cX0_isBalanced 18 = .ok (.aload_n 0, 1) := by decide +kernel
theorem dX0_isBalanced_19 : decode cX0_isBalanced 19 = .ok (.getfield 34, 3) := by decide +kernel
theorem dX0_isBalanced_22 : decode cX0_isBalanced 22 = .ok (.getfield 52, 3) := by decide +kernel
theorem dX0_isBalanced_25 : decode cX0_isBalanced 25 = .ok (.if_icmp .ge 86, 3) := by decide +kernel
theorem dX0_isBalanced_28 : decode cX0_isBalanced 28 = .ok (.aload_n 0, 1) := by decide +kernel
theorem dX0_isBalanced_29 : decode cX0_isBalanced 29 = .ok (.iload_n 1, 1) := by decide +kernel
theorem dX0_isBalanced_30 : decode cX0_isBalanced 30 = .ok (.iload_n 2, 1) := by decide +kernel
theorem dX0_isBalanced_31 : decode cX0_isBalanced 31 = .ok (.iload_n 3, 1) := by decide +kernel
theorem dX0_isBalanced_32 : decode cX0_isBalanced 32 = .ok (.iconst 0, 1) := by decide +kernel
theorem dX0_isBalanced_33 : decode cX0_isBalanced 33 = .ok (.invokevirtual 42, 3) := by decide +kernel
theorem dX0_isBalanced_36 : decode cX0_isBalanced 36 = .ok (.aload_n 0, 1) := by decide +kernel
theorem dX0_isBalanced_37 : decode cX0_isBalanced 37 = .ok (.iload_n 1, 1) := by decide +kernel
theorem dX0_isBalanced_38 : decode cX0_isBalanced 38 = .ok (.iload_n 3, 1) := by decide +kernel
theorem dX0_isBalanced_39 : decode cX0_isBalanced 39 = .ok (.iload_n 2, 1) := by decide +kernel
theorem dX0_isBalanced_40 : decode cX0_isBalanced 40 = .ok (.iconst 0, 1) := by decide +kernel
theorem dX0_isBalanced_41 : decode cX0_isBalanced 41 = .ok (.invokevirtual 42, 3) := by decide +kernel
theorem dX0_isBalanced_44 : decode cX0_isBalanced 44 = .ok (.aload_n 0, 1) := by decide +kernel
theorem dX0_isBalanced_45 : decode cX0_isBalanced 45 = .ok (.iload_n 1, 1) := by decide +kernel
theorem dX0_isBalanced_46 : decode cX0_isBalanced 46 = .ok (.iload_n 2, 1) := by decide +kernel
theorem dX0_isBalanced_47 : decode cX0_isBalanced 47 = .ok (.iload_n 3, 1) := by decide +kernel
theorem dX0_isBalanced_48 : decode cX0_isBalanced 48 = .ok (.aload_n 0, 1) := by decide +kernel
theorem dX0_isBalanced_49 : decode cX0_isBalanced 49 = .ok (.getfield 24, 3) := by decide +kernel
theorem dX0_isBalanced_52 : decode cX0_isBalanced 52 = .ok (.invokevirtual 65, 3) := by decide +kernel
theorem dX0_isBalanced_55 : decode cX0_isBalanced 55 = .ok (.aload_n 0, 1) := by decide +kernel
theorem dX0_isBalanced_56 : decode cX0_isBalanced 56 = .ok (.iload_n 1, 1) := by decide +kernel
theorem dX0_isBalanced_57 : decode cX0_isBalanced 57 = .ok (.iload_n 3, 1) := by decide +kernel
theorem dX0_isBalanced_58 : decode cX0_isBalanced 58 = .ok (.iload_n 2, 1) := by decide +kernel
theorem dX0_isBalanced_59 : decode cX0_isBalanced 59 = .ok (.aload_n 0, 1) := by decide +kernel
theorem dX0_isBalanced_60 : decode cX0_isBalanced 60 = .ok (.getfield 27, 3) := by decide +kernel
theorem dX0_isBalanced_63 : decode cX0_isBalanced 63 = .ok (.invokevirtual 65, 3) := by decide +kernel
theorem dX0_isBalanced_66 : decode cX0_isBalanced 66 = .ok (.aload_n 0, 1) := by decide +kernel
theorem dX0_isBalanced_67 : decode cX0_isBalanced 67 = .ok (.getfield 24, 3) := by decide +kernel
theorem dX0_isBalanced_70 : decode cX0_isBalanced 70 = .ok (.getfield 61, 3) := by decide +kernel
theorem dX0_isBalanced_73 : decode cX0_isBalanced 73 = .ok (.ifCond .eq 13, 3) := by decide +kernel
theorem dX0_isBalanced_76 : decode cX0_isBalanced 76 = .ok (.aload_n 0, 1) := by decide +kernel
theorem dX0_isBalanced_77 : decode cX0_isBalanced 77 = .ok (.getfield 27, 3) := by decide +kernel
theorem dX0_isBalanced_80 : decode cX0_isBalanced 80 = .ok (.getfield 61, 3) := by decide +kernel
theorem dX0_isBalanced_83 : decode cX0_isBalanced 83 = .ok (.ifCond .ne 6, 3) := by decide +kernel
theorem dX0_isBalanced_86 : decode cX0_isBalanced 86 = .ok (.bipush (-4), 2) := by decide +kernel
theorem dX0_isBalanced_88 : decode cX0_isBalanced 88 = .ok (.ireturn, 1) := by decide +kernel
theorem dX0_isBalanced_89 : decode cX0_isBalanced 89 = .ok (.aload_n 0, 1) := by decide +kernel
theorem dX0_isBalanced_90 : decode cX0_isBalanced 90 = .ok (.getfield 24, 3) := by decide +kernel
theorem dX0_isBalanced_93 : decode cX0_isBalanced 93 = .ok (.aload_n 0, 1) := by decide +kernel
theorem dX0_isBalanced_94 : decode cX0_isBalanced 94 = .ok (.getfield 27, 3) := by decide +kernel
theorem dX0_isBalanced_97 : decode cX0_isBalanced 97 = .ok (.invokevirtual 77, 3) := by decide +kernel
theorem dX0_isBalanced_100 : decode cX0_isBalanced 100 = .ok (.ifCond .ne 5, 3) := by decide +kernel
theorem dX0_isBalanced_103 : decode cX0_isBalanced 103 = .ok (.iconst 0, 1) := by decide +kernel
theorem dX0_isBalanced_104 : decode cX0_isBalanced 104 = .ok (.ireturn, 1) := by decide +kernel
theorem dX0_isBalanced_105 : decode cX0_isBalanced 105 = .ok (.iinc 3 1, 3) := by decide +kernel
theorem dX0_isBalanced_108 : decode cX0_isBalanced 108 = .ok (.goto (-91), 3) := by decide +kernel
theorem dX0_isBalanced_111 : decode cX0_isBalanced 111 = .ok (.iinc 2 1, 3) := by decide +kernel
theorem dX0_isBalanced_114 : decode cX0_isBalanced 114 = .ok (.goto (-112), 3) := by decide +kernel
theorem dX0_isBalanced_117 : decode cX0_isBalanced 117 = .ok (.iconst 1, 1) := by decide +kernel
theorem dX0_isBalanced_118 : decode cX0_isBalanced 118 = .ok (.ireturn, 1) := by decide +kernel
theorem dX0_weigh_0 : decode cX0_weigh 0 = .ok (.aload_n 0, 1) := by decide +kernel
theorem dX0_weigh_1 : decode cX0_weigh 1 = .ok (.getfield 38, 3) := by decide +kernel
theorem dX0_weigh_4 : decode cX0_weigh 4 = .ok (.iload_n 1, 1) := by decide +kernel
theorem dX0_weigh_5 : decode cX0_weigh 5 = .ok (.aaload, 1) := by decide +kernel
theorem dX0_weigh_6 : decode cX0_weigh 6 = .ok (.iload_n 2, 1) := by decide +kernel
theorem dX0_weigh_7 : decode cX0_weigh 7 = .ok (.iload_n 3, 1) := by decide +kernel
theorem dX0_weigh_8 : decode cX0_weigh 8 = .ok (.aload 4, 2) := by decide +kernel
theorem dX0_weigh_10 : decode cX0_weigh 10 = .ok (.invokevirtual 46, 3) := by decide +kernel
theorem dX0_weigh_13 : decode cX0_weigh 13 = .ok (.aload_n 0, 1) := by decide +kernel
theorem dX0_weigh_14 : decode cX0_weigh 14 = .ok (.getfield 21, 3) := by decide +kernel
theorem dX0_weigh_17 : decode cX0_weigh 17 = .ok (.aload_n 0, 1) := by decide +kernel
theorem dX0_weigh_18 : decode cX0_weigh 18 = .ok (.getfield 34, 3) := by decide +kernel
theorem dX0_weigh_21 : decode cX0_weigh 21 = .ok (.getfield 73, 3) := by decide +kernel
theorem dX0_weigh_24 : decode cX0_weigh 24 = .ok (.iload_n 2, 1) := by decide +kernel
theorem dX0_weigh_25 : decode cX0_weigh 25 = .ok (.iaload, 1) := by decide +kernel
theorem dX0_weigh_26 : decode cX0_weigh 26 = .ok (.i2l, 1) := by decide +kernel
theorem dX0_weigh_27 : decode cX0_weigh 27 = .ok (.lconst 1, 1) := by decide +kernel
theorem dX0_weigh_28 : decode cX0_weigh 28 = .ok (.invokevirtual 57, 3) := by decide +kernel
theorem dX0_weigh_31 : decode cX0_weigh 31 = .ok (.aload 4, 2) := by decide +kernel
theorem dX0_weigh_33 : decode cX0_weigh 33 = .ok (.aload_n 0, 1) := by decide +kernel
theorem dX0_weigh_34 : decode cX0_weigh 34 = .ok (.getfield 21, 3) := by decide +kernel
theorem dX0_weigh_37 : decode cX0_weigh 37 = .ok (.invokevirtual 81, 3) := by decide +kernel
theorem dX0_weigh_40 : decode cX0_weigh 40 = .ok (.return_, 1) := by decide +kernel
theorem dX0_reckon_0 : decode cX0_reckon 0 = .ok (.aload_n 0, 1) := by decide +kernel
theorem dX0_reckon_1 : decode cX0_reckon 1 = .ok (.getfield 38, 3) := by decide +kernel
theorem dX0_reckon_4 : decode cX0_reckon 4 = .ok (.iload_n 1, 1) := by decide +kernel
theorem dX0_reckon_5 : decode cX0_reckon 5 = .ok (.aaload, 1) := by decide +kernel
theorem dX0_reckon_6 : decode cX0_reckon 6 = .ok (.astore 5, 2) := by decide +kernel
theorem dX0_reckon_8 : decode cX0_reckon 8 = .ok (.aload 5, 2) := by decide +kernel
theorem dX0_reckon_10 : decode cX0_reckon 10 = .ok (.aload_n 0, 1) := by decide +kernel
theorem dX0_reckon_11 : decode cX0_reckon 11 = .ok (.getfield 30, 3) := by decide +kernel
theorem dX0_reckon_14 : decode cX0_reckon 14 = .ok (.invokevirtual 85, 3) := by decide +kernel
theorem dX0_reckon_17 : decode cX0_reckon 17 = .ok (.iload 4, 2) := by decide +kernel
theorem dX0_reckon_19 : decode cX0_reckon 19 = .ok (.iconst 2, 1) := by decide +kernel
theorem dX0_reckon_20 : decode cX0_reckon 20 = .ok (.if_icmp .gt 13, 3) := by decide +kernel
theorem dX0_reckon_23 : decode cX0_reckon 23 = .ok (.aload 5, 2) := by decide +kernel
theorem dX0_reckon_25 : decode cX0_reckon 25 = .ok (.iload_n 2, 1) := by decide +kernel
theorem dX0_reckon_26 : decode cX0_reckon 26 = .ok (.iload_n 3, 1) := by decide +kernel
theorem dX0_reckon_27 : decode cX0_reckon 27 = .ok (.invokevirtual 89, 3) := by decide +kernel
theorem dX0_reckon_30 : decode cX0_reckon 30 = .ok (.ifCond .eq 4, 3) := by decide +kernel
theorem dX0_reckon_33 : decode cX0_reckon 33 = .ok (.return_, 1) := by decide +kernel
theorem dX0_reckon_34 : decode cX0_reckon 34 = .ok (.aload 5, 2) := by decide +kernel
theorem dX0_reckon_36 : decode cX0_reckon 36 = .ok (.getfield 93, 3) := by decide +kernel
theorem dX0_reckon_39 : decode cX0_reckon 39 = .ok (.tableswitch 157 0 5 #[37, 51, 86, 119, 130, 144], 37) := by decide +kernel
theorem dX0_reckon_76 : decode cX0_reckon 76 = .ok (.aload_n 0, 1) := by decide +kernel
theorem dX0_reckon_77 : decode cX0_reckon 77 = .ok (.aload 5, 2) := by decide +kernel
theorem dX0_reckon_79 : decode cX0_reckon 79 = .ok (.getfield 96, 3) := by decide +kernel
theorem dX0_reckon_82 : decode cX0_reckon 82 = .ok (.iload_n 2, 1) := by decide +kernel
theorem dX0_reckon_83 : decode cX0_reckon 83 = .ok (.iload_n 3, 1) := by decide +kernel
theorem dX0_reckon_84 : decode cX0_reckon 84 = .ok (.invokevirtual 99, 3) := by decide +kernel
theorem dX0_reckon_87 : decode cX0_reckon 87 = .ok (.goto 119, 3) := by decide +kernel
theorem dX0_reckon_90 : decode cX0_reckon 90 = .ok (.aload_n 0, 1) := by decide +kernel
theorem dX0_reckon_91 : decode cX0_reckon 91 = .ok (.aload_n 0, 1) := by decide +kernel
theorem dX0_reckon_92 : decode cX0_reckon 92 = .ok (.getfield 34, 3) := by decide +kernel
theorem dX0_reckon_95 : decode cX0_reckon 95 = .ok (.iload_n 2, 1) := by decide +kernel
theorem dX0_reckon_96 : decode cX0_reckon 96 = .ok (.aload 5, 2) := by decide +kernel
theorem dX0_reckon_98 : decode cX0_reckon 98 = .ok (.getfield 96, 3) := by decide +kernel
theorem dX0_reckon_101 : decode cX0_reckon 101 = .ok (.invokevirtual 103, 3) := by decide +kernel
theorem dX0_reckon_104 : decode cX0_reckon 104 = .ok (.aload_n 0, 1) := by decide +kernel
theorem dX0_reckon_105 : decode cX0_reckon 105 = .ok (.getfield 34, 3) := by decide +kernel
theorem dX0_reckon_108 : decode cX0_reckon 108 = .ok (.iload_n 2, 1) := by decide +kernel
theorem dX0_reckon_109 : decode cX0_reckon 109 = .ok (.aload 5, 2) := by decide +kernel
theorem dX0_reckon_111 : decode cX0_reckon 111 = .ok (.getfield 96, 3) := by decide +kernel
theorem dX0_reckon_114 : decode cX0_reckon 114 = .ok (.invokevirtual 107, 3) := by decide +kernel
theorem dX0_reckon_117 : decode cX0_reckon 117 = .ok (.iload_n 2, 1) := by decide +kernel
theorem dX0_reckon_118 : decode cX0_reckon 118 = .ok (.iload_n 3, 1) := by decide +kernel
theorem dX0_reckon_119 : decode cX0_reckon 119 = .ok (.invokevirtual 110, 3) := by decide +kernel
theorem dX0_reckon_122 : decode cX0_reckon 122 = .ok (.goto 84, 3) := by decide +kernel
theorem dX0_reckon_125 : decode cX0_reckon 125 = .ok (.aload_n 0, 1) := by decide +kernel
theorem dX0_reckon_126 : decode cX0_reckon 126 = .ok (.getfield 34, 3) := by decide +kernel
theorem dX0_reckon_129 : decode cX0_reckon 129 = .ok (.iload_n 2, 1) := by decide +kernel
theorem dX0_reckon_130 : decode cX0_reckon 130 = .ok (.aload 5, 2) := by decide +kernel
theorem dX0_reckon_132 : decode cX0_reckon 132 = .ok (.getfield 96, 3) := by decide +kernel
theorem dX0_reckon_135 : decode cX0_reckon 135 = .ok (.aload 5, 2) := by decide +kernel
theorem dX0_reckon_137 : decode cX0_reckon 137 = .ok (.getfield 113, 3) := by decide +kernel
theorem dX0_reckon_140 : decode cX0_reckon 140 = .ok (.invokevirtual 116, 3) := by decide +kernel
theorem dX0_reckon_143 : decode cX0_reckon 143 = .ok (.istore 6, 2) := by decide +kernel
theorem dX0_reckon_145 : decode cX0_reckon 145 = .ok (.aload_n 0, 1) := by decide +kernel
theorem dX0_reckon_146 : decode cX0_reckon 146 = .ok (.iload 6, 2) := by decide +kernel
theorem dX0_reckon_148 : decode cX0_reckon 148 = .ok (.iload 6, 2) := by decide +kernel
theorem dX0_reckon_150 : decode cX0_reckon 150 = .ok (.iload_n 2, 1) := by decide +kernel
theorem dX0_reckon_151 : decode cX0_reckon 151 = .ok (.iload_n 3, 1) := by decide +kernel
theorem dX0_reckon_152 : decode cX0_reckon 152 = .ok (.invokevirtual 110, 3) := by decide +kernel
theorem dX0_reckon_155 : decode cX0_reckon 155 = .ok (.goto 51, 3) := by decide +kernel
theorem dX0_reckon_158 : decode cX0_reckon 158 = .ok (.aload_n 0, 1) := by decide +kernel
theorem dX0_reckon_159 : decode cX0_reckon 159 = .ok (.aload 5, 2) := by decide +kernel
theorem dX0_reckon_161 : decode cX0_reckon 161 = .ok (.iload_n 2, 1) := by decide +kernel
theorem dX0_reckon_162 : decode cX0_reckon 162 = .ok (.iload_n 3, 1) := by decide +kernel
theorem dX0_reckon_163 : decode cX0_reckon 163 = .ok (.invokevirtual 120, 3) := by decide +kernel
theorem dX0_reckon_166 : decode cX0_reckon 166 = .ok (.goto 40, 3) := by decide +kernel
theorem dX0_reckon_169 : decode cX0_reckon 169 = .ok (.aload_n 0, 1) := by decide +kernel
theorem dX0_reckon_170 : decode cX0_reckon 170 = .ok (.aload 5, 2) := by decide +kernel
theorem dX0_reckon_172 : decode cX0_reckon 172 = .ok (.getfield 96, 3) := by decide +kernel
theorem dX0_reckon_175 : decode cX0_reckon 175 = .ok (.iload_n 2, 1) := by decide +kernel
theorem dX0_reckon_176 : decode cX0_reckon 176 = .ok (.iload_n 3, 1) := by decide +kernel
theorem dX0_reckon_177 : decode cX0_reckon 177 = .ok (.invokevirtual 124, 3) := by decide +kernel
theorem dX0_reckon_180 : decode cX0_reckon 180 = .ok (.goto 26, 3) := by decide +kernel
theorem dX0_reckon_183 : decode cX0_reckon 183 = .ok (.aload_n 0, 1) := by decide +kernel
theorem dX0_reckon_184 : decode cX0_reckon 184 = .ok (.aload 5, 2) := by decide +kernel
theorem dX0_reckon_186 : decode cX0_reckon 186 = .ok (.iload_n 2, 1) := by decide +kernel
theorem dX0_reckon_187 : decode cX0_reckon 187 = .ok (.iload_n 3, 1) := by decide +kernel
theorem dX0_reckon_188 : decode cX0_reckon 188 = .ok (.iload 4, 2) := by decide +kernel
theorem dX0_reckon_190 : decode cX0_reckon 190 = .ok (.invokevirtual 127, 3) := by decide +kernel
theorem dX0_reckon_193 : decode cX0_reckon 193 = .ok (.goto 13, 3) := by decide +kernel
theorem dX0_reckon_196 : decode cX0_reckon 196 = .ok (.aload_n 0, 1) := by decide +kernel
theorem dX0_reckon_197 : decode cX0_reckon 197 = .ok (.aload 5, 2) := by decide +kernel
theorem dX0_reckon_199 : decode cX0_reckon 199 = .ok (.iload_n 2, 1) := by decide +kernel
theorem dX0_reckon_200 : decode cX0_reckon 200 = .ok (.iload_n 3, 1) := by decide +kernel
theorem dX0_reckon_201 : decode cX0_reckon 201 = .ok (.iload 4, 2) := by decide +kernel
theorem dX0_reckon_203 : decode cX0_reckon 203 = .ok (.invokevirtual 131, 3) := by decide +kernel
theorem dX0_reckon_206 : decode cX0_reckon 206 = .ok (.aload 5, 2) := by decide +kernel
theorem dX0_reckon_208 : decode cX0_reckon 208 = .ok (.iload_n 2, 1) := by decide +kernel
theorem dX0_reckon_209 : decode cX0_reckon 209 = .ok (.iload_n 3, 1) := by decide +kernel
theorem dX0_reckon_210 : decode cX0_reckon 210 = .ok (.aload_n 0, 1) := by decide +kernel
theorem dX0_reckon_211 : decode cX0_reckon 211 = .ok (.getfield 12, 3) := by decide +kernel
theorem dX0_reckon_214 : decode cX0_reckon 214 = .ok (.invokevirtual 134, 3) := by decide +kernel
theorem dX0_reckon_217 : decode cX0_reckon 217 = .ok (.return_, 1) := by decide +kernel
theorem dX0_redraw_0 : decode cX0_redraw 0 = .ok (.aload_n 0, 1) := by decide +kernel
theorem dX0_redraw_1 : decode cX0_redraw 1 = .ok (.getfield 34, 3) := by decide +kernel
theorem dX0_redraw_4 : decode cX0_redraw 4 = .ok (.iload_n 2, 1) := by decide +kernel
theorem dX0_redraw_5 : decode cX0_redraw 5 = .ok (.iload_n 1, 1) := by decide +kernel
theorem dX0_redraw_6 : decode cX0_redraw 6 = .ok (.invokevirtual 137, 3) := by decide +kernel
theorem dX0_redraw_9 : decode cX0_redraw 9 = .ok (.istore 4, 2) := by decide +kernel
theorem dX0_redraw_11 : decode cX0_redraw 11 = .ok (.iload 4, 2) := by decide +kernel
theorem dX0_redraw_13 : decode cX0_redraw 13 = .ok (.ifCond .ne 24, 3) := by decide +kernel
theorem dX0_redraw_16 : decode cX0_redraw 16 = .ok (.aload_n 0, 1) := by decide +kernel
theorem dX0_redraw_17 : decode cX0_redraw 17 = .ok (.getfield 12, 3) := by decide +kernel
theorem dX0_redraw_20 : decode cX0_redraw 20 = .ok (.iload_n 2, 1) := by decide +kernel
theorem dX0_redraw_21 : decode cX0_redraw 21 = .ok (.iload_n 3, 1) := by decide +kernel
theorem dX0_redraw_22 : decode cX0_redraw 22 = .ok (.if_icmp .ne 7, 3) := by decide +kernel
theorem dX0_redraw_25 : decode cX0_redraw 25 = .ok (.lconst 1, 1) := by decide +kernel
theorem dX0_redraw_26 : decode cX0_redraw 26 = .ok (.goto 4, 3) := by decide +kernel
theorem dX0_redraw_29 : decode cX0_redraw 29 = .ok (.lconst 0, 1) := by decide +kernel
theorem dX0_redraw_30 : decode cX0_redraw 30 = .ok (.lconst 1, 1) := by decide +kernel
theorem dX0_redraw_31 : decode cX0_redraw 31 = .ok (.invokevirtual 57, 3) := by decide +kernel
theorem dX0_redraw_34 : decode cX0_redraw 34 = .ok (.goto 40, 3) := by decide +kernel
theorem dX0_redraw_37 : decode cX0_redraw 37 = .ok (.aload_n 0, 1) := by decide +kernel
theorem dX0_redraw_38 : decode cX0_redraw 38 = .ok (.getfield 12, 3) := by decide +kernel
theorem dX0_redraw_41 : decode cX0_redraw 41 = .ok (.aload_n 0, 1) := by decide +kernel
theorem dX0_redraw_42 : decode cX0_redraw 42 = .ok (.getfield 34, 3) := by decide +kernel
theorem dX0_redraw_45 : decode cX0_redraw 45 = .ok (.iload_n 2, 1) := by decide +kernel
theorem dX0_redraw_46 : decode cX0_redraw 46 = .ok (.iload_n 3, 1) := by decide +kernel
theorem dX0_redraw_47 : decode cX0_redraw 47 = .ok (.iload_n 1, 1) := by decide +kernel
theorem dX0_redraw_48 : decode cX0_redraw 48 = .ok (.invokevirtual 140, 3) := by decide +kernel
theorem dX0_redraw_51 : decode cX0_redraw 51 = .ok (.ifCond .eq 16, 3) := by decide +kernel
theorem dX0_redraw_54 : decode cX0_redraw 54 = .ok (.aload_n 0, 1) := by decide +kernel
theorem dX0_redraw_55 : decode cX0_redraw 55 = .ok (.getfield 34, 3) := by decide +kernel
theorem dX0_redraw_58 : decode cX0_redraw 58 = .ok (.getfield 73, 3) := by decide +kernel
theorem dX0_redraw_61 : decode cX0_redraw 61 = .ok (.iload_n 3, 1) := by decide +kernel
theorem dX0_redraw_62 : decode cX0_redraw 62 = .ok (.iaload, 1) := by decide +kernel
theorem dX0_redraw_63 : decode cX0_redraw 63 = .ok (.i2l, 1) := by decide +kernel
theorem dX0_redraw_64 : decode cX0_redraw 64 = .ok (.goto 4, 3) := by decide +kernel
theorem dX0_redraw_67 : decode cX0_redraw 67 = .ok (.lconst 0, 1) := by decide +kernel
theorem dX0_redraw_68 : decode cX0_redraw 68 = .ok (.iload 4, 2) := by decide +kernel
theorem dX0_redraw_70 : decode cX0_redraw 70 = .ok (.i2l, 1) := by decide +kernel
theorem dX0_redraw_71 : decode cX0_redraw 71 = .ok (.invokevirtual 57, 3) := by decide +kernel
theorem dX0_redraw_74 : decode cX0_redraw 74 = .ok (.return_, 1) := by decide +kernel
theorem dX0_propose_0 : decode cX0_propose 0 = .ok (.aload_n 0, 1) := by decide +kernel
theorem dX0_propose_1 : decode cX0_propose 1 = .ok (.getfield 34, 3) := by decide +kernel
theorem dX0_propose_4 : decode cX0_propose 4 = .ok (.iload_n 3, 1) := by decide +kernel
theorem dX0_propose_5 : decode cX0_propose 5 = .ok (.invokevirtual 144, 3) := by decide +kernel
theorem dX0_propose_8 : decode cX0_propose 8 = .ok (.istore 5, 2) := by decide +kernel
theorem dX0_propose_10 : decode cX0_propose 10 = .ok (.aload_n 0, 1) := by decide +kernel
theorem dX0_propose_11 : decode cX0_propose 11 = .ok (.getfield 34, 3) := by decide +kernel
theorem dX0_propose_14 : decode cX0_propose 14 = .ok (.iload_n 3, 1) := by decide +kernel
theorem dX0_propose_15 : decode cX0_propose 15 = .ok (.iload_n 1, 1) := by decide +kernel
theorem dX0_propose_16 : decode cX0_propose 16 = .ok (.invokevirtual 148, 3) := by decide +kernel
theorem dX0_propose_19 : decode cX0_propose 19 = .ok (.istore 6, 2) := by decide +kernel
theorem dX0_propose_21 : decode cX0_propose 21 = .ok (.aload_n 0, 1) := by decide +kernel
theorem dX0_propose_22 : decode cX0_propose 22 = .ok (.getfield 34, 3) := by decide +kernel
theorem dX0_propose_25 : decode cX0_propose 25 = .ok (.iload_n 3, 1) := by decide +kernel
theorem dX0_propose_26 : decode cX0_propose 26 = .ok (.iload_n 2, 1) := by decide +kernel
theorem dX0_propose_27 : decode cX0_propose 27 = .ok (.invokevirtual 148, 3) := by decide +kernel
theorem dX0_propose_30 : decode cX0_propose 30 = .ok (.istore 7, 2) := by decide +kernel
theorem dX0_propose_32 : decode cX0_propose 32 = .ok (.iload 4, 2) := by decide +kernel
theorem dX0_propose_34 : decode cX0_propose 34 = .ok (.iload_n 1, 1) := by decide +kernel
theorem dX0_propose_35 : decode cX0_propose 35 = .ok (.if_icmp .ne 8, 3) := by decide +kernel
theorem dX0_propose_38 : decode cX0_propose 38 = .ok (.iload 6, 2) := by decide +kernel
theorem dX0_propose_40 : decode cX0_propose 40 = .ok (.goto 4, 3) := by decide +kernel
theorem dX0_propose_43 : decode cX0_propose 43 = .ok (.iconst 0, 1) := by decide +kernel
theorem dX0_propose_44 : decode cX0_propose 44 = .ok (.iload 4, 2) := by decide +kernel
theorem dX0_propose_46 : decode cX0_propose 46 = .ok (.iload_n 2, 1) := by decide +kernel
theorem dX0_propose_47 : decode cX0_propose 47 = .ok (.if_icmp .ne 8, 3) := by decide +kernel
theorem dX0_propose_50 : decode cX0_propose 50 = .ok (.iload 7, 2) := by decide +kernel
theorem dX0_propose_52 : decode cX0_propose 52 = .ok (.goto 4, 3) := by decide +kernel
theorem dX0_propose_55 : decode cX0_propose 55 = .ok (.iconst 0, 1) := by decide +kernel
theorem dX0_propose_56 : decode cX0_propose 56 = .ok (.iadd, 1) := by decide +kernel
theorem dX0_propose_57 : decode cX0_propose 57 = .ok (.istore 8, 2) := by decide +kernel
theorem dX0_propose_59 : decode cX0_propose 59 = .ok (.iload 4, 2) := by decide +kernel
theorem dX0_propose_61 : decode cX0_propose 61 = .ok (.iload_n 3, 1) := by decide +kernel
theorem dX0_propose_62 : decode cX0_propose 62 = .ok (.if_icmp .ne 16, 3) := by decide +kernel
theorem dX0_propose_65 : decode cX0_propose 65 = .ok (.iconst 2, 1) := by decide +kernel
theorem dX0_propose_66 : decode cX0_propose 66 = .ok (.iload 5, 2) := by decide +kernel
theorem dX0_propose_68 : decode cX0_propose 68 = .ok (.imul, 1) := by decide +kernel
theorem dX0_propose_69 : decode cX0_propose 69 = .ok (.iload 6, 2) := by decide +kernel
theorem dX0_propose_71 : decode cX0_propose 71 = .ok (.isub, 1) := by decide +kernel
theorem dX0_propose_72 : decode cX0_propose 72 = .ok (.iload 7, 2) := by decide +kernel
theorem dX0_propose_74 : decode cX0_propose 74 = .ok (.isub, 1) := by decide +kernel
theorem dX0_propose_75 : decode cX0_propose 75 = .ok (.goto 4, 3) := by decide +kernel
theorem dX0_propose_78 : decode cX0_propose 78 = .ok (.iconst 0, 1) := by decide +kernel
theorem dX0_propose_79 : decode cX0_propose 79 = .ok (.istore 9, 2) := by decide +kernel
theorem dX0_propose_81 : decode cX0_propose 81 = .ok (.aload_n 0, 1) := by decide +kernel
theorem dX0_propose_82 : decode cX0_propose 82 = .ok (.getfield 12, 3) := by decide +kernel
theorem dX0_propose_85 : decode cX0_propose 85 = .ok (.iload 8, 2) := by decide +kernel
theorem dX0_propose_87 : decode cX0_propose 87 = .ok (.iload 9, 2) := by decide +kernel
theorem dX0_propose_89 : decode cX0_propose 89 = .ok (.iadd, 1) := by decide +kernel
theorem dX0_propose_90 : decode cX0_propose 90 = .ok (.i2l, 1) := by decide +kernel
theorem dX0_propose_91 : decode cX0_propose 91 = .ok (.ldc2_w 151, 3) := by decide +kernel
theorem dX0_propose_94 : decode cX0_propose 94 = .ok (.iload 5, 2) := by decide +kernel
theorem dX0_propose_96 : decode cX0_propose 96 = .ok (.i2l, 1) := by decide +kernel
theorem dX0_propose_97 : decode cX0_propose 97 = .ok (.lmul, 1) := by decide +kernel
theorem dX0_propose_98 : decode cX0_propose 98 = .ok (.invokevirtual 57, 3) := by decide +kernel
theorem dX0_propose_101 : decode cX0_propose 101 = .ok (.return_, 1) := by decide +kernel
theorem dX0_tell_0 : decode cX0_tell 0 = .ok (.iload_n 2, 1) := by decide +kernel
theorem dX0_tell_1 : decode cX0_tell 1 = .ok (.iload_n 3, 1) := by decide +kernel
theorem dX0_tell_2 : decode cX0_tell 2 = .ok (.if_icmp .eq 15, 3) := by decide +kernel
theorem dX0_tell_5 : decode cX0_tell 5 = .ok (.aload_n 0, 1) := by decide +kernel
theorem dX0_tell_6 : decode cX0_tell 6 = .ok (.aload_n 1, 1) := by decide +kernel
theorem dX0_tell_7 : decode cX0_tell 7 = .ok (.iload_n 2, 1) := by decide +kernel
theorem dX0_tell_8 : decode cX0_tell 8 = .ok (.iload_n 3, 1) := by decide +kernel
theorem dX0_tell_9 : decode cX0_tell 9 = .ok (.aload_n 0, 1) := by decide +kernel
theorem dX0_tell_10 : decode cX0_tell 10 = .ok (.getfield 12, 3) := by decide +kernel
theorem dX0_tell_13 : decode cX0_tell 13 = .ok (.invokevirtual 153, 3) := by decide +kernel
theorem dX0_tell_16 : decode cX0_tell 16 = .ok (.return_, 1) := by decide +kernel
theorem dX0_tell_17 : decode cX0_tell 17 = .ok (.aload_n 0, 1) := by decide +kernel
theorem dX0_tell_18 : decode cX0_tell 18 = .ok (.getfield 12, 3) := by decide +kernel
theorem dX0_tell_21 : decode cX0_tell 21 = .ok (.lconst 1, 1) := by decide +kernel
theorem dX0_tell_22 : decode cX0_tell 22 = .ok (.lconst 1, 1) := by decide +kernel
theorem dX0_tell_23 : decode cX0_tell 23 = .ok (.invokevirtual 57, 3) := by decide +kernel
theorem dX0_tell_26 : decode cX0_tell 26 = .ok (.iconst 0, 1) := by decide +kernel
theorem dX0_tell_27 : decode cX0_tell 27 = .ok (.istore 4, 2) := by decide +kernel
theorem dX0_tell_29 : decode cX0_tell 29 = .ok (.iload 4, 2) := by decide +kernel
theorem dX0_tell_31 : decode cX0_tell 31 = .ok (.aload_n 0, 1) := by decide +kernel
theorem dX0_tell_32 : decode cX0_tell 32 = .ok (.getfield 34, 3) := by decide +kernel
theorem dX0_tell_35 : decode cX0_tell 35 = .ok (.getfield 52, 3) := by decide +kernel
theorem dX0_tell_38 : decode cX0_tell 38 = .ok (.if_icmp .ge 39, 3) := by decide +kernel
theorem dX0_tell_41 : decode cX0_tell 41 = .ok (.iload 4, 2) := by decide +kernel
theorem dX0_tell_43 : decode cX0_tell 43 = .ok (.iload_n 2, 1) := by decide +kernel
theorem dX0_tell_44 : decode cX0_tell 44 = .ok (.if_icmp .eq 27, 3) := by decide +kernel
theorem dX0_tell_47 : decode cX0_tell 47 = .ok (.aload_n 0, 1) := by decide +kernel
theorem dX0_tell_48 : decode cX0_tell 48 = .ok (.aload_n 1, 1) := by decide +kernel
theorem dX0_tell_49 : decode cX0_tell 49 = .ok (.iload_n 2, 1) := by decide +kernel
theorem dX0_tell_50 : decode cX0_tell 50 = .ok (.iload 4, 2) := by decide +kernel
theorem dX0_tell_52 : decode cX0_tell 52 = .ok (.aload_n 0, 1) := by decide +kernel
theorem dX0_tell_53 : decode cX0_tell 53 = .ok (.getfield 18, 3) := by decide +kernel
theorem dX0_tell_56 : decode cX0_tell 56 = .ok (.invokevirtual 153, 3) := by decide +kernel
theorem dX0_tell_59 : decode cX0_tell 59 = .ok (.aload_n 0, 1) := by decide +kernel
theorem dX0_tell_60 : decode cX0_tell 60 = .ok (.getfield 12, 3) := by decide +kernel
theorem dX0_tell_63 : decode cX0_tell 63 = .ok (.iconst (-1), 1) := by decide +kernel
theorem dX0_tell_64 : decode cX0_tell 64 = .ok (.aload_n 0, 1) := by decide +kernel
theorem dX0_tell_65 : decode cX0_tell 65 = .ok (.getfield 18, 3) := by decide +kernel
theorem dX0_tell_68 : decode cX0_tell 68 = .ok (.invokevirtual 69, 3) := by decide +kernel
theorem dX0_tell_71 : decode cX0_tell 71 = .ok (.iinc 4 1, 3) := by decide +kernel
theorem dX0_tell_74 : decode cX0_tell 74 = .ok (.goto (-45), 3) := by decide +kernel
theorem dX0_tell_77 : decode cX0_tell 77 = .ok (.return_, 1) := by decide +kernel
theorem dX0_tellOther_0 : decode cX0_tellOther 0 = .ok (.aload_n 1, 1) := by decide +kernel
theorem dX0_tellOther_1 : decode cX0_tellOther 1 = .ok (.iload_n 2, 1) := by decide +kernel
theorem dX0_tellOther_2 : decode cX0_tellOther 2 = .ok (.iload_n 3, 1) := by decide +kernel
theorem dX0_tellOther_3 : decode cX0_tellOther 3 = .ok (.invokevirtual 157, 3) := by decide +kernel
theorem dX0_tellOther_6 : decode cX0_tellOther 6 = .ok (.i2l, 1) := by decide +kernel
theorem dX0_tellOther_7 : decode cX0_tellOther 7 = .ok (.lstore 5, 2) := by decide +kernel
theorem dX0_tellOther_9 : decode cX0_tellOther 9 = .ok (.aload_n 1, 1) := by decide +kernel
theorem dX0_tellOther_10 : decode cX0_tellOther 10 = .ok (.getfield 160, 3) := by decide +kernel
theorem dX0_tellOther_13 : decode cX0_tellOther 13 = .ok (.iload_n 2, 1) := by decide +kernel
theorem dX0_tellOther_14 : decode cX0_tellOther 14 = .ok (.iaload, 1) := by decide +kernel
theorem dX0_tellOther_15 : decode cX0_tellOther 15 = .ok (.i2l, 1) := by decide +kernel
theorem dX0_tellOther_16 : decode cX0_tellOther 16 = .ok (.lstore 7, 2) := by decide +kernel
theorem dX0_tellOther_18 : decode cX0_tellOther 18 = .ok (.aload_n 0, 1) := by decide +kernel
theorem dX0_tellOther_19 : decode cX0_tellOther 19 = .ok (.getfield 34, 3) := by decide +kernel
theorem dX0_tellOther_22 : decode cX0_tellOther 22 = .ok (.aload_n 1, 1) := by decide +kernel
theorem dX0_tellOther_23 : decode cX0_tellOther 23 = .ok (.iload_n 2, 1) := by decide +kernel
theorem dX0_tellOther_24 : decode cX0_tellOther 24 = .ok (.iload_n 3, 1) := by decide +kernel
theorem dX0_tellOther_25 : decode cX0_tellOther 25 = .ok (.invokevirtual 163, 3) := by decide +kernel
theorem dX0_tellOther_28 : decode cX0_tellOther 28 = .ok (.lstore 9, 2) := by decide +kernel
theorem dX0_tellOther_30 : decode cX0_tellOther 30 = .ok (.aload_n 0, 1) := by decide +kernel
theorem dX0_tellOther_31 : decode cX0_tellOther 31 = .ok (.getfield 34, 3) := by decide +kernel
theorem dX0_tellOther_34 : decode cX0_tellOther 34 = .ok (.aload_n 1, 1) := by decide +kernel
theorem dX0_tellOther_35 : decode cX0_tellOther 35 = .ok (.iload_n 3, 1) := by decide +kernel
theorem dX0_tellOther_36 : decode cX0_tellOther 36 = .ok (.iload_n 2, 1) := by decide +kernel
theorem dX0_tellOther_37 : decode cX0_tellOther 37 = .ok (.invokevirtual 163, 3) := by decide +kernel
theorem dX0_tellOther_40 : decode cX0_tellOther 40 = .ok (.lstore 11, 2) := by decide +kernel
theorem dX0_tellOther_42 : decode cX0_tellOther 42 = .ok (.aload_n 0, 1) := by decide +kernel
theorem dX0_tellOther_43 : decode cX0_tellOther 43 = .ok (.getfield 34, 3) := by decide +kernel
theorem dX0_tellOther_46 : decode cX0_tellOther 46 = .ok (.getfield 73, 3) := by decide +kernel
theorem dX0_tellOther_49 : decode cX0_tellOther 49 = .ok (.iload_n 2, 1) := by decide +kernel
theorem dX0_tellOther_50 : decode cX0_tellOther 50 = .ok (.iaload, 1) := by decide +kernel
theorem dX0_tellOther_51 : decode cX0_tellOther 51 = .ok (.ifCond .ne 7, 3) := by decide +kernel
theorem dX0_tellOther_54 : decode cX0_tellOther 54 = .ok (.iconst 1, 1) := by decide +kernel
theorem dX0_tellOther_55 : decode cX0_tellOther 55 = .ok (.goto 4, 3) := by decide +kernel
theorem dX0_tellOther_58 : decode cX0_tellOther 58 = .ok (.iconst 0, 1) := by decide +kernel
theorem dX0_tellOther_59 : decode cX0_tellOther 59 = .ok (.istore 13, 2) := by decide +kernel
theorem dX0_tellOther_61 : decode cX0_tellOther 61 = .ok (.lload 5, 2) := by decide +kernel
theorem dX0_tellOther_63 : decode cX0_tellOther 63 = .ok (.lconst 0, 1) := by decide +kernel
theorem dX0_tellOther_64 : decode cX0_tellOther 64 = .ok (.lcmp, 1) := by decide +kernel
theorem dX0_tellOther_65 : decode cX0_tellOther 65 = .ok (.ifCond .eq 15, 3) := by decide +kernel
theorem dX0_tellOther_68 : decode cX0_tellOther 68 = .ok (.iload 13, 2) := by decide +kernel
theorem dX0_tellOther_70 : decode cX0_tellOther 70 = .ok (.ifCond .ne 20, 3) := by decide +kernel
theorem dX0_tellOther_73 : decode cX0_tellOther 73 = .ok (.lload 9, 2) := by decide +kernel
theorem dX0_tellOther_75 : decode cX0_tellOther 75 = .ok (.lconst 0, 1) := by decide +kernel
theorem dX0_tellOther_76 : decode cX0_tellOther 76 = .ok (.lcmp, 1) := by decide +kernel
theorem dX0_tellOther_77 : decode cX0_tellOther 77 = .ok (.ifCond .ne 13, 3) := by decide +kernel
theorem dX0_tellOther_80 : decode cX0_tellOther 80 = .ok (.aload 4, 2) := by decide +kernel
theorem dX0_tellOther_82 : decode cX0_tellOther 82 = .ok (.lconst 0, 1) := by decide +kernel
theorem dX0_tellOther_83 : decode cX0_tellOther 83 = .ok (.lconst 1, 1) := by decide +kernel
theorem dX0_tellOther_84 : decode cX0_tellOther 84 = .ok (.invokevirtual 57, 3) := by decide +kernel
theorem dX0_tellOther_87 : decode cX0_tellOther 87 = .ok (.goto 43, 3) := by decide +kernel
theorem dX0_tellOther_90 : decode cX0_tellOther 90 = .ok (.iload 13, 2) := by decide +kernel
theorem dX0_tellOther_92 : decode cX0_tellOther 92 = .ok (.ifCond .ne 11, 3) := by decide +kernel
theorem dX0_tellOther_95 : decode cX0_tellOther 95 = .ok (.lload 9, 2) := by decide +kernel
theorem dX0_tellOther_97 : decode cX0_tellOther 97 = .ok (.lload 11, 2) := by decide +kernel
theorem dX0_tellOther_99 : decode cX0_tellOther 99 = .ok (.lcmp, 1) := by decide +kernel
theorem dX0_tellOther_100 : decode cX0_tellOther 100 = .ok (.ifCond .lt 15, 3) := by decide +kernel
theorem dX0_tellOther_103 : decode cX0_tellOther 103 = .ok (.aload 4, 2) := by decide +kernel
theorem dX0_tellOther_105 : decode cX0_tellOther 105 = .ok (.lload 5, 2) := by decide +kernel
theorem dX0_tellOther_107 : decode cX0_tellOther 107 = .ok (.lload 7, 2) := by decide +kernel
theorem dX0_tellOther_109 : decode cX0_tellOther 109 = .ok (.invokevirtual 57, 3) := by decide +kernel
theorem dX0_tellOther_112 : decode cX0_tellOther 112 = .ok (.goto 18, 3) := by decide +kernel
theorem dX0_tellOther_115 : decode cX0_tellOther 115 = .ok (.aload 4, 2) := by decide +kernel
theorem dX0_tellOther_117 : decode cX0_tellOther 117 = .ok (.lload 5, 2) := by decide +kernel
theorem dX0_tellOther_119 : decode cX0_tellOther 119 = .ok (.lload 9, 2) := by decide +kernel
theorem dX0_tellOther_121 : decode cX0_tellOther 121 = .ok (.lmul, 1) := by decide +kernel
theorem dX0_tellOther_122 : decode cX0_tellOther 122 = .ok (.lload 7, 2) := by decide +kernel
theorem dX0_tellOther_124 : decode cX0_tellOther 124 = .ok (.lload 11, 2) := by decide +kernel
theorem dX0_tellOther_126 : decode cX0_tellOther 126 = .ok (.lmul, 1) := by decide +kernel
theorem dX0_tellOther_127 : decode cX0_tellOther 127 = .ok (.invokevirtual 57, 3) := by decide +kernel
theorem dX0_tellOther_130 : decode cX0_tellOther 130 = .ok (.return_, 1) := by decide +kernel
theorem dX0_slice_0 : decode cX0_slice 0 = .ok (.aload_n 0, 1) := by decide +kernel
theorem dX0_slice_1 : decode cX0_slice 1 = .ok (.getfield 34, 3) := by decide +kernel
theorem dX0_slice_4 : decode cX0_slice 4 = .ok (.getfield 73, 3) := by decide +kernel
theorem dX0_slice_7 : decode cX0_slice 7 = .ok (.iload_n 2, 1) := by decide +kernel
theorem dX0_slice_8 : decode cX0_slice 8 = .ok (.iaload, 1) := by decide +kernel
theorem dX0_slice_9 : decode cX0_slice 9 = .ok (.istore 4, 2) := by decide +kernel
theorem dX0_slice_11 : decode cX0_slice 11 = .ok (.iload 4, 2) := by decide +kernel
theorem dX0_slice_13 : decode cX0_slice 13 = .ok (.ifCond .eq 16, 3) := by decide +kernel
theorem dX0_slice_16 : decode cX0_slice 16 = .ok (.aload_n 0, 1) := by decide +kernel
theorem dX0_slice_17 : decode cX0_slice 17 = .ok (.getfield 34, 3) := by decide +kernel
theorem dX0_slice_20 : decode cX0_slice 20 = .ok (.iload_n 2, 1) := by decide +kernel
theorem dX0_slice_21 : decode cX0_slice 21 = .ok (.iload_n 3, 1) := by decide +kernel
theorem dX0_slice_22 : decode cX0_slice 22 = .ok (.iload_n 1, 1) := by decide +kernel
theorem dX0_slice_23 : decode cX0_slice 23 = .ok (.invokevirtual 140, 3) := by decide +kernel
theorem dX0_slice_26 : decode cX0_slice 26 = .ok (.ifCond .ne 22, 3) := by decide +kernel
theorem dX0_slice_29 : decode cX0_slice 29 = .ok (.aload_n 0, 1) := by decide +kernel
theorem dX0_slice_30 : decode cX0_slice 30 = .ok (.getfield 12, 3) := by decide +kernel
theorem dX0_slice_33 : decode cX0_slice 33 = .ok (.iload_n 2, 1) := by decide +kernel
theorem dX0_slice_34 : decode cX0_slice 34 = .ok (.iload_n 3, 1) := by decide +kernel
theorem dX0_slice_35 : decode cX0_slice 35 = .ok (.if_icmp .ne 7, 3) := by decide +kernel
theorem dX0_slice_38 : decode cX0_slice 38 = .ok (.lconst 1, 1) := by decide +kernel
theorem dX0_slice_39 : decode cX0_slice 39 = .ok (.goto 4, 3) := by decide +kernel
theorem dX0_slice_42 : decode cX0_slice 42 = .ok (.lconst 0, 1) := by decide +kernel
theorem dX0_slice_43 : decode cX0_slice 43 = .ok (.lconst 1, 1) := by decide +kernel
theorem dX0_slice_44 : decode cX0_slice 44 = .ok (.invokevirtual 57, 3) := by decide +kernel
theorem dX0_slice_47 : decode cX0_slice 47 = .ok (.return_, 1) := by decide +kernel
theorem dX0_slice_48 : decode cX0_slice 48 = .ok (.iload 4, 2) := by decide +kernel
theorem dX0_slice_50 : decode cX0_slice 50 = .ok (.aload_n 0, 1) := by decide +kernel
theorem dX0_slice_51 : decode cX0_slice 51 = .ok (.getfield 34, 3) := by decide +kernel
theorem dX0_slice_54 : decode cX0_slice 54 = .ok (.getfield 73, 3) := by decide +kernel
theorem dX0_slice_57 : decode cX0_slice 57 = .ok (.iload_n 3, 1) := by decide +kernel
theorem dX0_slice_58 : decode cX0_slice 58 = .ok (.iaload, 1) := by decide +kernel
theorem dX0_slice_59 : decode cX0_slice 59 = .ok (.invokestatic 167, 3) := by decide +kernel
theorem dX0_slice_62 : decode cX0_slice 62 = .ok (.istore 5, 2) := by decide +kernel
theorem dX0_slice_64 : decode cX0_slice 64 = .ok (.iconst 0, 1) := by decide +kernel
theorem dX0_slice_65 : decode cX0_slice 65 = .ok (.istore 6, 2) := by decide +kernel
theorem dX0_slice_67 : decode cX0_slice 67 = .ok (.lconst 0, 1) := by decide +kernel
theorem dX0_slice_68 : decode cX0_slice 68 = .ok (.lstore 7, 2) := by decide +kernel
theorem dX0_slice_70 : decode cX0_slice 70 = .ok (.iconst 0, 1) := by decide +kernel
theorem dX0_slice_71 : decode cX0_slice 71 = .ok (.istore 9, 2) := by decide +kernel
theorem dX0_slice_73 : decode cX0_slice 73 = .ok (.iload 9, 2) := by decide +kernel
theorem dX0_slice_75 : decode cX0_slice 75 = .ok (.bipush 6, 2) := by decide +kernel
theorem dX0_slice_77 : decode cX0_slice 77 = .ok (.if_icmp .ge 69, 3) := by decide +kernel
theorem dX0_slice_80 : decode cX0_slice 80 = .ok (.iload 6, 2) := by decide +kernel
theorem dX0_slice_82 : decode cX0_slice 82 = .ok (.iload 5, 2) := by decide +kernel
theorem dX0_slice_84 : decode cX0_slice 84 = .ok (.if_icmp .ge 62, 3) := by decide +kernel
theorem dX0_slice_87 : decode cX0_slice 87 = .ok (.aload_n 0, 1) := by decide +kernel
theorem dX0_slice_88 : decode cX0_slice 88 = .ok (.iload_n 1, 1) := by decide +kernel
theorem dX0_slice_89 : decode cX0_slice 89 = .ok (.iload_n 2, 1) := by decide +kernel
theorem dX0_slice_90 : decode cX0_slice 90 = .ok (.iload 6, 2) := by decide +kernel
theorem dX0_slice_92 : decode cX0_slice 92 = .ok (.iload 5, 2) := by decide +kernel
theorem dX0_slice_94 : decode cX0_slice 94 = .ok (.invokevirtual 172, 3) := by decide +kernel
theorem dX0_slice_97 : decode cX0_slice 97 = .ok (.istore 10, 2) := by decide +kernel
theorem dX0_slice_99 : decode cX0_slice 99 = .ok (.aload_n 0, 1) := by decide +kernel
theorem dX0_slice_100 : decode cX0_slice 100 = .ok (.getfield 34, 3) := by decide +kernel
theorem dX0_slice_103 : decode cX0_slice 103 = .ok (.iload_n 2, 1) := by decide +kernel
theorem dX0_slice_104 : decode cX0_slice 104 = .ok (.iload_n 1, 1) := by decide +kernel
theorem dX0_slice_105 : decode cX0_slice 105 = .ok (.iload 6, 2) := by decide +kernel
theorem dX0_slice_107 : decode cX0_slice 107 = .ok (.iconst 1, 1) := by decide +kernel
theorem dX0_slice_108 : decode cX0_slice 108 = .ok (.iadd, 1) := by decide +kernel
theorem dX0_slice_109 : decode cX0_slice 109 = .ok (.invokevirtual 176, 3) := by decide +kernel
theorem dX0_slice_112 : decode cX0_slice 112 = .ok (.iconst 1, 1) := by decide +kernel
theorem dX0_slice_113 : decode cX0_slice 113 = .ok (.invokestatic 179, 3) := by decide +kernel
theorem dX0_slice_116 : decode cX0_slice 116 = .ok (.istore 11, 2) := by decide +kernel
theorem dX0_slice_118 : decode cX0_slice 118 = .ok (.lload 7, 2) := by decide +kernel
theorem dX0_slice_120 : decode cX0_slice 120 = .ok (.iload 10, 2) := by decide +kernel
theorem dX0_slice_122 : decode cX0_slice 122 = .ok (.iload 6, 2) := by decide +kernel
theorem dX0_slice_124 : decode cX0_slice 124 = .ok (.isub, 1) := by decide +kernel
theorem dX0_slice_125 : decode cX0_slice 125 = .ok (.i2l, 1) := by decide +kernel
theorem dX0_slice_126 : decode cX0_slice 126 = .ok (.bipush 60, 2) := by decide +kernel
theorem dX0_slice_128 : decode cX0_slice 128 = .ok (.iload 11, 2) := by decide +kernel
theorem dX0_slice_130 : decode cX0_slice 130 = .ok (.idiv, 1) := by decide +kernel
theorem dX0_slice_131 : decode cX0_slice 131 = .ok (.i2l, 1) := by decide +kernel
theorem dX0_slice_132 : decode cX0_slice 132 = .ok (.lmul, 1) := by decide +kernel
theorem dX0_slice_133 : decode cX0_slice 133 = .ok (.ladd, 1) := by decide +kernel
theorem dX0_slice_134 : decode cX0_slice 134 = .ok (.lstore 7, 2) := by decide +kernel
theorem dX0_slice_136 : decode cX0_slice 136 = .ok (.iload 10, 2) := by decide +kernel
theorem dX0_slice_138 : decode cX0_slice 138 = .ok (.istore 6, 2) := by decide +kernel
theorem dX0_slice_140 : decode cX0_slice 140 = .ok (.iinc 9 1, 3) := by decide +kernel
theorem dX0_slice_143 : decode cX0_slice 143 = .ok (.goto (-70), 3) := by decide +kernel
theorem dX0_slice_146 : decode cX0_slice 146 = .ok (.aload_n 0, 1) := by decide +kernel
theorem dX0_slice_147 : decode cX0_slice 147 = .ok (.getfield 12, 3) := by decide +kernel
theorem dX0_slice_150 : decode cX0_slice 150 = .ok (.lload 7, 2) := by decide +kernel
theorem dX0_slice_152 : decode cX0_slice 152 = .ok (.ldc2_w 182, 3) := by decide +kernel
theorem dX0_slice_155 : decode cX0_slice 155 = .ok (.iload 4, 2) := by decide +kernel
theorem dX0_slice_157 : decode cX0_slice 157 = .ok (.i2l, 1) := by decide +kernel
theorem dX0_slice_158 : decode cX0_slice 158 = .ok (.lmul, 1) := by decide +kernel
theorem dX0_slice_159 : decode cX0_slice 159 = .ok (.invokevirtual 57, 3) := by decide +kernel
theorem dX0_slice_162 : decode cX0_slice 162 = .ok (.return_, 1) := by decide +kernel
theorem dX0_nextWeight_0 : decode cX0_nextWeight 0 = .ok (.iload 4, 2) := by decide +kernel
theorem dX0_nextWeight_2 : decode cX0_nextWeight 2 = .ok (.istore 5, 2) := by decide +kernel
theorem dX0_nextWeight_4 : decode cX0_nextWeight 4 = .ok (.iconst 0, 1) := by decide +kernel
theorem dX0_nextWeight_5 : decode cX0_nextWeight 5 = .ok (.istore 6, 2) := by decide +kernel
theorem dX0_nextWeight_7 : decode cX0_nextWeight 7 = .ok (.iload 6, 2) := by decide +kernel
theorem dX0_nextWeight_9 : decode cX0_nextWeight 9 = .ok (.aload_n 0, 1) := by decide +kernel
theorem dX0_nextWeight_10 : decode cX0_nextWeight 10 = .ok (.getfield 34, 3) := by decide +kernel
theorem dX0_nextWeight_13 : decode cX0_nextWeight 13 = .ok (.getfield 184, 3) := by decide +kernel
theorem dX0_nextWeight_16 : decode cX0_nextWeight 16 = .ok (.iload_n 1, 1) := by decide +kernel
theorem dX0_nextWeight_17 : decode cX0_nextWeight 17 = .ok (.iaload, 1) := by decide +kernel
theorem dX0_nextWeight_18 : decode cX0_nextWeight 18 = .ok (.if_icmp .ge 47, 3) := by decide +kernel
theorem dX0_nextWeight_21 : decode cX0_nextWeight 21 = .ok (.aload_n 0, 1) := by decide +kernel
theorem dX0_nextWeight_22 : decode cX0_nextWeight 22 = .ok (.getfield 34, 3) := by decide +kernel
theorem dX0_nextWeight_25 : decode cX0_nextWeight 25 = .ok (.getfield 73, 3) := by decide +kernel
theorem dX0_nextWeight_28 : decode cX0_nextWeight 28 = .ok (.aload_n 0, 1) := by decide +kernel
theorem dX0_nextWeight_29 : decode cX0_nextWeight 29 = .ok (.getfield 34, 3) := by decide +kernel
theorem dX0_nextWeight_32 : decode cX0_nextWeight 32 = .ok (.iload_n 2, 1) := by decide +kernel
theorem dX0_nextWeight_33 : decode cX0_nextWeight 33 = .ok (.iload_n 1, 1) := by decide +kernel
theorem dX0_nextWeight_34 : decode cX0_nextWeight 34 = .ok (.iload 6, 2) := by decide +kernel
theorem dX0_nextWeight_36 : decode cX0_nextWeight 36 = .ok (.invokevirtual 187, 3) := by decide +kernel
theorem dX0_nextWeight_39 : decode cX0_nextWeight 39 = .ok (.iaload, 1) := by decide +kernel
theorem dX0_nextWeight_40 : decode cX0_nextWeight 40 = .ok (.istore 7, 2) := by decide +kernel
theorem dX0_nextWeight_42 : decode cX0_nextWeight 42 = .ok (.iload 7, 2) := by decide +kernel
theorem dX0_nextWeight_44 : decode cX0_nextWeight 44 = .ok (.iload_n 3, 1) := by decide +kernel
theorem dX0_nextWeight_45 : decode cX0_nextWeight 45 = .ok (.if_icmp .le 14, 3) := by decide +kernel
theorem dX0_nextWeight_48 : decode cX0_nextWeight 48 = .ok (.iload 7, 2) := by decide +kernel
theorem dX0_nextWeight_50 : decode cX0_nextWeight 50 = .ok (.iload 5, 2) := by decide +kernel
theorem dX0_nextWeight_52 : decode cX0_nextWeight 52 = .ok (.if_icmp .ge 7, 3) := by decide +kernel
theorem dX0_nextWeight_55 : decode cX0_nextWeight 55 = .ok (.iload 7, 2) := by decide +kernel
theorem dX0_nextWeight_57 : decode cX0_nextWeight 57 = .ok (.istore 5, 2) := by decide +kernel
theorem dX0_nextWeight_59 : decode cX0_nextWeight 59 = .ok (.iinc 6 1, 3) := by decide +kernel
theorem dX0_nextWeight_62 : decode cX0_nextWeight 62 = .ok (.goto (-55), 3) := by decide +kernel
theorem dX0_nextWeight_65 : decode cX0_nextWeight 65 = .ok (.iload 5, 2) := by decide +kernel
theorem dX0_nextWeight_67 : decode cX0_nextWeight 67 = .ok (.ireturn, 1) := by decide +kernel
theorem dX0_mix_0 : decode cX0_mix 0 = .ok (.aload_n 0, 1) := by decide +kernel
theorem dX0_mix_1 : decode cX0_mix 1 = .ok (.aload_n 1, 1) := by decide +kernel
theorem dX0_mix_2 : decode cX0_mix 2 = .ok (.getfield 96, 3) := by decide +kernel
theorem dX0_mix_5 : decode cX0_mix 5 = .ok (.iload_n 2, 1) := by decide +kernel
theorem dX0_mix_6 : decode cX0_mix 6 = .ok (.iload_n 3, 1) := by decide +kernel
theorem dX0_mix_7 : decode cX0_mix 7 = .ok (.iload 4, 2) := by decide +kernel
theorem dX0_mix_9 : decode cX0_mix 9 = .ok (.iconst 1, 1) := by decide +kernel
theorem dX0_mix_10 : decode cX0_mix 10 = .ok (.iadd, 1) := by decide +kernel
theorem dX0_mix_11 : decode cX0_mix 11 = .ok (.invokevirtual 42, 3) := by decide +kernel
theorem dX0_mix_14 : decode cX0_mix 14 = .ok (.aload_n 0, 1) := by decide +kernel
theorem dX0_mix_15 : decode cX0_mix 15 = .ok (.aload_n 1, 1) := by decide +kernel
theorem dX0_mix_16 : decode cX0_mix 16 = .ok (.getfield 113, 3) := by decide +kernel
theorem dX0_mix_19 : decode cX0_mix 19 = .ok (.iload_n 2, 1) := by decide +kernel
theorem dX0_mix_20 : decode cX0_mix 20 = .ok (.iload_n 3, 1) := by decide +kernel
theorem dX0_mix_21 : decode cX0_mix 21 = .ok (.iload 4, 2) := by decide +kernel
theorem dX0_mix_23 : decode cX0_mix 23 = .ok (.iconst 1, 1) := by decide +kernel
theorem dX0_mix_24 : decode cX0_mix 24 = .ok (.iadd, 1) := by decide +kernel
theorem dX0_mix_25 : decode cX0_mix 25 = .ok (.invokevirtual 42, 3) := by decide +kernel
theorem dX0_mix_28 : decode cX0_mix 28 = .ok (.aload_n 1, 1) := by decide +kernel
theorem dX0_mix_29 : decode cX0_mix 29 = .ok (.getfield 190, 3) := by decide +kernel
theorem dX0_mix_32 : decode cX0_mix 32 = .ok (.aload_n 1, 1) := by decide +kernel
theorem dX0_mix_33 : decode cX0_mix 33 = .ok (.getfield 193, 3) := by decide +kernel
theorem dX0_mix_36 : decode cX0_mix 36 = .ok (.iadd, 1) := by decide +kernel
theorem dX0_mix_37 : decode cX0_mix 37 = .ok (.i2l, 1) := by decide +kernel
theorem dX0_mix_38 : decode cX0_mix 38 = .ok (.lstore 5, 2) := by decide +kernel
theorem dX0_mix_40 : decode cX0_mix 40 = .ok (.aload_n 0, 1) := by decide +kernel
theorem dX0_mix_41 : decode cX0_mix 41 = .ok (.getfield 38, 3) := by decide +kernel
theorem dX0_mix_44 : decode cX0_mix 44 = .ok (.aload_n 1, 1) := by decide +kernel
theorem dX0_mix_45 : decode cX0_mix 45 = .ok (.getfield 96, 3) := by decide +kernel
theorem dX0_mix_48 : decode cX0_mix 48 = .ok (.aaload, 1) := by decide +kernel
theorem dX0_mix_49 : decode cX0_mix 49 = .ok (.iload_n 2, 1) := by decide +kernel
theorem dX0_mix_50 : decode cX0_mix 50 = .ok (.iload_n 3, 1) := by decide +kernel
theorem dX0_mix_51 : decode cX0_mix 51 = .ok (.aload_n 0, 1) := by decide +kernel
theorem dX0_mix_52 : decode cX0_mix 52 = .ok (.getfield 18, 3) := by decide +kernel
theorem dX0_mix_55 : decode cX0_mix 55 = .ok (.invokevirtual 46, 3) := by decide +kernel
theorem dX0_mix_58 : decode cX0_mix 58 = .ok (.aload_n 0, 1) := by decide +kernel
theorem dX0_mix_59 : decode cX0_mix 59 = .ok (.getfield 12, 3) := by decide +kernel
theorem dX0_mix_62 : decode cX0_mix 62 = .ok (.aload_n 1, 1) := by decide +kernel
theorem dX0_mix_63 : decode cX0_mix 63 = .ok (.getfield 190, 3) := by decide +kernel
theorem dX0_mix_66 : decode cX0_mix 66 = .ok (.i2l, 1) := by decide +kernel
theorem dX0_mix_67 : decode cX0_mix 67 = .ok (.lload 5, 2) := by decide +kernel
theorem dX0_mix_69 : decode cX0_mix 69 = .ok (.invokevirtual 57, 3) := by decide +kernel
theorem dX0_mix_72 : decode cX0_mix 72 = .ok (.aload_n 0, 1) := by decide +kernel
theorem dX0_mix_73 : decode cX0_mix 73 = .ok (.getfield 12, 3) := by decide +kernel
theorem dX0_mix_76 : decode cX0_mix 76 = .ok (.aload_n 0, 1) := by decide +kernel
theorem dX0_mix_77 : decode cX0_mix 77 = .ok (.getfield 18, 3) := by decide +kernel
theorem dX0_mix_80 : decode cX0_mix 80 = .ok (.invokevirtual 81, 3) := by decide +kernel
theorem dX0_mix_83 : decode cX0_mix 83 = .ok (.aload_n 0, 1) := by decide +kernel
theorem dX0_mix_84 : decode cX0_mix 84 = .ok (.getfield 38, 3) := by decide +kernel
theorem dX0_mix_87 : decode cX0_mix 87 = .ok (.aload_n 1, 1) := by decide +kernel
theorem dX0_mix_88 : decode cX0_mix 88 = .ok (.getfield 113, 3) := by decide +kernel
theorem dX0_mix_91 : decode cX0_mix 91 = .ok (.aaload, 1) := by decide +kernel
theorem dX0_mix_92 : decode cX0_mix 92 = .ok (.iload_n 2, 1) := by decide +kernel
theorem dX0_mix_93 : decode cX0_mix 93 = .ok (.iload_n 3, 1) := by decide +kernel
theorem dX0_mix_94 : decode cX0_mix 94 = .ok (.aload_n 0, 1) := by decide +kernel
theorem dX0_mix_95 : decode cX0_mix 95 = .ok (.getfield 21, 3) := by decide +kernel
theorem dX0_mix_98 : decode cX0_mix 98 = .ok (.invokevirtual 46, 3) := by decide +kernel
theorem dX0_mix_101 : decode cX0_mix 101 = .ok (.aload_n 0, 1) := by decide +kernel
theorem dX0_mix_102 : decode cX0_mix 102 = .ok (.getfield 18, 3) := by decide +kernel
theorem dX0_mix_105 : decode cX0_mix 105 = .ok (.aload_n 1, 1) := by decide +kernel
theorem dX0_mix_106 : decode cX0_mix 106 = .ok (.getfield 193, 3) := by decide +kernel
theorem dX0_mix_109 : decode cX0_mix 109 = .ok (.i2l, 1) := by decide +kernel
theorem dX0_mix_110 : decode cX0_mix 110 = .ok (.lload 5, 2) := by decide +kernel
theorem dX0_mix_112 : decode cX0_mix 112 = .ok (.invokevirtual 57, 3) := by decide +kernel
theorem dX0_mix_115 : decode cX0_mix 115 = .ok (.aload_n 0, 1) := by decide +kernel
theorem dX0_mix_116 : decode cX0_mix 116 = .ok (.getfield 18, 3) := by decide +kernel
theorem dX0_mix_119 : decode cX0_mix 119 = .ok (.aload_n 0, 1) := by decide +kernel
theorem dX0_mix_120 : decode cX0_mix 120 = .ok (.getfield 21, 3) := by decide +kernel
theorem dX0_mix_123 : decode cX0_mix 123 = .ok (.invokevirtual 81, 3) := by decide +kernel
theorem dX0_mix_126 : decode cX0_mix 126 = .ok (.aload_n 0, 1) := by decide +kernel
theorem dX0_mix_127 : decode cX0_mix 127 = .ok (.getfield 12, 3) := by decide +kernel
theorem dX0_mix_130 : decode cX0_mix 130 = .ok (.iconst 1, 1) := by decide +kernel
theorem dX0_mix_131 : decode cX0_mix 131 = .ok (.aload_n 0, 1) := by decide +kernel
theorem dX0_mix_132 : decode cX0_mix 132 = .ok (.getfield 18, 3) := by decide +kernel
theorem dX0_mix_135 : decode cX0_mix 135 = .ok (.invokevirtual 69, 3) := by decide +kernel
theorem dX0_mix_138 : decode cX0_mix 138 = .ok (.return_, 1) := by decide +kernel
theorem dX0_cycle_0 : decode cX0_cycle 0 = .ok (.iconst 0, 1) := by decide +kernel
theorem dX0_cycle_1 : decode cX0_cycle 1 = .ok (.istore 5, 2) := by decide +kernel
theorem dX0_cycle_3 : decode cX0_cycle 3 = .ok (.iload 5, 2) := by decide +kernel
theorem dX0_cycle_5 : decode cX0_cycle 5 = .ok (.aload_n 0, 1) := by decide +kernel
theorem dX0_cycle_6 : decode cX0_cycle 6 = .ok (.getfield 34, 3) := by decide +kernel
theorem dX0_cycle_9 : decode cX0_cycle 9 = .ok (.getfield 52, 3) := by decide +kernel
theorem dX0_cycle_12 : decode cX0_cycle 12 = .ok (.if_icmp .ge 39, 3) := by decide +kernel
theorem dX0_cycle_15 : decode cX0_cycle 15 = .ok (.aload_n 0, 1) := by decide +kernel
theorem dX0_cycle_16 : decode cX0_cycle 16 = .ok (.aload_n 1, 1) := by decide +kernel
theorem dX0_cycle_17 : decode cX0_cycle 17 = .ok (.getfield 96, 3) := by decide +kernel
theorem dX0_cycle_20 : decode cX0_cycle 20 = .ok (.iload_n 2, 1) := by decide +kernel
theorem dX0_cycle_21 : decode cX0_cycle 21 = .ok (.iload 5, 2) := by decide +kernel
theorem dX0_cycle_23 : decode cX0_cycle 23 = .ok (.iload 4, 2) := by decide +kernel
theorem dX0_cycle_25 : decode cX0_cycle 25 = .ok (.iconst 1, 1) := by decide +kernel
theorem dX0_cycle_26 : decode cX0_cycle 26 = .ok (.iadd, 1) := by decide +kernel
theorem dX0_cycle_27 : decode cX0_cycle 27 = .ok (.invokevirtual 42, 3) := by decide +kernel
theorem dX0_cycle_30 : decode cX0_cycle 30 = .ok (.aload_n 0, 1) := by decide +kernel
theorem dX0_cycle_31 : decode cX0_cycle 31 = .ok (.aload_n 1, 1) := by decide +kernel
theorem dX0_cycle_32 : decode cX0_cycle 32 = .ok (.getfield 113, 3) := by decide +kernel
theorem dX0_cycle_35 : decode cX0_cycle 35 = .ok (.iload 5, 2) := by decide +kernel
theorem dX0_cycle_37 : decode cX0_cycle 37 = .ok (.iload_n 3, 1) := by decide +kernel
theorem dX0_cycle_38 : decode cX0_cycle 38 = .ok (.iload 4, 2) := by decide +kernel
theorem dX0_cycle_40 : decode cX0_cycle 40 = .ok (.iconst 1, 1) := by decide +kernel
theorem dX0_cycle_41 : decode cX0_cycle 41 = .ok (.iadd, 1) := by decide +kernel
theorem dX0_cycle_42 : decode cX0_cycle 42 = .ok (.invokevirtual 42, 3) := by decide +kernel
theorem dX0_cycle_45 : decode cX0_cycle 45 = .ok (.iinc 5 1, 3) := by decide +kernel
theorem dX0_cycle_48 : decode cX0_cycle 48 = .ok (.goto (-45), 3) := by decide +kernel
theorem dX0_cycle_51 : decode cX0_cycle 51 = .ok (.aload_n 0, 1) := by decide +kernel
theorem dX0_cycle_52 : decode cX0_cycle 52 = .ok (.getfield 12, 3) := by decide +kernel
theorem dX0_cycle_55 : decode cX0_cycle 55 = .ok (.lconst 0, 1) := by decide +kernel
theorem dX0_cycle_56 : decode cX0_cycle 56 = .ok (.lconst 1, 1) := by decide +kernel
theorem dX0_cycle_57 : decode cX0_cycle 57 = .ok (.invokevirtual 57, 3) := by decide +kernel
theorem dX0_cycle_60 : decode cX0_cycle 60 = .ok (.iconst 0, 1) := by decide +kernel
theorem dX0_cycle_61 : decode cX0_cycle 61 = .ok (.istore 5, 2) := by decide +kernel
theorem dX0_cycle_63 : decode cX0_cycle 63 = .ok (.iload 5, 2) := by decide +kernel
theorem dX0_cycle_65 : decode cX0_cycle 65 = .ok (.aload_n 0, 1) := by decide +kernel
theorem dX0_cycle_66 : decode cX0_cycle 66 = .ok (.getfield 34, 3) := by decide +kernel
theorem dX0_cycle_69 : decode cX0_cycle 69 = .ok (.getfield 52, 3) := by decide +kernel
theorem dX0_cycle_72 : decode cX0_cycle 72 = .ok (.if_icmp .ge 80, 3) := by decide +kernel
theorem dX0_cycle_75 : decode cX0_cycle 75 = .ok (.aload_n 0, 1) := by decide +kernel
theorem dX0_cycle_76 : decode cX0_cycle 76 = .ok (.getfield 12, 3) := by decide +kernel
theorem dX0_cycle_79 : decode cX0_cycle 79 = .ok (.getfield 61, 3) := by decide +kernel
theorem dX0_cycle_82 : decode cX0_cycle 82 = .ok (.ifCond .eq 70, 3) := by decide +kernel
theorem dX0_cycle_85 : decode cX0_cycle 85 = .ok (.aload_n 0, 1) := by decide +kernel
theorem dX0_cycle_86 : decode cX0_cycle 86 = .ok (.getfield 38, 3) := by decide +kernel
theorem dX0_cycle_89 : decode cX0_cycle 89 = .ok (.aload_n 1, 1) := by decide +kernel
theorem dX0_cycle_90 : decode cX0_cycle 90 = .ok (.getfield 96, 3) := by decide +kernel
theorem dX0_cycle_93 : decode cX0_cycle 93 = .ok (.aaload, 1) := by decide +kernel
theorem dX0_cycle_94 : decode cX0_cycle 94 = .ok (.iload_n 2, 1) := by decide +kernel
theorem dX0_cycle_95 : decode cX0_cycle 95 = .ok (.iload 5, 2) := by decide +kernel
theorem dX0_cycle_97 : decode cX0_cycle 97 = .ok (.aload_n 0, 1) := by decide +kernel
theorem dX0_cycle_98 : decode cX0_cycle 98 = .ok (.getfield 18, 3) := by decide +kernel
theorem dX0_cycle_101 : decode cX0_cycle 101 = .ok (.invokevirtual 46, 3) := by decide +kernel
theorem dX0_cycle_104 : decode cX0_cycle 104 = .ok (.aload_n 0, 1) := by decide +kernel
theorem dX0_cycle_105 : decode cX0_cycle 105 = .ok (.getfield 38, 3) := by decide +kernel
theorem dX0_cycle_108 : decode cX0_cycle 108 = .ok (.aload_n 1, 1) := by decide +kernel
theorem dX0_cycle_109 : decode cX0_cycle 109 = .ok (.getfield 113, 3) := by decide +kernel
theorem dX0_cycle_112 : decode cX0_cycle 112 = .ok (.aaload, 1) := by decide +kernel
theorem dX0_cycle_113 : decode cX0_cycle 113 = .ok (.iload 5, 2) := by decide +kernel
theorem dX0_cycle_115 : decode cX0_cycle 115 = .ok (.iload_n 3, 1) := by decide +kernel
theorem dX0_cycle_116 : decode cX0_cycle 116 = .ok (.aload_n 0, 1) := by decide +kernel
theorem dX0_cycle_117 : decode cX0_cycle 117 = .ok (.getfield 21, 3) := by decide +kernel
theorem dX0_cycle_120 : decode cX0_cycle 120 = .ok (.invokevirtual 46, 3) := by decide +kernel
theorem dX0_cycle_123 : decode cX0_cycle 123 = .ok (.aload_n 0, 1) := by decide +kernel
theorem dX0_cycle_124 : decode cX0_cycle 124 = .ok (.getfield 18, 3) := by decide +kernel
theorem dX0_cycle_127 : decode cX0_cycle 127 = .ok (.aload_n 0, 1) := by decide +kernel
theorem dX0_cycle_128 : decode cX0_cycle 128 = .ok (.getfield 21, 3) := by decide +kernel
theorem dX0_cycle_131 : decode cX0_cycle 131 = .ok (.invokevirtual 81, 3) := by decide +kernel
theorem dX0_cycle_134 : decode cX0_cycle 134 = .ok (.aload_n 0, 1) := by decide +kernel
theorem dX0_cycle_135 : decode cX0_cycle 135 = .ok (.getfield 12, 3) := by decide +kernel
theorem dX0_cycle_138 : decode cX0_cycle 138 = .ok (.iconst 1, 1) := by decide +kernel
theorem dX0_cycle_139 : decode cX0_cycle 139 = .ok (.aload_n 0, 1) := by decide +kernel
theorem dX0_cycle_140 : decode cX0_cycle 140 = .ok (.getfield 18, 3) := by decide +kernel
theorem dX0_cycle_143 : decode cX0_cycle 143 = .ok (.invokevirtual 69, 3) := by decide +kernel
theorem dX0_cycle_146 : decode cX0_cycle 146 = .ok (.iinc 5 1, 3) := by decide +kernel
theorem dX0_cycle_149 : decode cX0_cycle 149 = .ok (.goto (-86), 3) := by decide +kernel
theorem dX0_cycle_152 : decode cX0_cycle 152 = .ok (.return_, 1) := by decide +kernel
theorem dX1_init_0 : decode cX1_init 0 = .ok (.aload_n 0, 1) := by decide +kernel
theorem dX1_init_1 : decode cX1_init 1 = .ok (.invokespecial 1, 3) := by decide +kernel
theorem dX1_init_4 : decode cX1_init 4 = .ok (.aload_n 0, 1) := by decide +kernel
theorem dX1_init_5 : decode cX1_init 5 = .ok (.lconst 1, 1) := by decide +kernel
theorem dX1_init_6 : decode cX1_init 6 = .ok (.putfield 7, 3) := by decide +kernel
theorem dX1_init_9 : decode cX1_init 9 = .ok (.aload_n 0, 1) := by decide +kernel
theorem dX1_init_10 : decode cX1_init 10 = .ok (.iconst 1, 1) := by decide +kernel
theorem dX1_init_11 : decode cX1_init 11 = .ok (.putfield 13, 3) := by decide +kernel
theorem dX1_init_14 : decode cX1_init 14 = .ok (.return_, 1) := by decide +kernel
theorem dX1_divisor_0 : decode cX1_divisor 0 = .ok (.lload_n 0, 1) := by decide +kernel
theorem dX1_divisor_1 : decode cX1_divisor 1 = .ok (.lstore 4, 2) := by decide +kernel
theorem dX1_divisor_3 : decode cX1_divisor 3 = .ok (.lload_n 2, 1) := by decide +kernel
theorem dX1_divisor_4 : decode cX1_divisor 4 = .ok (.lstore 6, 2) := by decide +kernel
theorem dX1_divisor_6 : decode cX1_divisor 6 = .ok (.iconst 0, 1) := by decide +kernel
theorem dX1_divisor_7 : decode cX1_divisor 7 = .ok (.istore 8, 2) := by decide +kernel
theorem dX1_divisor_9 : decode cX1_divisor 9 = .ok (.iload 8, 2) := by decide +kernel
theorem dX1_divisor_11 : decode cX1_divisor 11 = .ok (.bipush 100, 2) := by decide +kernel
theorem dX1_divisor_13 : decode cX1_divisor 13 = .ok (.if_icmp .ge 31, 3) := by decide +kernel
theorem dX1_divisor_16 : decode cX1_divisor 16 = .ok (.lload 6, 2) := by decide +kernel
theorem dX1_divisor_18 : decode cX1_divisor 18 = .ok (.lconst 0, 1) := by decide +kernel
theorem dX1_divisor_19 : decode cX1_divisor 19 = .ok (.lcmp, 1) := by decide +kernel
theorem dX1_divisor_20 : decode cX1_divisor 20 = .ok (.ifCond .eq 24, 3) := by decide +kernel
theorem dX1_divisor_23 : decode cX1_divisor 23 = .ok (.lload 4, 2) := by decide +kernel
theorem dX1_divisor_25 : decode cX1_divisor 25 = .ok (.lload 6, 2) := by decide +kernel
theorem dX1_divisor_27 : decode cX1_divisor 27 = .ok (.lrem, 1) := by decide +kernel
theorem dX1_divisor_28 : decode cX1_divisor 28 = .ok (.lstore 9, 2) := by decide +kernel
theorem dX1_divisor_30 : decode cX1_divisor 30 = .ok (.lload 6, 2) := by decide +kernel
theorem dX1_divisor_32 : decode cX1_divisor 32 = .ok (.lstore 4, 2) := by decide +kernel
theorem dX1_divisor_34 : decode cX1_divisor 34 = .ok (.lload 9, 2) := by decide +kernel
theorem dX1_divisor_36 : decode cX1_divisor 36 = .ok (.lstore 6, 2) := by decide +kernel
theorem dX1_divisor_38 : decode cX1_divisor 38 = .ok (.iinc 8 1, 3) := by decide +kernel
theorem dX1_divisor_41 : decode cX1_divisor 41 = .ok (.goto (-32), 3) := by decide +kernel
theorem dX1_divisor_44 : decode cX1_divisor 44 = .ok (.lload 4, 2) := by decide +kernel
theorem dX1_divisor_46 : decode cX1_divisor 46 = .ok (.lconst 0, 1) := by decide +kernel
theorem dX1_divisor_47 : decode cX1_divisor 47 = .ok (.lcmp, 1) := by decide +kernel
theorem dX1_divisor_48 : decode cX1_divisor 48 = .ok (.ifCond .le 8, 3) := by decide +kernel
theorem dX1_divisor_51 : decode cX1_divisor 51 = .ok (.lload 4, 2) := by decide +kernel
theorem dX1_divisor_53 : decode cX1_divisor 53 = .ok (.goto 4, 3) := by decide +kernel
theorem dX1_divisor_56 : decode cX1_divisor 56 = .ok (.lconst 1, 1) := by decide +kernel
theorem dX1_divisor_57 : decode cX1_divisor 57 = .ok (.lreturn, 1) := by decide +kernel
theorem dX1_fitProduct_0 : decode cX1_fitProduct 0 = .ok (.lload_n 0, 1) := by decide +kernel
theorem dX1_fitProduct_1 : decode cX1_fitProduct 1 = .ok (.lconst 0, 1) := by decide +kernel
theorem dX1_fitProduct_2 : decode cX1_fitProduct 2 = .ok (.lcmp, 1) := by decide +kernel
theorem dX1_fitProduct_3 : decode cX1_fitProduct 3 = .ok (.ifCond .eq 13, 3) := by decide +kernel
theorem dX1_fitProduct_6 : decode cX1_fitProduct 6 = .ok (.lload_n 2, 1) := by decide +kernel
theorem dX1_fitProduct_7 : decode cX1_fitProduct 7 = .ok (.ldc2_w 19, 3) := by decide +kernel
theorem dX1_fitProduct_10 : decode cX1_fitProduct 10 = .ok (.lload_n 0, 1) := by decide +kernel
theorem dX1_fitProduct_11 : decode cX1_fitProduct 11 = .ok (.ldiv, 1) := by decide +kernel
theorem dX1_fitProduct_12 : decode cX1_fitProduct 12 = .ok (.lcmp, 1) := by decide +kernel
theorem dX1_fitProduct_13 : decode cX1_fitProduct 13 = .ok (.ifCond .gt 7, 3) := by decide +kernel
theorem dX1_fitProduct_16 : decode cX1_fitProduct 16 = .ok (.iconst 1, 1) := by decide +kernel
theorem dX1_fitProduct_17 : decode cX1_fitProduct 17 = .ok (.goto 4, 3) := by decide +kernel
theorem dX1_fitProduct_20 : decode cX1_fitProduct 20 = .ok (.iconst 0, 1) := by decide +kernel
theorem dX1_fitProduct_21 : decode cX1_fitProduct 21 = .ok (.ireturn, 1) := by decide +kernel
theorem dX1_set_0 : decode cX1_set 0 = .ok (.lload_n 1, 1) := by decide +kernel
theorem dX1_set_1 : decode cX1_set 1 = .ok (.lload_n 3, 1) := by decide +kernel
theorem dX1_set_2 : decode cX1_set 2 = .ok (.invokestatic 21, 3) := by decide +kernel
theorem dX1_set_5 : decode cX1_set 5 = .ok (.lstore 5, 2) := by decide +kernel
theorem dX1_set_7 : decode cX1_set 7 = .ok (.aload_n 0, 1) := by decide +kernel
theorem dX1_set_8 : decode cX1_set 8 = .ok (.lload_n 1, 1) := by decide +kernel
theorem dX1_set_9 : decode cX1_set 9 = .ok (.lload 5, 2) := by decide +kernel
theorem dX1_set_11 : decode cX1_set 11 = .ok (.ldiv, 1) := by decide +kernel
theorem dX1_set_12 : decode cX1_set 12 = .ok (.putfield 25, 3) := by decide +kernel
theorem dX1_set_15 : decode cX1_set 15 = .ok (.aload_n 0, 1) := by decide +kernel
theorem dX1_set_16 : decode cX1_set 16 = .ok (.lload_n 3, 1) := by decide +kernel
theorem dX1_set_17 : decode cX1_set 17 = .ok (.lload 5, 2) := by decide +kernel
theorem dX1_set_19 : decode cX1_set 19 = .ok (.ldiv, 1) := by decide +kernel
theorem dX1_set_20 : decode cX1_set 20 = .ok (.putfield 7, 3) := by decide +kernel
theorem dX1_set_23 : decode cX1_set 23 = .ok (.aload_n 0, 1) := by decide +kernel
theorem dX1_set_24 : decode cX1_set 24 = .ok (.iconst 1, 1) := by decide +kernel
theorem dX1_set_25 : decode cX1_set 25 = .ok (.putfield 13, 3) := by decide +kernel
theorem dX1_set_28 : decode cX1_set 28 = .ok (.return_, 1) := by decide +kernel
theorem dX1_times_0 : decode cX1_times 0 = .ok (.aload_n 0, 1) := by decide +kernel
theorem dX1_times_1 : decode cX1_times 1 = .ok (.aload_n 0, 1) := by decide +kernel
theorem dX1_times_2 : decode cX1_times 2 = .ok (.getfield 13, 3) := by decide +kernel
theorem dX1_times_5 : decode cX1_times 5 = .ok (.ifCond .eq 42, 3) := by decide +kernel
theorem dX1_times_8 : decode cX1_times 8 = .ok (.aload_n 1, 1) := by decide +kernel
theorem dX1_times_9 : decode cX1_times 9 = .ok (.getfield 13, 3) := by decide +kernel
theorem dX1_times_12 : decode cX1_times 12 = .ok (.ifCond .eq 35, 3) := by decide +kernel
theorem dX1_times_15 : decode cX1_times 15 = .ok (.aload_n 0, 1) := by decide +kernel
theorem dX1_times_16 : decode cX1_times 16 = .ok (.getfield 25, 3) := by decide +kernel
theorem dX1_times_19 : decode cX1_times 19 = .ok (.aload_n 1, 1) := by decide +kernel
theorem dX1_times_20 : decode cX1_times 20 = .ok (.getfield 25, 3) := by decide +kernel
theorem dX1_times_23 : decode cX1_times 23 = .ok (.invokestatic 28, 3) := by decide +kernel
theorem dX1_times_26 : decode cX1_times 26 = .ok (.ifCond .eq 21, 3) := by decide +kernel
theorem dX1_times_29 : decode cX1_times 29 = .ok (.aload_n 0, 1) := by decide +kernel
theorem dX1_times_30 : decode cX1_times 30 = .ok (.getfield 7, 3) := by decide +kernel
theorem dX1_times_33 : decode cX1_times 33 = .ok (.aload_n 1, 1) := by decide +kernel
theorem dX1_times_34 : decode cX1_times 34 = .ok (.getfield 7, 3) := by decide +kernel
theorem dX1_times_37 : decode cX1_times 37 = .ok (.invokestatic 28, 3) := by decide +kernel
theorem dX1_times_40 : decode cX1_times 40 = .ok (.ifCond .eq 7, 3) := by decide +kernel
theorem dX1_times_43 : decode cX1_times 43 = .ok (.iconst 1, 1) := by decide +kernel
theorem dX1_times_44 : decode cX1_times 44 = .ok (.goto 4, 3) := by decide +kernel
theorem dX1_times_47 : decode cX1_times 47 = .ok (.iconst 0, 1) := by decide +kernel
theorem dX1_times_48 : decode cX1_times 48 = .ok (.putfield 13, 3) := by decide +kernel
theorem dX1_times_51 : decode cX1_times 51 = .ok (.aload_n 0, 1) := by decide +kernel
theorem dX1_times_52 : decode cX1_times 52 = .ok (.getfield 13, 3) := by decide +kernel
theorem dX1_times_55 : decode cX1_times 55 = .ok (.ifCond .eq 25, 3) := by decide +kernel
theorem dX1_times_58 : decode cX1_times 58 = .ok (.aload_n 0, 1) := by decide +kernel
theorem dX1_times_59 : decode cX1_times 59 = .ok (.aload_n 0, 1) := by decide +kernel
theorem dX1_times_60 : decode cX1_times 60 = .ok (.getfield 25, 3) := by decide +kernel
theorem dX1_times_63 : decode cX1_times 63 = .ok (.aload_n 1, 1) := by decide +kernel
theorem dX1_times_64 : decode cX1_times 64 = .ok (.getfield 25, 3) := by decide +kernel
theorem dX1_times_67 : decode cX1_times 67 = .ok (.lmul, 1) := by decide +kernel
theorem dX1_times_68 : decode cX1_times 68 = .ok (.aload_n 0, 1) := by decide +kernel
theorem dX1_times_69 : decode cX1_times 69 = .ok (.getfield 7, 3) := by decide +kernel
theorem dX1_times_72 : decode cX1_times 72 = .ok (.aload_n 1, 1) := by decide +kernel
theorem dX1_times_73 : decode cX1_times 73 = .ok (.getfield 7, 3) := by decide +kernel
theorem dX1_times_76 : decode cX1_times 76 = .ok (.lmul, 1) := by decide +kernel
theorem dX1_times_77 : decode cX1_times 77 = .ok (.invokevirtual 32, 3) := by decide +kernel
theorem dX1_times_80 : decode cX1_times 80 = .ok (.return_, 1) := by decide +kernel
theorem dX1_add_0 : decode cX1_add 0 = .ok (.aload_n 0, 1) := by decide +kernel
theorem dX1_add_1 : decode cX1_add 1 = .ok (.aload_n 0, 1) := by decide +kernel
theorem dX1_add_2 : decode cX1_add 2 = .ok (.getfield 13, 3) := by decide +kernel
theorem dX1_add_5 : decode cX1_add 5 = .ok (.ifCond .eq 14, 3) := by decide +kernel
theorem dX1_add_8 : decode cX1_add 8 = .ok (.aload_n 2, 1) := by decide +kernel
theorem dX1_add_9 : decode cX1_add 9 = .ok (.getfield 13, 3) := by decide +kernel
theorem dX1_add_12 : decode cX1_add 12 = .ok (.ifCond .eq 7, 3) := by decide +kernel
theorem dX1_add_15 : decode cX1_add 15 = .ok (.iconst 1, 1) := by decide +kernel
theorem dX1_add_16 : decode cX1_add 16 = .ok (.goto 4, 3) := by decide +kernel
theorem dX1_add_19 : decode cX1_add 19 = .ok (.iconst 0, 1) := by decide +kernel
theorem dX1_add_20 : decode cX1_add 20 = .ok (.putfield 13, 3) := by decide +kernel
theorem dX1_add_23 : decode cX1_add 23 = .ok (.aload_n 0, 1) := by decide +kernel
theorem dX1_add_24 : decode cX1_add 24 = .ok (.getfield 13, 3) := by decide +kernel
theorem dX1_add_27 : decode cX1_add 27 = .ok (.ifCond .eq 12, 3) := by decide +kernel
theorem dX1_add_30 : decode cX1_add 30 = .ok (.aload_n 2, 1) := by decide +kernel
theorem dX1_add_31 : decode cX1_add 31 = .ok (.getfield 25, 3) := by decide +kernel
theorem dX1_add_34 : decode cX1_add 34 = .ok (.lconst 0, 1) := by decide +kernel
theorem dX1_add_35 : decode cX1_add 35 = .ok (.lcmp, 1) := by decide +kernel
theorem dX1_add_36 : decode cX1_add 36 = .ok (.ifCond .ne 4, 3) := by decide +kernel
theorem dX1_add_39 : decode cX1_add 39 = .ok (.return_, 1) := by decide +kernel
theorem dX1_add_40 : decode cX1_add 40 = .ok (.aload_n 0, 1) := by decide +kernel
theorem dX1_add_41 : decode cX1_add 41 = .ok (.getfield 7, 3) := by decide +kernel
theorem dX1_add_44 : decode cX1_add 44 = .ok (.aload_n 2, 1) := by decide +kernel
theorem dX1_add_45 : decode cX1_add 45 = .ok (.getfield 7, 3) := by decide +kernel
theorem dX1_add_48 : decode cX1_add 48 = .ok (.invokestatic 21, 3) := by decide +kernel
theorem dX1_add_51 : decode cX1_add 51 = .ok (.lstore_n 3, 1) := by decide +kernel
theorem dX1_add_52 : decode cX1_add 52 = .ok (.aload_n 2, 1) := by decide +kernel
theorem dX1_add_53 : decode cX1_add 53 = .ok (.getfield 7, 3) := by decide +kernel
theorem dX1_add_56 : decode cX1_add 56 = .ok (.lload_n 3, 1) := by decide +kernel
theorem dX1_add_57 : decode cX1_add 57 = .ok (.ldiv, 1) := by decide +kernel
theorem dX1_add_58 : decode cX1_add 58 = .ok (.lstore 5, 2) := by decide +kernel
theorem dX1_add_60 : decode cX1_add 60 = .ok (.aload_n 0, 1) := by decide +kernel
theorem dX1_add_61 : decode cX1_add 61 = .ok (.getfield 7, 3) := by decide +kernel
theorem dX1_add_64 : decode cX1_add 64 = .ok (.lload_n 3, 1) := by decide +kernel
theorem dX1_add_65 : decode cX1_add 65 = .ok (.ldiv, 1) := by decide +kernel
theorem dX1_add_66 : decode cX1_add 66 = .ok (.lstore 7, 2) := by decide +kernel
theorem dX1_add_68 : decode cX1_add 68 = .ok (.aload_n 0, 1) := by decide +kernel
theorem dX1_add_69 : decode cX1_add 69 = .ok (.aload_n 0, 1) := by decide +kernel
theorem dX1_add_70 : decode cX1_add 70 = .ok (.getfield 25, 3) := by decide +kernel
theorem dX1_add_73 : decode cX1_add 73 = .ok (.lload 5, 2) := by decide +kernel
theorem dX1_add_75 : decode cX1_add 75 = .ok (.invokestatic 28, 3) := by decide +kernel
theorem dX1_add_78 : decode cX1_add 78 = .ok (.ifCond .eq 31, 3) := by decide +kernel
theorem dX1_add_81 : decode cX1_add 81 = .ok (.aload_n 2, 1) := by decide +kernel
theorem dX1_add_82 : decode cX1_add 82 = .ok (.getfield 25, 3) := by decide +kernel
theorem dX1_add_85 : decode cX1_add 85 = .ok (.lload 7, 2) := by decide +kernel
theorem dX1_add_87 : decode cX1_add 87 = .ok (.invokestatic 28, 3) := by decide +kernel
theorem dX1_add_90 : decode cX1_add 90 = .ok (.ifCond .eq 19, 3) := by decide +kernel
theorem dX1_add_93 : decode cX1_add 93 = .ok (.aload_n 0, 1) := by decide +kernel
theorem dX1_add_94 : decode cX1_add 94 = .ok (.getfield 7, 3) := by decide +kernel
theorem dX1_add_97 : decode cX1_add 97 = .ok (.lload 5, 2) := by decide +kernel
theorem dX1_add_99 : decode cX1_add 99 = .ok (.invokestatic 28, 3) := by decide +kernel
theorem dX1_add_102 : decode cX1_add 102 = .ok (.ifCond .eq 7, 3) := by decide +kernel
theorem dX1_add_105 : decode cX1_add 105 = .ok (.iconst 1, 1) := by decide +kernel
theorem dX1_add_106 : decode cX1_add 106 = .ok (.goto 4, 3) := by decide +kernel
theorem dX1_add_109 : decode cX1_add 109 = .ok (.iconst 0, 1) := by decide +kernel
theorem dX1_add_110 : decode cX1_add 110 = .ok (.putfield 13, 3) := by decide +kernel
theorem dX1_add_113 : decode cX1_add 113 = .ok (.aload_n 0, 1) := by decide +kernel
theorem dX1_add_114 : decode cX1_add 114 = .ok (.getfield 13, 3) := by decide +kernel
theorem dX1_add_117 : decode cX1_add 117 = .ok (.ifCond .ne 4, 3) := by decide +kernel
theorem dX1_add_120 : decode cX1_add 120 = .ok (.return_, 1) := by decide +kernel
theorem dX1_add_121 : decode cX1_add 121 = .ok (.aload_n 0, 1) := by decide +kernel
theorem dX1_add_122 : decode cX1_add 122 = .ok (.getfield 25, 3) := by decide +kernel
theorem dX1_add_125 : decode cX1_add 125 = .ok (.lload 5, 2) := by decide +kernel
theorem dX1_add_127 : decode cX1_add 127 = .ok (.lmul, 1) := by decide +kernel
theorem dX1_add_128 : decode cX1_add 128 = .ok (.lstore 9, 2) := by decide +kernel
theorem dX1_add_130 : decode cX1_add 130 = .ok (.aload_n 2, 1) := by decide +kernel
theorem dX1_add_131 : decode cX1_add 131 = .ok (.getfield 25, 3) := by decide +kernel
theorem dX1_add_134 : decode cX1_add 134 = .ok (.lload 7, 2) := by decide +kernel
theorem dX1_add_136 : decode cX1_add 136 = .ok (.lmul, 1) := by decide +kernel
theorem dX1_add_137 : decode cX1_add 137 = .ok (.lstore 11, 2) := by decide +kernel
theorem dX1_add_139 : decode cX1_add 139 = .ok (.aload_n 0, 1) := by decide +kernel
theorem dX1_add_140 : decode cX1_add 140 = .ok (.iload_n 1, 1) := by decide +kernel
theorem dX1_add_141 : decode cX1_add 141 = .ok (.ifCond .lt 15, 3) := by decide +kernel
theorem dX1_add_144 : decode cX1_add 144 = .ok (.lload 9, 2) := by decide +kernel
theorem dX1_add_146 : decode cX1_add 146 = .ok (.ldc2_w 19, 3) := by decide +kernel
theorem dX1_add_149 : decode cX1_add 149 = .ok (.lload 11, 2) := by decide +kernel
theorem dX1_add_151 : decode cX1_add 151 = .ok (.lsub, 1) := by decide +kernel
theorem dX1_add_152 : decode cX1_add 152 = .ok (.lcmp, 1) := by decide +kernel
theorem dX1_add_153 : decode cX1_add 153 = .ok (.ifCond .gt 7, 3) := by decide +kernel
theorem dX1_add_156 : decode cX1_add 156 = .ok (.iconst 1, 1) := by decide +kernel
theorem dX1_add_157 : decode cX1_add 157 = .ok (.goto 4, 3) := by decide +kernel
theorem dX1_add_160 : decode cX1_add 160 = .ok (.iconst 0, 1) := by decide +kernel
theorem dX1_add_161 : decode cX1_add 161 = .ok (.putfield 13, 3) := by decide +kernel
theorem dX1_add_164 : decode cX1_add 164 = .ok (.aload_n 0, 1) := by decide +kernel
theorem dX1_add_165 : decode cX1_add 165 = .ok (.getfield 13, 3) := by decide +kernel
theorem dX1_add_168 : decode cX1_add 168 = .ok (.ifCond .eq 22, 3) := by decide +kernel
theorem dX1_add_171 : decode cX1_add 171 = .ok (.aload_n 0, 1) := by decide +kernel
theorem dX1_add_172 : decode cX1_add 172 = .ok (.lload 9, 2) := by decide +kernel
theorem dX1_add_174 : decode cX1_add 174 = .ok (.iload_n 1, 1) := by decide +kernel
theorem dX1_add_175 : decode cX1_add 175 = .ok (.i2l, 1) := by decide +kernel
theorem dX1_add_176 : decode cX1_add 176 = .ok (.lload 11, 2) := by decide +kernel
theorem dX1_add_178 : decode cX1_add 178 = .ok (.lmul, 1) := by decide +kernel
theorem dX1_add_179 : decode cX1_add 179 = .ok (.ladd, 1) := by decide +kernel
theorem dX1_add_180 : decode cX1_add 180 = .ok (.aload_n 0, 1) := by decide +kernel
theorem dX1_add_181 : decode cX1_add 181 = .ok (.getfield 7, 3) := by decide +kernel
theorem dX1_add_184 : decode cX1_add 184 = .ok (.lload 5, 2) := by decide +kernel
theorem dX1_add_186 : decode cX1_add 186 = .ok (.lmul, 1) := by decide +kernel
theorem dX1_add_187 : decode cX1_add 187 = .ok (.invokevirtual 32, 3) := by decide +kernel
theorem dX1_add_190 : decode cX1_add 190 = .ok (.return_, 1) := by decide +kernel
theorem dX1_isSame_0 : decode cX1_isSame 0 = .ok (.aload_n 0, 1) := by decide +kernel
theorem dX1_isSame_1 : decode cX1_isSame 1 = .ok (.getfield 25, 3) := by decide +kernel
theorem dX1_isSame_4 : decode cX1_isSame 4 = .ok (.aload_n 1, 1) := by decide +kernel
theorem dX1_isSame_5 : decode cX1_isSame 5 = .ok (.getfield 25, 3) := by decide +kernel
theorem dX1_isSame_8 : decode cX1_isSame 8 = .ok (.lcmp, 1) := by decide +kernel
theorem dX1_isSame_9 : decode cX1_isSame 9 = .ok (.ifCond .ne 19, 3) := by decide +kernel
theorem dX1_isSame_12 : decode cX1_isSame 12 = .ok (.aload_n 0, 1) := by decide +kernel
theorem dX1_isSame_13 : decode cX1_isSame 13 = .ok (.getfield 7, 3) := by decide +kernel
theorem dX1_isSame_16 : decode cX1_isSame 16 = .ok (.aload_n 1, 1) := by decide +kernel
theorem dX1_isSame_17 : decode cX1_isSame 17 = .ok (.getfield 7, 3) := by decide +kernel
theorem dX1_isSame_20 : decode cX1_isSame 20 = .ok (.lcmp, 1) := by decide +kernel
theorem dX1_isSame_21 : decode cX1_isSame 21 = .ok (.ifCond .ne 7, 3) := by decide +kernel
theorem dX1_isSame_24 : decode cX1_isSame 24 = .ok (.iconst 1, 1) := by decide +kernel
theorem dX1_isSame_25 : decode cX1_isSame 25 = .ok (.goto 4, 3) := by decide +kernel
theorem dX1_isSame_28 : decode cX1_isSame 28 = .ok (.iconst 0, 1) := by decide +kernel
theorem dX1_isSame_29 : decode cX1_isSame 29 = .ok (.ireturn, 1) := by decide +kernel
theorem dX2_init_0 : decode cX2_init 0 = .ok (.aload_n 0, 1) := by decide +kernel
theorem dX2_init_1 : decode cX2_init 1 = .ok (.invokespecial 3, 3) := by decide +kernel
theorem dX2_init_4 : decode cX2_init 4 = .ok (.aload_n 0, 1) := by decide +kernel
theorem dX2_init_5 : decode cX2_init 5 = .ok (.sipush 256, 3) := by decide +kernel
theorem dX2_init_8 : decode cX2_init 8 = .ok (.newarray .int, 2) := by decide +kernel
theorem dX2_init_10 : decode cX2_init 10 = .ok (.putfield 9, 3) := by decide +kernel
theorem dX2_init_13 : decode cX2_init 13 = .ok (.aload_n 0, 1) := by decide +kernel
theorem dX2_init_14 : decode cX2_init 14 = .ok (.bipush 16, 2) := by decide +kernel
theorem dX2_init_16 : decode cX2_init 16 = .ok (.newarray .int, 2) := by decide +kernel
theorem dX2_init_18 : decode cX2_init 18 = .ok (.putfield 15, 3) := by decide +kernel
theorem dX2_init_21 : decode cX2_init 21 = .ok (.aload_n 0, 1) := by decide +kernel
theorem dX2_init_22 : decode cX2_init 22 = .ok (.sipush 256, 3) := by decide +kernel
theorem dX2_init_25 : decode cX2_init 25 = .ok (.newarray .long, 2) := by decide +kernel
theorem dX2_init_27 : decode cX2_init 27 = .ok (.putfield 18, 3) := by decide +kernel
theorem dX2_init_30 : decode cX2_init 30 = .ok (.aload_n 0, 1) := by decide +kernel
theorem dX2_init_31 : decode cX2_init 31 = .ok (.sipush 256, 3) := by decide +kernel
theorem dX2_init_34 : decode cX2_init 34 = .ok (.newarray .long, 2) := by decide +kernel
theorem dX2_init_36 : decode cX2_init 36 = .ok (.putfield 22, 3) := by decide +kernel
theorem dX2_init_39 : decode cX2_init 39 = .ok (.return_, 1) := by decide +kernel
theorem dX2_cell_0 : decode cX2_cell 0 = .ok (.iload_n 0, 1) := by decide +kernel
theorem dX2_cell_1 : decode cX2_cell 1 = .ok (.bipush 16, 2) := by decide +kernel
theorem dX2_cell_3 : decode cX2_cell 3 = .ok (.imul, 1) := by decide +kernel
theorem dX2_cell_4 : decode cX2_cell 4 = .ok (.iload_n 1, 1) := by decide +kernel
theorem dX2_cell_5 : decode cX2_cell 5 = .ok (.iadd, 1) := by decide +kernel
theorem dX2_cell_6 : decode cX2_cell 6 = .ok (.ireturn, 1) := by decide +kernel
theorem dX2_become_0 : decode cX2_become 0 = .ok (.aload_n 0, 1) := by decide +kernel
theorem dX2_become_1 : decode cX2_become 1 = .ok (.iload_n 1, 1) := by decide +kernel
theorem dX2_become_2 : decode cX2_become 2 = .ok (.putfield 25, 3) := by decide +kernel
theorem dX2_become_5 : decode cX2_become 5 = .ok (.aload_n 0, 1) := by decide +kernel
theorem dX2_become_6 : decode cX2_become 6 = .ok (.iload_n 2, 1) := by decide +kernel
theorem dX2_become_7 : decode cX2_become 7 = .ok (.putfield 29, 3) := by decide +kernel
theorem dX2_become_10 : decode cX2_become 10 = .ok (.aload_n 0, 1) := by decide +kernel
theorem dX2_become_11 : decode cX2_become 11 = .ok (.iload_n 3, 1) := by decide +kernel
theorem dX2_become_12 : decode cX2_become 12 = .ok (.putfield 32, 3) := by decide +kernel
theorem dX2_become_15 : decode cX2_become 15 = .ok (.aload_n 0, 1) := by decide +kernel
theorem dX2_become_16 : decode cX2_become 16 = .ok (.iconst 1, 1) := by decide +kernel
theorem dX2_become_17 : decode cX2_become 17 = .ok (.putfield 35, 3) := by decide +kernel
theorem dX2_become_20 : decode cX2_become 20 = .ok (.aload_n 0, 1) := by decide +kernel
theorem dX2_become_21 : decode cX2_become 21 = .ok (.iconst 1, 1) := by decide +kernel
theorem dX2_become_22 : decode cX2_become 22 = .ok (.putfield 38, 3) := by decide +kernel
theorem dX2_become_25 : decode cX2_become 25 = .ok (.aload_n 0, 1) := by decide +kernel
theorem dX2_become_26 : decode cX2_become 26 = .ok (.iload 4, 2) := by decide +kernel
theorem dX2_become_28 : decode cX2_become 28 = .ok (.putfield 41, 3) := by decide +kernel
theorem dX2_become_31 : decode cX2_become 31 = .ok (.aload_n 0, 1) := by decide +kernel
theorem dX2_become_32 : decode cX2_become 32 = .ok (.getfield 9, 3) := by decide +kernel
theorem dX2_become_35 : decode cX2_become 35 = .ok (.iconst 0, 1) := by decide +kernel
theorem dX2_become_36 : decode cX2_become 36 = .ok (.invokestatic 44, 3) := by decide +kernel
theorem dX2_become_39 : decode cX2_become 39 = .ok (.aload_n 0, 1) := by decide +kernel
theorem dX2_become_40 : decode cX2_become 40 = .ok (.getfield 15, 3) := by decide +kernel
theorem dX2_become_43 : decode cX2_become 43 = .ok (.iconst 0, 1) := by decide +kernel
theorem dX2_become_44 : decode cX2_become 44 = .ok (.invokestatic 44, 3) := by decide +kernel
theorem dX2_become_47 : decode cX2_become 47 = .ok (.return_, 1) := by decide +kernel
theorem dX2_toldOf_0 : decode cX2_toldOf 0 = .ok (.aload_n 0, 1) := by decide +kernel
theorem dX2_toldOf_1 : decode cX2_toldOf 1 = .ok (.getfield 9, 3) := by decide +kernel
theorem dX2_toldOf_4 : decode cX2_toldOf 4 = .ok (.iload_n 1, 1) := by decide +kernel
theorem dX2_toldOf_5 : decode cX2_toldOf 5 = .ok (.bipush 16, 2) := by decide +kernel
theorem dX2_toldOf_7 : decode cX2_toldOf 7 = .ok (.imul, 1) := by decide +kernel
theorem dX2_toldOf_8 : decode cX2_toldOf 8 = .ok (.iload_n 2, 1) := by decide +kernel
theorem dX2_toldOf_9 : decode cX2_toldOf 9 = .ok (.iadd, 1) := by decide +kernel
theorem dX2_toldOf_10 : decode cX2_toldOf 10 = .ok (.iaload, 1) := by decide +kernel
theorem dX2_toldOf_11 : decode cX2_toldOf 11 = .ok (.ireturn, 1) := by decide +kernel
theorem dX2_tell_0 : decode cX2_tell 0 = .ok (.aload_n 0, 1) := by decide +kernel
theorem dX2_tell_1 : decode cX2_tell 1 = .ok (.iload_n 1, 1) := by decide +kernel
theorem dX2_tell_2 : decode cX2_tell 2 = .ok (.iload_n 2, 1) := by decide +kernel
theorem dX2_tell_3 : decode cX2_tell 3 = .ok (.invokevirtual 50, 3) := by decide +kernel
theorem dX2_tell_6 : decode cX2_tell 6 = .ok (.istore 4, 2) := by decide +kernel
theorem dX2_tell_8 : decode cX2_tell 8 = .ok (.aload_n 0, 1) := by decide +kernel
theorem dX2_tell_9 : decode cX2_tell 9 = .ok (.getfield 9, 3) := by decide +kernel
theorem dX2_tell_12 : decode cX2_tell 12 = .ok (.iload_n 1, 1) := by decide +kernel
theorem dX2_tell_13 : decode cX2_tell 13 = .ok (.bipush 16, 2) := by decide +kernel
theorem dX2_tell_15 : decode cX2_tell 15 = .ok (.imul, 1) := by decide +kernel
theorem dX2_tell_16 : decode cX2_tell 16 = .ok (.iload_n 2, 1) := by decide +kernel
theorem dX2_tell_17 : decode cX2_tell 17 = .ok (.iadd, 1) := by decide +kernel
theorem dX2_tell_18 : decode cX2_tell 18 = .ok (.iload_n 3, 1) := by decide +kernel
theorem dX2_tell_19 : decode cX2_tell 19 = .ok (.iastore, 1) := by decide +kernel
theorem dX2_tell_20 : decode cX2_tell 20 = .ok (.aload_n 0, 1) := by decide +kernel
theorem dX2_tell_21 : decode cX2_tell 21 = .ok (.getfield 15, 3) := by decide +kernel
theorem dX2_tell_24 : decode cX2_tell 24 = .ok (.iload_n 1, 1) := by decide +kernel
theorem dX2_tell_25 : decode cX2_tell 25 = .ok (.dup2, 1) := by decide +kernel
theorem dX2_tell_26 : decode cX2_tell 26 = .ok (.iaload, 1) := by decide +kernel
theorem dX2_tell_27 : decode cX2_tell 27 = .ok (.iload_n 3, 1) := by decide +kernel
theorem dX2_tell_28 : decode cX2_tell 28 = .ok (.iload 4, 2) := by decide +kernel
theorem dX2_tell_30 : decode cX2_tell 30 = .ok (.isub, 1) := by decide +kernel
theorem dX2_tell_31 : decode cX2_tell 31 = .ok (.iadd, 1) := by decide +kernel
theorem dX2_tell_32 : decode cX2_tell 32 = .ok (.iastore, 1) := by decide +kernel
theorem dX2_tell_33 : decode cX2_tell 33 = .ok (.iload 4, 2) := by decide +kernel
theorem dX2_tell_35 : decode cX2_tell 35 = .ok (.ireturn, 1) := by decide +kernel
theorem dX2_freshen_0 : decode cX2_freshen 0 = .ok (.aload_n 0, 1) := by decide +kernel
theorem dX2_freshen_1 : decode cX2_freshen 1 = .ok (.getfield 54, 3) := by decide +kernel
theorem dX2_freshen_4 : decode cX2_freshen 4 = .ok (.iload_n 1, 1) := by decide +kernel
theorem dX2_freshen_5 : decode cX2_freshen 5 = .ok (.if_icmp .eq 16, 3) := by decide +kernel
theorem dX2_freshen_8 : decode cX2_freshen 8 = .ok (.aload_n 0, 1) := by decide +kernel
theorem dX2_freshen_9 : decode cX2_freshen 9 = .ok (.getfield 22, 3) := by decide +kernel
theorem dX2_freshen_12 : decode cX2_freshen 12 = .ok (.lconst 0, 1) := by decide +kernel
theorem dX2_freshen_13 : decode cX2_freshen 13 = .ok (.invokestatic 57, 3) := by decide +kernel
theorem dX2_freshen_16 : decode cX2_freshen 16 = .ok (.aload_n 0, 1) := by decide +kernel
theorem dX2_freshen_17 : decode cX2_freshen 17 = .ok (.iload_n 1, 1) := by decide +kernel
theorem dX2_freshen_18 : decode cX2_freshen 18 = .ok (.putfield 54, 3) := by decide +kernel
theorem dX2_freshen_21 : decode cX2_freshen 21 = .ok (.return_, 1) := by decide +kernel
theorem dX2_knows_0 : decode cX2_knows 0 = .ok (.aload_n 0, 1) := by decide +kernel
theorem dX2_knows_1 : decode cX2_knows 1 = .ok (.getfield 22, 3) := by decide +kernel
theorem dX2_knows_4 : decode cX2_knows 4 = .ok (.iload_n 1, 1) := by decide +kernel
theorem dX2_knows_5 : decode cX2_knows 5 = .ok (.iload_n 2, 1) := by decide +kernel
theorem dX2_knows_6 : decode cX2_knows 6 = .ok (.invokestatic 60, 3) := by decide +kernel
theorem dX2_knows_9 : decode cX2_knows 9 = .ok (.laload, 1) := by decide +kernel
theorem dX2_knows_10 : decode cX2_knows 10 = .ok (.lconst 0, 1) := by decide +kernel
theorem dX2_knows_11 : decode cX2_knows 11 = .ok (.lcmp, 1) := by decide +kernel
theorem dX2_knows_12 : decode cX2_knows 12 = .ok (.ifCond .eq 7, 3) := by decide +kernel
theorem dX2_knows_15 : decode cX2_knows 15 = .ok (.iconst 1, 1) := by decide +kernel
theorem dX2_knows_16 : decode cX2_knows 16 = .ok (.goto 4, 3) := by decide +kernel
theorem dX2_knows_19 : decode cX2_knows 19 = .ok (.iconst 0, 1) := by decide +kernel
theorem dX2_knows_20 : decode cX2_knows 20 = .ok (.ireturn, 1) := by decide +kernel
theorem dX2_store_0 : decode cX2_store 0 = .ok (.aload_n 0, 1) := by decide +kernel
theorem dX2_store_1 : decode cX2_store 1 = .ok (.getfield 18, 3) := by decide +kernel
theorem dX2_store_4 : decode cX2_store 4 = .ok (.iload_n 1, 1) := by decide +kernel
theorem dX2_store_5 : decode cX2_store 5 = .ok (.iload_n 2, 1) := by decide +kernel
theorem dX2_store_6 : decode cX2_store 6 = .ok (.invokestatic 60, 3) := by decide +kernel
theorem dX2_store_9 : decode cX2_store 9 = .ok (.aload_n 3, 1) := by decide +kernel
theorem dX2_store_10 : decode cX2_store 10 = .ok (.getfield 63, 3) := by decide +kernel
theorem dX2_store_13 : decode cX2_store 13 = .ok (.lastore, 1) := by decide +kernel
theorem dX2_store_14 : decode cX2_store 14 = .ok (.aload_n 0, 1) := by decide +kernel
theorem dX2_store_15 : decode cX2_store 15 = .ok (.getfield 22, 3) := by decide +kernel
theorem dX2_store_18 : decode cX2_store 18 = .ok (.iload_n 1, 1) := by decide +kernel
theorem dX2_store_19 : decode cX2_store 19 = .ok (.iload_n 2, 1) := by decide +kernel
theorem dX2_store_20 : decode cX2_store 20 = .ok (.invokestatic 60, 3) := by decide +kernel
theorem dX2_store_23 : decode cX2_store 23 = .ok (.aload_n 3, 1) := by decide +kernel
theorem dX2_store_24 : decode cX2_store 24 = .ok (.getfield 68, 3) := by decide +kernel
theorem dX2_store_27 : decode cX2_store 27 = .ok (.ifCond .eq 10, 3) := by decide +kernel
theorem dX2_store_30 : decode cX2_store 30 = .ok (.aload_n 3, 1) := by decide +kernel
theorem dX2_store_31 : decode cX2_store 31 = .ok (.getfield 72, 3) := by decide +kernel
theorem dX2_store_34 : decode cX2_store 34 = .ok (.goto 6, 3) := by decide +kernel
theorem dX2_store_37 : decode cX2_store 37 = .ok (.ldc2_w 74, 3) := by decide +kernel
theorem dX2_store_40 : decode cX2_store 40 = .ok (.lastore, 1) := by decide +kernel
theorem dX2_store_41 : decode cX2_store 41 = .ok (.return_, 1) := by decide +kernel
theorem dX2_load_0 : decode cX2_load 0 = .ok (.aload_n 3, 1) := by decide +kernel
theorem dX2_load_1 : decode cX2_load 1 = .ok (.aload_n 0, 1) := by decide +kernel
theorem dX2_load_2 : decode cX2_load 2 = .ok (.getfield 18, 3) := by decide +kernel
theorem dX2_load_5 : decode cX2_load 5 = .ok (.iload_n 1, 1) := by decide +kernel
theorem dX2_load_6 : decode cX2_load 6 = .ok (.iload_n 2, 1) := by decide +kernel
theorem dX2_load_7 : decode cX2_load 7 = .ok (.invokestatic 60, 3) := by decide +kernel
theorem dX2_load_10 : decode cX2_load 10 = .ok (.laload, 1) := by decide +kernel
theorem dX2_load_11 : decode cX2_load 11 = .ok (.putfield 63, 3) := by decide +kernel
theorem dX2_load_14 : decode cX2_load 14 = .ok (.aload_n 3, 1) := by decide +kernel
theorem dX2_load_15 : decode cX2_load 15 = .ok (.aload_n 0, 1) := by decide +kernel
theorem dX2_load_16 : decode cX2_load 16 = .ok (.getfield 22, 3) := by decide +kernel
theorem dX2_load_19 : decode cX2_load 19 = .ok (.iload_n 1, 1) := by decide +kernel
theorem dX2_load_20 : decode cX2_load 20 = .ok (.iload_n 2, 1) := by decide +kernel
theorem dX2_load_21 : decode cX2_load 21 = .ok (.invokestatic 60, 3) := by decide +kernel
theorem dX2_load_24 : decode cX2_load 24 = .ok (.laload, 1) := by decide +kernel
theorem dX2_load_25 : decode cX2_load 25 = .ok (.putfield 72, 3) := by decide +kernel
theorem dX2_load_28 : decode cX2_load 28 = .ok (.aload_n 3, 1) := by decide +kernel
theorem dX2_load_29 : decode cX2_load 29 = .ok (.aload_n 3, 1) := by decide +kernel
theorem dX2_load_30 : decode cX2_load 30 = .ok (.getfield 72, 3) := by decide +kernel
theorem dX2_load_33 : decode cX2_load 33 = .ok (.lconst 0, 1) := by decide +kernel
theorem dX2_load_34 : decode cX2_load 34 = .ok (.lcmp, 1) := by decide +kernel
theorem dX2_load_35 : decode cX2_load 35 = .ok (.ifCond .le 7, 3) := by decide +kernel
theorem dX2_load_38 : decode cX2_load 38 = .ok (.iconst 1, 1) := by decide +kernel
theorem dX2_load_39 : decode cX2_load 39 = .ok (.goto 4, 3) := by decide +kernel
theorem dX2_load_42 : decode cX2_load 42 = .ok (.iconst 0, 1) := by decide +kernel
theorem dX2_load_43 : decode cX2_load 43 = .ok (.putfield 68, 3) := by decide +kernel
theorem dX2_load_46 : decode cX2_load 46 = .ok (.return_, 1) := by decide +kernel
theorem dX3_init_0 : decode cX3_init 0 = .ok (.aload_n 0, 1) := by decide +kernel
theorem dX3_init_1 : decode cX3_init 1 = .ok (.invokespecial 3, 3) := by decide +kernel
theorem dX3_init_4 : decode cX3_init 4 = .ok (.aload_n 0, 1) := by decide +kernel
theorem dX3_init_5 : decode cX3_init 5 = .ok (.iconst 4, 1) := by decide +kernel
theorem dX3_init_6 : decode cX3_init 6 = .ok (.newarray .int, 2) := by decide +kernel
theorem dX3_init_8 : decode cX3_init 8 = .ok (.putfield 9, 3) := by decide +kernel
theorem dX3_init_11 : decode cX3_init 11 = .ok (.aload_n 0, 1) := by decide +kernel
theorem dX3_init_12 : decode cX3_init 12 = .ok (.iconst 4, 1) := by decide +kernel
theorem dX3_init_13 : decode cX3_init 13 = .ok (.newarray .int, 2) := by decide +kernel
theorem dX3_init_15 : decode cX3_init 15 = .ok (.putfield 15, 3) := by decide +kernel
theorem dX3_init_18 : decode cX3_init 18 = .ok (.aload_n 0, 1) := by decide +kernel
