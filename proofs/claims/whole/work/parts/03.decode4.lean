theorem dX7_cycleChance_74 : decode cX7_cycleChance 74 = .ok (.iload_n 3, 1) := by decide +kernel
theorem dX7_cycleChance_75 : decode cX7_cycleChance 75 = .ok (.invokevirtual 177, 3) := by decide +kernel
theorem dX7_cycleChance_78 : decode cX7_cycleChance 78 = .ok (.laload, 1) := by decide +kernel
theorem dX7_cycleChance_79 : decode cX7_cycleChance 79 = .ok (.invokevirtual 134, 3) := by decide +kernel
theorem dX7_cycleChance_82 : decode cX7_cycleChance 82 = .ok (.aload_n 0, 1) := by decide +kernel
theorem dX7_cycleChance_83 : decode cX7_cycleChance 83 = .ok (.getfield 107, 3) := by decide +kernel
theorem dX7_cycleChance_86 : decode cX7_cycleChance 86 = .ok (.lstore 9, 2) := by decide +kernel
theorem dX7_cycleChance_88 : decode cX7_cycleChance 88 = .ok (.aload_n 0, 1) := by decide +kernel
theorem dX7_cycleChance_89 : decode cX7_cycleChance 89 = .ok (.getfield 111, 3) := by decide +kernel
theorem dX7_cycleChance_92 : decode cX7_cycleChance 92 = .ok (.lstore 11, 2) := by decide +kernel
theorem dX7_cycleChance_94 : decode cX7_cycleChance 94 = .ok (.aload_n 0, 1) := by decide +kernel
theorem dX7_cycleChance_95 : decode cX7_cycleChance 95 = .ok (.lload 4, 2) := by decide +kernel
theorem dX7_cycleChance_97 : decode cX7_cycleChance 97 = .ok (.putfield 107, 3) := by decide +kernel
theorem dX7_cycleChance_100 : decode cX7_cycleChance 100 = .ok (.aload_n 0, 1) := by decide +kernel
theorem dX7_cycleChance_101 : decode cX7_cycleChance 101 = .ok (.lload 6, 2) := by decide +kernel
theorem dX7_cycleChance_103 : decode cX7_cycleChance 103 = .ok (.putfield 111, 3) := by decide +kernel
theorem dX7_cycleChance_106 : decode cX7_cycleChance 106 = .ok (.aload_n 0, 1) := by decide +kernel
theorem dX7_cycleChance_107 : decode cX7_cycleChance 107 = .ok (.lload 9, 2) := by decide +kernel
theorem dX7_cycleChance_109 : decode cX7_cycleChance 109 = .ok (.lload 11, 2) := by decide +kernel
theorem dX7_cycleChance_111 : decode cX7_cycleChance 111 = .ok (.iconst 0, 1) := by decide +kernel
theorem dX7_cycleChance_112 : decode cX7_cycleChance 112 = .ok (.invokevirtual 141, 3) := by decide +kernel
theorem dX7_cycleChance_115 : decode cX7_cycleChance 115 = .ok (.aload_n 0, 1) := by decide +kernel
theorem dX7_cycleChance_116 : decode cX7_cycleChance 116 = .ok (.getfield 107, 3) := by decide +kernel
theorem dX7_cycleChance_119 : decode cX7_cycleChance 119 = .ok (.lstore 4, 2) := by decide +kernel
theorem dX7_cycleChance_121 : decode cX7_cycleChance 121 = .ok (.aload_n 0, 1) := by decide +kernel
theorem dX7_cycleChance_122 : decode cX7_cycleChance 122 = .ok (.getfield 111, 3) := by decide +kernel
theorem dX7_cycleChance_125 : decode cX7_cycleChance 125 = .ok (.lstore 6, 2) := by decide +kernel
theorem dX7_cycleChance_127 : decode cX7_cycleChance 127 = .ok (.iinc 8 1, 3) := by decide +kernel
theorem dX7_cycleChance_130 : decode cX7_cycleChance 130 = .ok (.goto (-121), 3) := by decide +kernel
theorem dX7_cycleChance_133 : decode cX7_cycleChance 133 = .ok (.aload_n 0, 1) := by decide +kernel
theorem dX7_cycleChance_134 : decode cX7_cycleChance 134 = .ok (.lload 4, 2) := by decide +kernel
theorem dX7_cycleChance_136 : decode cX7_cycleChance 136 = .ok (.putfield 107, 3) := by decide +kernel
theorem dX7_cycleChance_139 : decode cX7_cycleChance 139 = .ok (.aload_n 0, 1) := by decide +kernel
theorem dX7_cycleChance_140 : decode cX7_cycleChance 140 = .ok (.lload 6, 2) := by decide +kernel
theorem dX7_cycleChance_142 : decode cX7_cycleChance 142 = .ok (.putfield 111, 3) := by decide +kernel
theorem dX7_cycleChance_145 : decode cX7_cycleChance 145 = .ok (.return_, 1) := by decide +kernel
theorem dX7_want_0 : decode cX7_want 0 = .ok (.iconst 0, 1) := by decide +kernel
theorem dX7_want_1 : decode cX7_want 1 = .ok (.istore_n 2, 1) := by decide +kernel
theorem dX7_want_2 : decode cX7_want 2 = .ok (.iload_n 2, 1) := by decide +kernel
theorem dX7_want_3 : decode cX7_want 3 = .ok (.bipush 10, 2) := by decide +kernel
theorem dX7_want_5 : decode cX7_want 5 = .ok (.if_icmp .ge 25, 3) := by decide +kernel
theorem dX7_want_8 : decode cX7_want 8 = .ok (.aload_n 0, 1) := by decide +kernel
theorem dX7_want_9 : decode cX7_want 9 = .ok (.getfield 51, 3) := by decide +kernel
theorem dX7_want_12 : decode cX7_want 12 = .ok (.iload_n 2, 1) := by decide +kernel
theorem dX7_want_13 : decode cX7_want 13 = .ok (.iload_n 2, 1) := by decide +kernel
theorem dX7_want_14 : decode cX7_want 14 = .ok (.iload_n 1, 1) := by decide +kernel
theorem dX7_want_15 : decode cX7_want 15 = .ok (.if_icmp .ne 7, 3) := by decide +kernel
theorem dX7_want_18 : decode cX7_want 18 = .ok (.iconst 1, 1) := by decide +kernel
theorem dX7_want_19 : decode cX7_want 19 = .ok (.goto 4, 3) := by decide +kernel
theorem dX7_want_22 : decode cX7_want 22 = .ok (.iconst 0, 1) := by decide +kernel
theorem dX7_want_23 : decode cX7_want 23 = .ok (.bastore, 1) := by decide +kernel
theorem dX7_want_24 : decode cX7_want 24 = .ok (.iinc 2 1, 3) := by decide +kernel
theorem dX7_want_27 : decode cX7_want 27 = .ok (.goto (-25), 3) := by decide +kernel
theorem dX7_want_30 : decode cX7_want 30 = .ok (.iload_n 1, 1) := by decide +kernel
theorem dX7_want_31 : decode cX7_want 31 = .ok (.istore_n 2, 1) := by decide +kernel
theorem dX7_want_32 : decode cX7_want 32 = .ok (.iload_n 2, 1) := by decide +kernel
theorem dX7_want_33 : decode cX7_want 33 = .ok (.ifCond .lt 52, 3) := by decide +kernel
theorem dX7_want_36 : decode cX7_want 36 = .ok (.aload_n 0, 1) := by decide +kernel
theorem dX7_want_37 : decode cX7_want 37 = .ok (.getfield 51, 3) := by decide +kernel
theorem dX7_want_40 : decode cX7_want 40 = .ok (.iload_n 2, 1) := by decide +kernel
theorem dX7_want_41 : decode cX7_want 41 = .ok (.baload, 1) := by decide +kernel
theorem dX7_want_42 : decode cX7_want 42 = .ok (.ifCond .eq 37, 3) := by decide +kernel
theorem dX7_want_45 : decode cX7_want 45 = .ok (.aload_n 0, 1) := by decide +kernel
theorem dX7_want_46 : decode cX7_want 46 = .ok (.getfield 16, 3) := by decide +kernel
theorem dX7_want_49 : decode cX7_want 49 = .ok (.iload_n 2, 1) := by decide +kernel
theorem dX7_want_50 : decode cX7_want 50 = .ok (.iaload, 1) := by decide +kernel
theorem dX7_want_51 : decode cX7_want 51 = .ok (.iconst 5, 1) := by decide +kernel
theorem dX7_want_52 : decode cX7_want 52 = .ok (.if_icmp .lt 27, 3) := by decide +kernel
theorem dX7_want_55 : decode cX7_want 55 = .ok (.aload_n 0, 1) := by decide +kernel
theorem dX7_want_56 : decode cX7_want 56 = .ok (.getfield 51, 3) := by decide +kernel
theorem dX7_want_59 : decode cX7_want 59 = .ok (.aload_n 0, 1) := by decide +kernel
theorem dX7_want_60 : decode cX7_want 60 = .ok (.getfield 19, 3) := by decide +kernel
theorem dX7_want_63 : decode cX7_want 63 = .ok (.iload_n 2, 1) := by decide +kernel
theorem dX7_want_64 : decode cX7_want 64 = .ok (.iaload, 1) := by decide +kernel
theorem dX7_want_65 : decode cX7_want 65 = .ok (.iconst 1, 1) := by decide +kernel
theorem dX7_want_66 : decode cX7_want 66 = .ok (.bastore, 1) := by decide +kernel
theorem dX7_want_67 : decode cX7_want 67 = .ok (.aload_n 0, 1) := by decide +kernel
theorem dX7_want_68 : decode cX7_want 68 = .ok (.getfield 51, 3) := by decide +kernel
theorem dX7_want_71 : decode cX7_want 71 = .ok (.aload_n 0, 1) := by decide +kernel
theorem dX7_want_72 : decode cX7_want 72 = .ok (.getfield 22, 3) := by decide +kernel
theorem dX7_want_75 : decode cX7_want 75 = .ok (.iload_n 2, 1) := by decide +kernel
theorem dX7_want_76 : decode cX7_want 76 = .ok (.iaload, 1) := by decide +kernel
theorem dX7_want_77 : decode cX7_want 77 = .ok (.iconst 1, 1) := by decide +kernel
theorem dX7_want_78 : decode cX7_want 78 = .ok (.bastore, 1) := by decide +kernel
theorem dX7_want_79 : decode cX7_want 79 = .ok (.iinc 2 (-1), 3) := by decide +kernel
theorem dX7_want_82 : decode cX7_want 82 = .ok (.goto (-50), 3) := by decide +kernel
theorem dX7_want_85 : decode cX7_want 85 = .ok (.return_, 1) := by decide +kernel
theorem dX7_know_0 : decode cX7_know 0 = .ok (.aload_n 0, 1) := by decide +kernel
theorem dX7_know_1 : decode cX7_know 1 = .ok (.iload_n 1, 1) := by decide +kernel
theorem dX7_know_2 : decode cX7_know 2 = .ok (.invokevirtual 184, 3) := by decide +kernel
theorem dX7_know_5 : decode cX7_know 5 = .ok (.iconst 0, 1) := by decide +kernel
theorem dX7_know_6 : decode cX7_know 6 = .ok (.istore_n 2, 1) := by decide +kernel
theorem dX7_know_7 : decode cX7_know 7 = .ok (.iload_n 2, 1) := by decide +kernel
theorem dX7_know_8 : decode cX7_know 8 = .ok (.iload_n 1, 1) := by decide +kernel
theorem dX7_know_9 : decode cX7_know 9 = .ok (.if_icmp .gt 153, 3) := by decide +kernel
theorem dX7_know_12 : decode cX7_know 12 = .ok (.aload_n 0, 1) := by decide +kernel
theorem dX7_know_13 : decode cX7_know 13 = .ok (.getfield 51, 3) := by decide +kernel
theorem dX7_know_16 : decode cX7_know 16 = .ok (.iload_n 2, 1) := by decide +kernel
theorem dX7_know_17 : decode cX7_know 17 = .ok (.baload, 1) := by decide +kernel
theorem dX7_know_18 : decode cX7_know 18 = .ok (.ifCond .eq 138, 3) := by decide +kernel
theorem dX7_know_21 : decode cX7_know 21 = .ok (.aload_n 0, 1) := by decide +kernel
theorem dX7_know_22 : decode cX7_know 22 = .ok (.getfield 44, 3) := by decide +kernel
theorem dX7_know_25 : decode cX7_know 25 = .ok (.iload_n 2, 1) := by decide +kernel
theorem dX7_know_26 : decode cX7_know 26 = .ok (.baload, 1) := by decide +kernel
theorem dX7_know_27 : decode cX7_know 27 = .ok (.ifCond .ne 129, 3) := by decide +kernel
theorem dX7_know_30 : decode cX7_know 30 = .ok (.aload_n 0, 1) := by decide +kernel
theorem dX7_know_31 : decode cX7_know 31 = .ok (.getfield 44, 3) := by decide +kernel
theorem dX7_know_34 : decode cX7_know 34 = .ok (.iload_n 2, 1) := by decide +kernel
theorem dX7_know_35 : decode cX7_know 35 = .ok (.iconst 1, 1) := by decide +kernel
theorem dX7_know_36 : decode cX7_know 36 = .ok (.bastore, 1) := by decide +kernel
theorem dX7_know_37 : decode cX7_know 37 = .ok (.iconst 0, 1) := by decide +kernel
theorem dX7_know_38 : decode cX7_know 38 = .ok (.istore_n 3, 1) := by decide +kernel
theorem dX7_know_39 : decode cX7_know 39 = .ok (.iload_n 3, 1) := by decide +kernel
theorem dX7_know_40 : decode cX7_know 40 = .ok (.aload_n 0, 1) := by decide +kernel
theorem dX7_know_41 : decode cX7_know 41 = .ok (.getfield 64, 3) := by decide +kernel
theorem dX7_know_44 : decode cX7_know 44 = .ok (.if_icmp .ge 112, 3) := by decide +kernel
theorem dX7_know_47 : decode cX7_know 47 = .ok (.iconst 0, 1) := by decide +kernel
theorem dX7_know_48 : decode cX7_know 48 = .ok (.istore 4, 2) := by decide +kernel
theorem dX7_know_50 : decode cX7_know 50 = .ok (.iload 4, 2) := by decide +kernel
theorem dX7_know_52 : decode cX7_know 52 = .ok (.aload_n 0, 1) := by decide +kernel
theorem dX7_know_53 : decode cX7_know 53 = .ok (.getfield 64, 3) := by decide +kernel
theorem dX7_know_56 : decode cX7_know 56 = .ok (.if_icmp .ge 94, 3) := by decide +kernel
theorem dX7_know_59 : decode cX7_know 59 = .ok (.aload_n 0, 1) := by decide +kernel
theorem dX7_know_60 : decode cX7_know 60 = .ok (.getfield 16, 3) := by decide +kernel
theorem dX7_know_63 : decode cX7_know 63 = .ok (.iload_n 2, 1) := by decide +kernel
theorem dX7_know_64 : decode cX7_know 64 = .ok (.iaload, 1) := by decide +kernel
theorem dX7_know_65 : decode cX7_know 65 = .ok (.iconst 5, 1) := by decide +kernel
theorem dX7_know_66 : decode cX7_know 66 = .ok (.if_icmp .ne 14, 3) := by decide +kernel
theorem dX7_know_69 : decode cX7_know 69 = .ok (.aload_n 0, 1) := by decide +kernel
theorem dX7_know_70 : decode cX7_know 70 = .ok (.iload_n 2, 1) := by decide +kernel
theorem dX7_know_71 : decode cX7_know 71 = .ok (.iload_n 3, 1) := by decide +kernel
theorem dX7_know_72 : decode cX7_know 72 = .ok (.iload 4, 2) := by decide +kernel
theorem dX7_know_74 : decode cX7_know 74 = .ok (.invokevirtual 187, 3) := by decide +kernel
theorem dX7_know_77 : decode cX7_know 77 = .ok (.goto 33, 3) := by decide +kernel
theorem dX7_know_80 : decode cX7_know 80 = .ok (.aload_n 0, 1) := by decide +kernel
theorem dX7_know_81 : decode cX7_know 81 = .ok (.getfield 16, 3) := by decide +kernel
theorem dX7_know_84 : decode cX7_know 84 = .ok (.iload_n 2, 1) := by decide +kernel
theorem dX7_know_85 : decode cX7_know 85 = .ok (.iaload, 1) := by decide +kernel
theorem dX7_know_86 : decode cX7_know 86 = .ok (.bipush 6, 2) := by decide +kernel
theorem dX7_know_88 : decode cX7_know 88 = .ok (.if_icmp .ne 14, 3) := by decide +kernel
theorem dX7_know_91 : decode cX7_know 91 = .ok (.aload_n 0, 1) := by decide +kernel
theorem dX7_know_92 : decode cX7_know 92 = .ok (.iload_n 2, 1) := by decide +kernel
theorem dX7_know_93 : decode cX7_know 93 = .ok (.iload_n 3, 1) := by decide +kernel
theorem dX7_know_94 : decode cX7_know 94 = .ok (.iload 4, 2) := by decide +kernel
theorem dX7_know_96 : decode cX7_know 96 = .ok (.invokevirtual 190, 3) := by decide +kernel
theorem dX7_know_99 : decode cX7_know 99 = .ok (.goto 11, 3) := by decide +kernel
theorem dX7_know_102 : decode cX7_know 102 = .ok (.aload_n 0, 1) := by decide +kernel
theorem dX7_know_103 : decode cX7_know 103 = .ok (.iload_n 2, 1) := by decide +kernel
theorem dX7_know_104 : decode cX7_know 104 = .ok (.iload_n 3, 1) := by decide +kernel
theorem dX7_know_105 : decode cX7_know 105 = .ok (.iload 4, 2) := by decide +kernel
theorem dX7_know_107 : decode cX7_know 107 = .ok (.invokevirtual 193, 3) := by decide +kernel
theorem dX7_know_110 : decode cX7_know 110 = .ok (.aload_n 0, 1) := by decide +kernel
theorem dX7_know_111 : decode cX7_know 111 = .ok (.getfield 37, 3) := by decide +kernel
theorem dX7_know_114 : decode cX7_know 114 = .ok (.aload_n 0, 1) := by decide +kernel
theorem dX7_know_115 : decode cX7_know 115 = .ok (.iload_n 2, 1) := by decide +kernel
theorem dX7_know_116 : decode cX7_know 116 = .ok (.iload_n 3, 1) := by decide +kernel
theorem dX7_know_117 : decode cX7_know 117 = .ok (.iload 4, 2) := by decide +kernel
theorem dX7_know_119 : decode cX7_know 119 = .ok (.invokevirtual 177, 3) := by decide +kernel
theorem dX7_know_122 : decode cX7_know 122 = .ok (.aload_n 0, 1) := by decide +kernel
theorem dX7_know_123 : decode cX7_know 123 = .ok (.getfield 107, 3) := by decide +kernel
theorem dX7_know_126 : decode cX7_know 126 = .ok (.lastore, 1) := by decide +kernel
theorem dX7_know_127 : decode cX7_know 127 = .ok (.aload_n 0, 1) := by decide +kernel
theorem dX7_know_128 : decode cX7_know 128 = .ok (.getfield 41, 3) := by decide +kernel
theorem dX7_know_131 : decode cX7_know 131 = .ok (.aload_n 0, 1) := by decide +kernel
theorem dX7_know_132 : decode cX7_know 132 = .ok (.iload_n 2, 1) := by decide +kernel
theorem dX7_know_133 : decode cX7_know 133 = .ok (.iload_n 3, 1) := by decide +kernel
theorem dX7_know_134 : decode cX7_know 134 = .ok (.iload 4, 2) := by decide +kernel
theorem dX7_know_136 : decode cX7_know 136 = .ok (.invokevirtual 177, 3) := by decide +kernel
theorem dX7_know_139 : decode cX7_know 139 = .ok (.aload_n 0, 1) := by decide +kernel
theorem dX7_know_140 : decode cX7_know 140 = .ok (.getfield 111, 3) := by decide +kernel
theorem dX7_know_143 : decode cX7_know 143 = .ok (.lastore, 1) := by decide +kernel
theorem dX7_know_144 : decode cX7_know 144 = .ok (.iinc 4 1, 3) := by decide +kernel
theorem dX7_know_147 : decode cX7_know 147 = .ok (.goto (-97), 3) := by decide +kernel
theorem dX7_know_150 : decode cX7_know 150 = .ok (.iinc 3 1, 3) := by decide +kernel
theorem dX7_know_153 : decode cX7_know 153 = .ok (.goto (-114), 3) := by decide +kernel
theorem dX7_know_156 : decode cX7_know 156 = .ok (.iinc 2 1, 3) := by decide +kernel
theorem dX7_know_159 : decode cX7_know 159 = .ok (.goto (-152), 3) := by decide +kernel
theorem dX7_know_162 : decode cX7_know 162 = .ok (.return_, 1) := by decide +kernel
theorem dX7_row_0 : decode cX7_row 0 = .ok (.aload_n 0, 1) := by decide +kernel
theorem dX7_row_1 : decode cX7_row 1 = .ok (.getfield 64, 3) := by decide +kernel
theorem dX7_row_4 : decode cX7_row 4 = .ok (.ifCond .ne 7, 3) := by decide +kernel
theorem dX7_row_7 : decode cX7_row 7 = .ok (.ldc2_w 196, 3) := by decide +kernel
theorem dX7_row_10 : decode cX7_row 10 = .ok (.lreturn, 1) := by decide +kernel
theorem dX7_row_11 : decode cX7_row 11 = .ok (.aload_n 0, 1) := by decide +kernel
theorem dX7_row_12 : decode cX7_row 12 = .ok (.iload_n 1, 1) := by decide +kernel
theorem dX7_row_13 : decode cX7_row 13 = .ok (.invokevirtual 98, 3) := by decide +kernel
theorem dX7_row_16 : decode cX7_row 16 = .ok (.ifCond .eq 29, 3) := by decide +kernel
theorem dX7_row_19 : decode cX7_row 19 = .ok (.aload_n 0, 1) := by decide +kernel
theorem dX7_row_20 : decode cX7_row 20 = .ok (.iload_n 2, 1) := by decide +kernel
theorem dX7_row_21 : decode cX7_row 21 = .ok (.invokevirtual 83, 3) := by decide +kernel
theorem dX7_row_24 : decode cX7_row 24 = .ok (.ifCond .eq 21, 3) := by decide +kernel
theorem dX7_row_27 : decode cX7_row 27 = .ok (.aload_n 0, 1) := by decide +kernel
theorem dX7_row_28 : decode cX7_row 28 = .ok (.iload_n 3, 1) := by decide +kernel
theorem dX7_row_29 : decode cX7_row 29 = .ok (.invokevirtual 83, 3) := by decide +kernel
theorem dX7_row_32 : decode cX7_row 32 = .ok (.ifCond .eq 13, 3) := by decide +kernel
theorem dX7_row_35 : decode cX7_row 35 = .ok (.iload 4, 2) := by decide +kernel
theorem dX7_row_37 : decode cX7_row 37 = .ok (.iconst 0, 1) := by decide +kernel
theorem dX7_row_38 : decode cX7_row 38 = .ok (.iconst 1, 1) := by decide +kernel
theorem dX7_row_39 : decode cX7_row 39 = .ok (.invokestatic 67, 3) := by decide +kernel
theorem dX7_row_42 : decode cX7_row 42 = .ok (.ifCond .ne 7, 3) := by decide +kernel
theorem dX7_row_45 : decode cX7_row 45 = .ok (.ldc2_w 198, 3) := by decide +kernel
theorem dX7_row_48 : decode cX7_row 48 = .ok (.lreturn, 1) := by decide +kernel
theorem dX7_row_49 : decode cX7_row 49 = .ok (.aload_n 0, 1) := by decide +kernel
theorem dX7_row_50 : decode cX7_row 50 = .ok (.iload_n 1, 1) := by decide +kernel
theorem dX7_row_51 : decode cX7_row 51 = .ok (.invokevirtual 200, 3) := by decide +kernel
theorem dX7_row_54 : decode cX7_row 54 = .ok (.aload_n 0, 1) := by decide +kernel
theorem dX7_row_55 : decode cX7_row 55 = .ok (.aload_n 0, 1) := by decide +kernel
theorem dX7_row_56 : decode cX7_row 56 = .ok (.iload_n 1, 1) := by decide +kernel
theorem dX7_row_57 : decode cX7_row 57 = .ok (.iload_n 2, 1) := by decide +kernel
theorem dX7_row_58 : decode cX7_row 58 = .ok (.iload_n 3, 1) := by decide +kernel
theorem dX7_row_59 : decode cX7_row 59 = .ok (.invokevirtual 177, 3) := by decide +kernel
theorem dX7_row_62 : decode cX7_row 62 = .ok (.invokevirtual 180, 3) := by decide +kernel
theorem dX7_row_65 : decode cX7_row 65 = .ok (.aload_n 0, 1) := by decide +kernel
theorem dX7_row_66 : decode cX7_row 66 = .ok (.getfield 111, 3) := by decide +kernel
theorem dX7_row_69 : decode cX7_row 69 = .ok (.lconst 0, 1) := by decide +kernel
theorem dX7_row_70 : decode cX7_row 70 = .ok (.lcmp, 1) := by decide +kernel
theorem dX7_row_71 : decode cX7_row 71 = .ok (.ifCond .ne 9, 3) := by decide +kernel
theorem dX7_row_74 : decode cX7_row 74 = .ok (.ldc2_w 203, 3) := by decide +kernel
theorem dX7_row_77 : decode cX7_row 77 = .ok (.goto 19, 3) := by decide +kernel
theorem dX7_row_80 : decode cX7_row 80 = .ok (.iload 4, 2) := by decide +kernel
theorem dX7_row_82 : decode cX7_row 82 = .ok (.ifCond .ne 10, 3) := by decide +kernel
theorem dX7_row_85 : decode cX7_row 85 = .ok (.aload_n 0, 1) := by decide +kernel
theorem dX7_row_86 : decode cX7_row 86 = .ok (.getfield 107, 3) := by decide +kernel
theorem dX7_row_89 : decode cX7_row 89 = .ok (.goto 7, 3) := by decide +kernel
theorem dX7_row_92 : decode cX7_row 92 = .ok (.aload_n 0, 1) := by decide +kernel
theorem dX7_row_93 : decode cX7_row 93 = .ok (.getfield 111, 3) := by decide +kernel
theorem dX7_row_96 : decode cX7_row 96 = .ok (.lreturn, 1) := by decide +kernel
theorem dX7_keeps_0 : decode cX7_keeps 0 = .ok (.aload_n 0, 1) := by decide +kernel
theorem dX7_keeps_1 : decode cX7_keeps 1 = .ok (.getfield 64, 3) := by decide +kernel
theorem dX7_keeps_4 : decode cX7_keeps 4 = .ok (.ifCond .ne 6, 3) := by decide +kernel
theorem dX7_keeps_7 : decode cX7_keeps 7 = .ok (.bipush (-2), 2) := by decide +kernel
theorem dX7_keeps_9 : decode cX7_keeps 9 = .ok (.ireturn, 1) := by decide +kernel
theorem dX7_keeps_10 : decode cX7_keeps 10 = .ok (.aload_n 0, 1) := by decide +kernel
theorem dX7_keeps_11 : decode cX7_keeps 11 = .ok (.iload_n 1, 1) := by decide +kernel
theorem dX7_keeps_12 : decode cX7_keeps 12 = .ok (.invokevirtual 98, 3) := by decide +kernel
theorem dX7_keeps_15 : decode cX7_keeps 15 = .ok (.ifCond .ne 5, 3) := by decide +kernel
theorem dX7_keeps_18 : decode cX7_keeps 18 = .ok (.iconst (-1), 1) := by decide +kernel
theorem dX7_keeps_19 : decode cX7_keeps 19 = .ok (.ireturn, 1) := by decide +kernel
theorem dX7_keeps_20 : decode cX7_keeps 20 = .ok (.aload_n 0, 1) := by decide +kernel
theorem dX7_keeps_21 : decode cX7_keeps 21 = .ok (.iload_n 1, 1) := by decide +kernel
theorem dX7_keeps_22 : decode cX7_keeps 22 = .ok (.invokevirtual 200, 3) := by decide +kernel
theorem dX7_keeps_25 : decode cX7_keeps 25 = .ok (.iconst 0, 1) := by decide +kernel
theorem dX7_keeps_26 : decode cX7_keeps 26 = .ok (.istore_n 2, 1) := by decide +kernel
theorem dX7_keeps_27 : decode cX7_keeps 27 = .ok (.iload_n 2, 1) := by decide +kernel
theorem dX7_keeps_28 : decode cX7_keeps 28 = .ok (.aload_n 0, 1) := by decide +kernel
theorem dX7_keeps_29 : decode cX7_keeps 29 = .ok (.getfield 64, 3) := by decide +kernel
theorem dX7_keeps_32 : decode cX7_keeps 32 = .ok (.if_icmp .ge 133, 3) := by decide +kernel
theorem dX7_keeps_35 : decode cX7_keeps 35 = .ok (.lconst 0, 1) := by decide +kernel
theorem dX7_keeps_36 : decode cX7_keeps 36 = .ok (.lstore_n 3, 1) := by decide +kernel
theorem dX7_keeps_37 : decode cX7_keeps 37 = .ok (.lconst 1, 1) := by decide +kernel
theorem dX7_keeps_38 : decode cX7_keeps 38 = .ok (.lstore 5, 2) := by decide +kernel
theorem dX7_keeps_40 : decode cX7_keeps 40 = .ok (.iconst 0, 1) := by decide +kernel
theorem dX7_keeps_41 : decode cX7_keeps 41 = .ok (.istore 7, 2) := by decide +kernel
theorem dX7_keeps_43 : decode cX7_keeps 43 = .ok (.iload 7, 2) := by decide +kernel
theorem dX7_keeps_45 : decode cX7_keeps 45 = .ok (.aload_n 0, 1) := by decide +kernel
theorem dX7_keeps_46 : decode cX7_keeps 46 = .ok (.getfield 64, 3) := by decide +kernel
theorem dX7_keeps_49 : decode cX7_keeps 49 = .ok (.if_icmp .ge 89, 3) := by decide +kernel
theorem dX7_keeps_52 : decode cX7_keeps 52 = .ok (.aload_n 0, 1) := by decide +kernel
theorem dX7_keeps_53 : decode cX7_keeps 53 = .ok (.aload_n 0, 1) := by decide +kernel
theorem dX7_keeps_54 : decode cX7_keeps 54 = .ok (.iload_n 1, 1) := by decide +kernel
theorem dX7_keeps_55 : decode cX7_keeps 55 = .ok (.iload 7, 2) := by decide +kernel
theorem dX7_keeps_57 : decode cX7_keeps 57 = .ok (.iload_n 2, 1) := by decide +kernel
theorem dX7_keeps_58 : decode cX7_keeps 58 = .ok (.invokevirtual 177, 3) := by decide +kernel
theorem dX7_keeps_61 : decode cX7_keeps 61 = .ok (.invokevirtual 180, 3) := by decide +kernel
theorem dX7_keeps_64 : decode cX7_keeps 64 = .ok (.aload_n 0, 1) := by decide +kernel
theorem dX7_keeps_65 : decode cX7_keeps 65 = .ok (.aload_n 0, 1) := by decide +kernel
theorem dX7_keeps_66 : decode cX7_keeps 66 = .ok (.getfield 13, 3) := by decide +kernel
theorem dX7_keeps_69 : decode cX7_keeps 69 = .ok (.iload 7, 2) := by decide +kernel
theorem dX7_keeps_71 : decode cX7_keeps 71 = .ok (.iaload, 1) := by decide +kernel
theorem dX7_keeps_72 : decode cX7_keeps 72 = .ok (.i2l, 1) := by decide +kernel
theorem dX7_keeps_73 : decode cX7_keeps 73 = .ok (.lconst 1, 1) := by decide +kernel
theorem dX7_keeps_74 : decode cX7_keeps 74 = .ok (.invokevirtual 134, 3) := by decide +kernel
theorem dX7_keeps_77 : decode cX7_keeps 77 = .ok (.aload_n 0, 1) := by decide +kernel
theorem dX7_keeps_78 : decode cX7_keeps 78 = .ok (.getfield 107, 3) := by decide +kernel
theorem dX7_keeps_81 : decode cX7_keeps 81 = .ok (.lstore 8, 2) := by decide +kernel
theorem dX7_keeps_83 : decode cX7_keeps 83 = .ok (.aload_n 0, 1) := by decide +kernel
theorem dX7_keeps_84 : decode cX7_keeps 84 = .ok (.getfield 111, 3) := by decide +kernel
theorem dX7_keeps_87 : decode cX7_keeps 87 = .ok (.lstore 10, 2) := by decide +kernel
theorem dX7_keeps_89 : decode cX7_keeps 89 = .ok (.aload_n 0, 1) := by decide +kernel
theorem dX7_keeps_90 : decode cX7_keeps 90 = .ok (.lload_n 3, 1) := by decide +kernel
theorem dX7_keeps_91 : decode cX7_keeps 91 = .ok (.putfield 107, 3) := by decide +kernel
theorem dX7_keeps_94 : decode cX7_keeps 94 = .ok (.aload_n 0, 1) := by decide +kernel
theorem dX7_keeps_95 : decode cX7_keeps 95 = .ok (.lload 5, 2) := by decide +kernel
theorem dX7_keeps_97 : decode cX7_keeps 97 = .ok (.putfield 111, 3) := by decide +kernel
theorem dX7_keeps_100 : decode cX7_keeps 100 = .ok (.aload_n 0, 1) := by decide +kernel
theorem dX7_keeps_101 : decode cX7_keeps 101 = .ok (.lload 8, 2) := by decide +kernel
theorem dX7_keeps_103 : decode cX7_keeps 103 = .ok (.lload 10, 2) := by decide +kernel
theorem dX7_keeps_105 : decode cX7_keeps 105 = .ok (.iconst 0, 1) := by decide +kernel
theorem dX7_keeps_106 : decode cX7_keeps 106 = .ok (.invokevirtual 141, 3) := by decide +kernel
theorem dX7_keeps_109 : decode cX7_keeps 109 = .ok (.aload_n 0, 1) := by decide +kernel
theorem dX7_keeps_110 : decode cX7_keeps 110 = .ok (.getfield 111, 3) := by decide +kernel
theorem dX7_keeps_113 : decode cX7_keeps 113 = .ok (.lconst 0, 1) := by decide +kernel
theorem dX7_keeps_114 : decode cX7_keeps 114 = .ok (.lcmp, 1) := by decide +kernel
theorem dX7_keeps_115 : decode cX7_keeps 115 = .ok (.ifCond .ne 6, 3) := by decide +kernel
theorem dX7_keeps_118 : decode cX7_keeps 118 = .ok (.bipush (-4), 2) := by decide +kernel
theorem dX7_keeps_120 : decode cX7_keeps 120 = .ok (.ireturn, 1) := by decide +kernel
theorem dX7_keeps_121 : decode cX7_keeps 121 = .ok (.aload_n 0, 1) := by decide +kernel
theorem dX7_keeps_122 : decode cX7_keeps 122 = .ok (.getfield 107, 3) := by decide +kernel
theorem dX7_keeps_125 : decode cX7_keeps 125 = .ok (.lstore_n 3, 1) := by decide +kernel
theorem dX7_keeps_126 : decode cX7_keeps 126 = .ok (.aload_n 0, 1) := by decide +kernel
theorem dX7_keeps_127 : decode cX7_keeps 127 = .ok (.getfield 111, 3) := by decide +kernel
theorem dX7_keeps_130 : decode cX7_keeps 130 = .ok (.lstore 5, 2) := by decide +kernel
theorem dX7_keeps_132 : decode cX7_keeps 132 = .ok (.iinc 7 1, 3) := by decide +kernel
theorem dX7_keeps_135 : decode cX7_keeps 135 = .ok (.goto (-92), 3) := by decide +kernel
theorem dX7_keeps_138 : decode cX7_keeps 138 = .ok (.lload 5, 2) := by decide +kernel
theorem dX7_keeps_140 : decode cX7_keeps 140 = .ok (.lconst 1, 1) := by decide +kernel
theorem dX7_keeps_141 : decode cX7_keeps 141 = .ok (.lcmp, 1) := by decide +kernel
theorem dX7_keeps_142 : decode cX7_keeps 142 = .ok (.ifCond .ne 15, 3) := by decide +kernel
theorem dX7_keeps_145 : decode cX7_keeps 145 = .ok (.lload_n 3, 1) := by decide +kernel
theorem dX7_keeps_146 : decode cX7_keeps 146 = .ok (.aload_n 0, 1) := by decide +kernel
theorem dX7_keeps_147 : decode cX7_keeps 147 = .ok (.getfield 13, 3) := by decide +kernel
theorem dX7_keeps_150 : decode cX7_keeps 150 = .ok (.iload_n 2, 1) := by decide +kernel
theorem dX7_keeps_151 : decode cX7_keeps 151 = .ok (.iaload, 1) := by decide +kernel
theorem dX7_keeps_152 : decode cX7_keeps 152 = .ok (.i2l, 1) := by decide +kernel
theorem dX7_keeps_153 : decode cX7_keeps 153 = .ok (.lcmp, 1) := by decide +kernel
theorem dX7_keeps_154 : decode cX7_keeps 154 = .ok (.ifCond .eq 5, 3) := by decide +kernel
theorem dX7_keeps_157 : decode cX7_keeps 157 = .ok (.iconst 0, 1) := by decide +kernel
theorem dX7_keeps_158 : decode cX7_keeps 158 = .ok (.ireturn, 1) := by decide +kernel
theorem dX7_keeps_159 : decode cX7_keeps 159 = .ok (.iinc 2 1, 3) := by decide +kernel
theorem dX7_keeps_162 : decode cX7_keeps 162 = .ok (.goto (-135), 3) := by decide +kernel
theorem dX7_keeps_165 : decode cX7_keeps 165 = .ok (.iconst 1, 1) := by decide +kernel
theorem dX7_keeps_166 : decode cX7_keeps 166 = .ok (.ireturn, 1) := by decide +kernel
theorem dX7_goesBack_0 : decode cX7_goesBack 0 = .ok (.aload_n 0, 1) := by decide +kernel
theorem dX7_goesBack_1 : decode cX7_goesBack 1 = .ok (.getfield 64, 3) := by decide +kernel
theorem dX7_goesBack_4 : decode cX7_goesBack 4 = .ok (.ifCond .ne 6, 3) := by decide +kernel
theorem dX7_goesBack_7 : decode cX7_goesBack 7 = .ok (.bipush (-2), 2) := by decide +kernel
theorem dX7_goesBack_9 : decode cX7_goesBack 9 = .ok (.ireturn, 1) := by decide +kernel
theorem dX7_goesBack_10 : decode cX7_goesBack 10 = .ok (.aload_n 0, 1) := by decide +kernel
theorem dX7_goesBack_11 : decode cX7_goesBack 11 = .ok (.iload_n 1, 1) := by decide +kernel
theorem dX7_goesBack_12 : decode cX7_goesBack 12 = .ok (.invokevirtual 98, 3) := by decide +kernel
theorem dX7_goesBack_15 : decode cX7_goesBack 15 = .ok (.ifCond .ne 5, 3) := by decide +kernel
theorem dX7_goesBack_18 : decode cX7_goesBack 18 = .ok (.iconst (-1), 1) := by decide +kernel
theorem dX7_goesBack_19 : decode cX7_goesBack 19 = .ok (.ireturn, 1) := by decide +kernel
theorem dX7_goesBack_20 : decode cX7_goesBack 20 = .ok (.aload_n 0, 1) := by decide +kernel
theorem dX7_goesBack_21 : decode cX7_goesBack 21 = .ok (.iload_n 1, 1) := by decide +kernel
theorem dX7_goesBack_22 : decode cX7_goesBack 22 = .ok (.invokevirtual 200, 3) := by decide +kernel
theorem dX7_goesBack_25 : decode cX7_goesBack 25 = .ok (.iconst 0, 1) := by decide +kernel
theorem dX7_goesBack_26 : decode cX7_goesBack 26 = .ok (.istore_n 2, 1) := by decide +kernel
theorem dX7_goesBack_27 : decode cX7_goesBack 27 = .ok (.iload_n 2, 1) := by decide +kernel
theorem dX7_goesBack_28 : decode cX7_goesBack 28 = .ok (.aload_n 0, 1) := by decide +kernel
theorem dX7_goesBack_29 : decode cX7_goesBack 29 = .ok (.getfield 64, 3) := by decide +kernel
theorem dX7_goesBack_32 : decode cX7_goesBack 32 = .ok (.if_icmp .ge 126, 3) := by decide +kernel
theorem dX7_goesBack_35 : decode cX7_goesBack 35 = .ok (.iload_n 2, 1) := by decide +kernel
theorem dX7_goesBack_36 : decode cX7_goesBack 36 = .ok (.iconst 1, 1) := by decide +kernel
theorem dX7_goesBack_37 : decode cX7_goesBack 37 = .ok (.iadd, 1) := by decide +kernel
theorem dX7_goesBack_38 : decode cX7_goesBack 38 = .ok (.istore_n 3, 1) := by decide +kernel
theorem dX7_goesBack_39 : decode cX7_goesBack 39 = .ok (.iload_n 3, 1) := by decide +kernel
theorem dX7_goesBack_40 : decode cX7_goesBack 40 = .ok (.aload_n 0, 1) := by decide +kernel
theorem dX7_goesBack_41 : decode cX7_goesBack 41 = .ok (.getfield 64, 3) := by decide +kernel
theorem dX7_goesBack_44 : decode cX7_goesBack 44 = .ok (.if_icmp .ge 108, 3) := by decide +kernel
theorem dX7_goesBack_47 : decode cX7_goesBack 47 = .ok (.aload_n 0, 1) := by decide +kernel
theorem dX7_goesBack_48 : decode cX7_goesBack 48 = .ok (.aload_n 0, 1) := by decide +kernel
theorem dX7_goesBack_49 : decode cX7_goesBack 49 = .ok (.iload_n 1, 1) := by decide +kernel
theorem dX7_goesBack_50 : decode cX7_goesBack 50 = .ok (.iload_n 2, 1) := by decide +kernel
theorem dX7_goesBack_51 : decode cX7_goesBack 51 = .ok (.iload_n 3, 1) := by decide +kernel
theorem dX7_goesBack_52 : decode cX7_goesBack 52 = .ok (.invokevirtual 177, 3) := by decide +kernel
theorem dX7_goesBack_55 : decode cX7_goesBack 55 = .ok (.invokevirtual 180, 3) := by decide +kernel
theorem dX7_goesBack_58 : decode cX7_goesBack 58 = .ok (.aload_n 0, 1) := by decide +kernel
theorem dX7_goesBack_59 : decode cX7_goesBack 59 = .ok (.aload_n 0, 1) := by decide +kernel
theorem dX7_goesBack_60 : decode cX7_goesBack 60 = .ok (.getfield 13, 3) := by decide +kernel
theorem dX7_goesBack_63 : decode cX7_goesBack 63 = .ok (.iload_n 2, 1) := by decide +kernel
theorem dX7_goesBack_64 : decode cX7_goesBack 64 = .ok (.iaload, 1) := by decide +kernel
theorem dX7_goesBack_65 : decode cX7_goesBack 65 = .ok (.i2l, 1) := by decide +kernel
theorem dX7_goesBack_66 : decode cX7_goesBack 66 = .ok (.lconst 1, 1) := by decide +kernel
theorem dX7_goesBack_67 : decode cX7_goesBack 67 = .ok (.invokevirtual 134, 3) := by decide +kernel
theorem dX7_goesBack_70 : decode cX7_goesBack 70 = .ok (.aload_n 0, 1) := by decide +kernel
theorem dX7_goesBack_71 : decode cX7_goesBack 71 = .ok (.getfield 107, 3) := by decide +kernel
theorem dX7_goesBack_74 : decode cX7_goesBack 74 = .ok (.lstore 4, 2) := by decide +kernel
theorem dX7_goesBack_76 : decode cX7_goesBack 76 = .ok (.aload_n 0, 1) := by decide +kernel
theorem dX7_goesBack_77 : decode cX7_goesBack 77 = .ok (.getfield 111, 3) := by decide +kernel
theorem dX7_goesBack_80 : decode cX7_goesBack 80 = .ok (.lstore 6, 2) := by decide +kernel
theorem dX7_goesBack_82 : decode cX7_goesBack 82 = .ok (.aload_n 0, 1) := by decide +kernel
theorem dX7_goesBack_83 : decode cX7_goesBack 83 = .ok (.aload_n 0, 1) := by decide +kernel
theorem dX7_goesBack_84 : decode cX7_goesBack 84 = .ok (.iload_n 1, 1) := by decide +kernel
theorem dX7_goesBack_85 : decode cX7_goesBack 85 = .ok (.iload_n 3, 1) := by decide +kernel
theorem dX7_goesBack_86 : decode cX7_goesBack 86 = .ok (.iload_n 2, 1) := by decide +kernel
theorem dX7_goesBack_87 : decode cX7_goesBack 87 = .ok (.invokevirtual 177, 3) := by decide +kernel
theorem dX7_goesBack_90 : decode cX7_goesBack 90 = .ok (.invokevirtual 180, 3) := by decide +kernel
theorem dX7_goesBack_93 : decode cX7_goesBack 93 = .ok (.aload_n 0, 1) := by decide +kernel
theorem dX7_goesBack_94 : decode cX7_goesBack 94 = .ok (.aload_n 0, 1) := by decide +kernel
theorem dX7_goesBack_95 : decode cX7_goesBack 95 = .ok (.getfield 13, 3) := by decide +kernel
theorem dX7_goesBack_98 : decode cX7_goesBack 98 = .ok (.iload_n 3, 1) := by decide +kernel
theorem dX7_goesBack_99 : decode cX7_goesBack 99 = .ok (.iaload, 1) := by decide +kernel
theorem dX7_goesBack_100 : decode cX7_goesBack 100 = .ok (.i2l, 1) := by decide +kernel
theorem dX7_goesBack_101 : decode cX7_goesBack 101 = .ok (.lconst 1, 1) := by decide +kernel
theorem dX7_goesBack_102 : decode cX7_goesBack 102 = .ok (.invokevirtual 134, 3) := by decide +kernel
theorem dX7_goesBack_105 : decode cX7_goesBack 105 = .ok (.lload 6, 2) := by decide +kernel
theorem dX7_goesBack_107 : decode cX7_goesBack 107 = .ok (.lconst 0, 1) := by decide +kernel
theorem dX7_goesBack_108 : decode cX7_goesBack 108 = .ok (.lcmp, 1) := by decide +kernel
theorem dX7_goesBack_109 : decode cX7_goesBack 109 = .ok (.ifCond .eq 12, 3) := by decide +kernel
theorem dX7_goesBack_112 : decode cX7_goesBack 112 = .ok (.aload_n 0, 1) := by decide +kernel
theorem dX7_goesBack_113 : decode cX7_goesBack 113 = .ok (.getfield 111, 3) := by decide +kernel
theorem dX7_goesBack_116 : decode cX7_goesBack 116 = .ok (.lconst 0, 1) := by decide +kernel
theorem dX7_goesBack_117 : decode cX7_goesBack 117 = .ok (.lcmp, 1) := by decide +kernel
theorem dX7_goesBack_118 : decode cX7_goesBack 118 = .ok (.ifCond .ne 6, 3) := by decide +kernel
theorem dX7_goesBack_121 : decode cX7_goesBack 121 = .ok (.bipush (-4), 2) := by decide +kernel
theorem dX7_goesBack_123 : decode cX7_goesBack 123 = .ok (.ireturn, 1) := by decide +kernel
theorem dX7_goesBack_124 : decode cX7_goesBack 124 = .ok (.lload 4, 2) := by decide +kernel
theorem dX7_goesBack_126 : decode cX7_goesBack 126 = .ok (.aload_n 0, 1) := by decide +kernel
theorem dX7_goesBack_127 : decode cX7_goesBack 127 = .ok (.getfield 107, 3) := by decide +kernel
theorem dX7_goesBack_130 : decode cX7_goesBack 130 = .ok (.lcmp, 1) := by decide +kernel
theorem dX7_goesBack_131 : decode cX7_goesBack 131 = .ok (.ifCond .ne 13, 3) := by decide +kernel
theorem dX7_goesBack_134 : decode cX7_goesBack 134 = .ok (.lload 6, 2) := by decide +kernel
theorem dX7_goesBack_136 : decode cX7_goesBack 136 = .ok (.aload_n 0, 1) := by decide +kernel
theorem dX7_goesBack_137 : decode cX7_goesBack 137 = .ok (.getfield 111, 3) := by decide +kernel
theorem dX7_goesBack_140 : decode cX7_goesBack 140 = .ok (.lcmp, 1) := by decide +kernel
theorem dX7_goesBack_141 : decode cX7_goesBack 141 = .ok (.ifCond .eq 5, 3) := by decide +kernel
theorem dX7_goesBack_144 : decode cX7_goesBack 144 = .ok (.iconst 0, 1) := by decide +kernel
theorem dX7_goesBack_145 : decode cX7_goesBack 145 = .ok (.ireturn, 1) := by decide +kernel
theorem dX7_goesBack_146 : decode cX7_goesBack 146 = .ok (.iinc 3 1, 3) := by decide +kernel
theorem dX7_goesBack_149 : decode cX7_goesBack 149 = .ok (.goto (-110), 3) := by decide +kernel
theorem dX7_goesBack_152 : decode cX7_goesBack 152 = .ok (.iinc 2 1, 3) := by decide +kernel
theorem dX7_goesBack_155 : decode cX7_goesBack 155 = .ok (.goto (-128), 3) := by decide +kernel
theorem dX7_goesBack_158 : decode cX7_goesBack 158 = .ok (.iconst 1, 1) := by decide +kernel
theorem dX7_goesBack_159 : decode cX7_goesBack 159 = .ok (.ireturn, 1) := by decide +kernel
theorem dX7_leads_0 : decode cX7_leads 0 = .ok (.aload_n 0, 1) := by decide +kernel
theorem dX7_leads_1 : decode cX7_leads 1 = .ok (.getfield 48, 3) := by decide +kernel
theorem dX7_leads_4 : decode cX7_leads 4 = .ok (.aload_n 0, 1) := by decide +kernel
theorem dX7_leads_5 : decode cX7_leads 5 = .ok (.iload_n 1, 1) := by decide +kernel
theorem dX7_leads_6 : decode cX7_leads 6 = .ok (.iload_n 2, 1) := by decide +kernel
theorem dX7_leads_7 : decode cX7_leads 7 = .ok (.iload_n 3, 1) := by decide +kernel
theorem dX7_leads_8 : decode cX7_leads 8 = .ok (.invokevirtual 177, 3) := by decide +kernel
theorem dX7_leads_11 : decode cX7_leads 11 = .ok (.iconst 1, 1) := by decide +kernel
theorem dX7_leads_12 : decode cX7_leads 12 = .ok (.bastore, 1) := by decide +kernel
theorem dX7_leads_13 : decode cX7_leads 13 = .ok (.return_, 1) := by decide +kernel
theorem dX7_proposes_0 : decode cX7_proposes 0 = .ok (.aload_n 0, 1) := by decide +kernel
theorem dX7_proposes_1 : decode cX7_proposes 1 = .ok (.getfield 13, 3) := by decide +kernel
theorem dX7_proposes_4 : decode cX7_proposes 4 = .ok (.iload_n 2, 1) := by decide +kernel
theorem dX7_proposes_5 : decode cX7_proposes 5 = .ok (.iaload, 1) := by decide +kernel
theorem dX7_proposes_6 : decode cX7_proposes 6 = .ok (.ifCond .eq 12, 3) := by decide +kernel
theorem dX7_proposes_9 : decode cX7_proposes 9 = .ok (.aload_n 0, 1) := by decide +kernel
theorem dX7_proposes_10 : decode cX7_proposes 10 = .ok (.getfield 13, 3) := by decide +kernel
theorem dX7_proposes_13 : decode cX7_proposes 13 = .ok (.iload_n 3, 1) := by decide +kernel
theorem dX7_proposes_14 : decode cX7_proposes 14 = .ok (.iaload, 1) := by decide +kernel
theorem dX7_proposes_15 : decode cX7_proposes 15 = .ok (.ifCond .le 10, 3) := by decide +kernel
theorem dX7_proposes_18 : decode cX7_proposes 18 = .ok (.aload_n 0, 1) := by decide +kernel
theorem dX7_proposes_19 : decode cX7_proposes 19 = .ok (.iload_n 1, 1) := by decide +kernel
theorem dX7_proposes_20 : decode cX7_proposes 20 = .ok (.iload_n 2, 1) := by decide +kernel
theorem dX7_proposes_21 : decode cX7_proposes 21 = .ok (.iload_n 3, 1) := by decide +kernel
theorem dX7_proposes_22 : decode cX7_proposes 22 = .ok (.invokevirtual 205, 3) := by decide +kernel
theorem dX7_proposes_25 : decode cX7_proposes 25 = .ok (.aload_n 0, 1) := by decide +kernel
theorem dX7_proposes_26 : decode cX7_proposes 26 = .ok (.getfield 13, 3) := by decide +kernel
theorem dX7_proposes_29 : decode cX7_proposes 29 = .ok (.iload_n 3, 1) := by decide +kernel
theorem dX7_proposes_30 : decode cX7_proposes 30 = .ok (.iaload, 1) := by decide +kernel
theorem dX7_proposes_31 : decode cX7_proposes 31 = .ok (.aload_n 0, 1) := by decide +kernel
theorem dX7_proposes_32 : decode cX7_proposes 32 = .ok (.getfield 13, 3) := by decide +kernel
theorem dX7_proposes_35 : decode cX7_proposes 35 = .ok (.iload_n 2, 1) := by decide +kernel
theorem dX7_proposes_36 : decode cX7_proposes 36 = .ok (.iaload, 1) := by decide +kernel
theorem dX7_proposes_37 : decode cX7_proposes 37 = .ok (.if_icmp .ge 10, 3) := by decide +kernel
theorem dX7_proposes_40 : decode cX7_proposes 40 = .ok (.aload_n 0, 1) := by decide +kernel
theorem dX7_proposes_41 : decode cX7_proposes 41 = .ok (.iload_n 1, 1) := by decide +kernel
theorem dX7_proposes_42 : decode cX7_proposes 42 = .ok (.iload_n 2, 1) := by decide +kernel
theorem dX7_proposes_43 : decode cX7_proposes 43 = .ok (.iload_n 2, 1) := by decide +kernel
theorem dX7_proposes_44 : decode cX7_proposes 44 = .ok (.invokevirtual 205, 3) := by decide +kernel
theorem dX7_proposes_47 : decode cX7_proposes 47 = .ok (.return_, 1) := by decide +kernel
theorem dX7_toldLeads_0 : decode cX7_toldLeads 0 = .ok (.aload_n 0, 1) := by decide +kernel
theorem dX7_toldLeads_1 : decode cX7_toldLeads 1 = .ok (.iload_n 1, 1) := by decide +kernel
theorem dX7_toldLeads_2 : decode cX7_toldLeads 2 = .ok (.iload_n 2, 1) := by decide +kernel
theorem dX7_toldLeads_3 : decode cX7_toldLeads 3 = .ok (.invokevirtual 126, 3) := by decide +kernel
theorem dX7_toldLeads_6 : decode cX7_toldLeads 6 = .ok (.ifCond .ne 10, 3) := by decide +kernel
theorem dX7_toldLeads_9 : decode cX7_toldLeads 9 = .ok (.aload_n 0, 1) := by decide +kernel
theorem dX7_toldLeads_10 : decode cX7_toldLeads 10 = .ok (.iload_n 1, 1) := by decide +kernel
theorem dX7_toldLeads_11 : decode cX7_toldLeads 11 = .ok (.iload_n 2, 1) := by decide +kernel
theorem dX7_toldLeads_12 : decode cX7_toldLeads 12 = .ok (.iload_n 2, 1) := by decide +kernel
theorem dX7_toldLeads_13 : decode cX7_toldLeads 13 = .ok (.invokevirtual 205, 3) := by decide +kernel
theorem dX7_toldLeads_16 : decode cX7_toldLeads 16 = .ok (.iconst 0, 1) := by decide +kernel
theorem dX7_toldLeads_17 : decode cX7_toldLeads 17 = .ok (.istore_n 3, 1) := by decide +kernel
theorem dX7_toldLeads_18 : decode cX7_toldLeads 18 = .ok (.iload_n 3, 1) := by decide +kernel
theorem dX7_toldLeads_19 : decode cX7_toldLeads 19 = .ok (.aload_n 0, 1) := by decide +kernel
theorem dX7_toldLeads_20 : decode cX7_toldLeads 20 = .ok (.getfield 64, 3) := by decide +kernel
theorem dX7_toldLeads_23 : decode cX7_toldLeads 23 = .ok (.if_icmp .ge 110, 3) := by decide +kernel
theorem dX7_toldLeads_26 : decode cX7_toldLeads 26 = .ok (.aload_n 0, 1) := by decide +kernel
theorem dX7_toldLeads_27 : decode cX7_toldLeads 27 = .ok (.getfield 34, 3) := by decide +kernel
theorem dX7_toldLeads_30 : decode cX7_toldLeads 30 = .ok (.aload_n 0, 1) := by decide +kernel
theorem dX7_toldLeads_31 : decode cX7_toldLeads 31 = .ok (.iload_n 1, 1) := by decide +kernel
theorem dX7_toldLeads_32 : decode cX7_toldLeads 32 = .ok (.iload_n 2, 1) := by decide +kernel
theorem dX7_toldLeads_33 : decode cX7_toldLeads 33 = .ok (.iload_n 3, 1) := by decide +kernel
theorem dX7_toldLeads_34 : decode cX7_toldLeads 34 = .ok (.invokevirtual 177, 3) := by decide +kernel
theorem dX7_toldLeads_37 : decode cX7_toldLeads 37 = .ok (.iaload, 1) := by decide +kernel
theorem dX7_toldLeads_38 : decode cX7_toldLeads 38 = .ok (.ifCond .le 89, 3) := by decide +kernel
theorem dX7_toldLeads_41 : decode cX7_toldLeads 41 = .ok (.aload_n 0, 1) := by decide +kernel
theorem dX7_toldLeads_42 : decode cX7_toldLeads 42 = .ok (.getfield 13, 3) := by decide +kernel
theorem dX7_toldLeads_45 : decode cX7_toldLeads 45 = .ok (.iload_n 2, 1) := by decide +kernel
theorem dX7_toldLeads_46 : decode cX7_toldLeads 46 = .ok (.iaload, 1) := by decide +kernel
theorem dX7_toldLeads_47 : decode cX7_toldLeads 47 = .ok (.ifCond .eq 8, 3) := by decide +kernel
theorem dX7_toldLeads_50 : decode cX7_toldLeads 50 = .ok (.iload_n 3, 1) := by decide +kernel
theorem dX7_toldLeads_51 : decode cX7_toldLeads 51 = .ok (.iload_n 2, 1) := by decide +kernel
theorem dX7_toldLeads_52 : decode cX7_toldLeads 52 = .ok (.if_icmp .ne 7, 3) := by decide +kernel
theorem dX7_toldLeads_55 : decode cX7_toldLeads 55 = .ok (.iconst 1, 1) := by decide +kernel
theorem dX7_toldLeads_56 : decode cX7_toldLeads 56 = .ok (.goto 4, 3) := by decide +kernel
theorem dX7_toldLeads_59 : decode cX7_toldLeads 59 = .ok (.iconst 0, 1) := by decide +kernel
theorem dX7_toldLeads_60 : decode cX7_toldLeads 60 = .ok (.istore 4, 2) := by decide +kernel
theorem dX7_toldLeads_62 : decode cX7_toldLeads 62 = .ok (.aload_n 0, 1) := by decide +kernel
theorem dX7_toldLeads_63 : decode cX7_toldLeads 63 = .ok (.iload_n 1, 1) := by decide +kernel
theorem dX7_toldLeads_64 : decode cX7_toldLeads 64 = .ok (.iload_n 2, 1) := by decide +kernel
theorem dX7_toldLeads_65 : decode cX7_toldLeads 65 = .ok (.iload_n 3, 1) := by decide +kernel
theorem dX7_toldLeads_66 : decode cX7_toldLeads 66 = .ok (.invokevirtual 129, 3) := by decide +kernel
theorem dX7_toldLeads_69 : decode cX7_toldLeads 69 = .ok (.lstore 5, 2) := by decide +kernel
theorem dX7_toldLeads_71 : decode cX7_toldLeads 71 = .ok (.iload 4, 2) := by decide +kernel
theorem dX7_toldLeads_73 : decode cX7_toldLeads 73 = .ok (.ifCond .ne 10, 3) := by decide +kernel
theorem dX7_toldLeads_76 : decode cX7_toldLeads 76 = .ok (.lload 5, 2) := by decide +kernel
theorem dX7_toldLeads_78 : decode cX7_toldLeads 78 = .ok (.lconst 0, 1) := by decide +kernel
theorem dX7_toldLeads_79 : decode cX7_toldLeads 79 = .ok (.lcmp, 1) := by decide +kernel
theorem dX7_toldLeads_80 : decode cX7_toldLeads 80 = .ok (.ifCond .le 10, 3) := by decide +kernel
theorem dX7_toldLeads_83 : decode cX7_toldLeads 83 = .ok (.aload_n 0, 1) := by decide +kernel
theorem dX7_toldLeads_84 : decode cX7_toldLeads 84 = .ok (.iload_n 1, 1) := by decide +kernel
theorem dX7_toldLeads_85 : decode cX7_toldLeads 85 = .ok (.iload_n 2, 1) := by decide +kernel
theorem dX7_toldLeads_86 : decode cX7_toldLeads 86 = .ok (.iload_n 3, 1) := by decide +kernel
theorem dX7_toldLeads_87 : decode cX7_toldLeads 87 = .ok (.invokevirtual 205, 3) := by decide +kernel
theorem dX7_toldLeads_90 : decode cX7_toldLeads 90 = .ok (.iload 4, 2) := by decide +kernel
theorem dX7_toldLeads_92 : decode cX7_toldLeads 92 = .ok (.ifCond .ne 16, 3) := by decide +kernel
theorem dX7_toldLeads_95 : decode cX7_toldLeads 95 = .ok (.lload 5, 2) := by decide +kernel
theorem dX7_toldLeads_97 : decode cX7_toldLeads 97 = .ok (.aload_n 0, 1) := by decide +kernel
theorem dX7_toldLeads_98 : decode cX7_toldLeads 98 = .ok (.iload_n 1, 1) := by decide +kernel
theorem dX7_toldLeads_99 : decode cX7_toldLeads 99 = .ok (.iload_n 2, 1) := by decide +kernel
theorem dX7_toldLeads_100 : decode cX7_toldLeads 100 = .ok (.iload_n 3, 1) := by decide +kernel
theorem dX7_toldLeads_101 : decode cX7_toldLeads 101 = .ok (.invokevirtual 132, 3) := by decide +kernel
theorem dX7_toldLeads_104 : decode cX7_toldLeads 104 = .ok (.lcmp, 1) := by decide +kernel
theorem dX7_toldLeads_105 : decode cX7_toldLeads 105 = .ok (.ifCond .lt 15, 3) := by decide +kernel
theorem dX7_toldLeads_108 : decode cX7_toldLeads 108 = .ok (.iload 4, 2) := by decide +kernel
theorem dX7_toldLeads_110 : decode cX7_toldLeads 110 = .ok (.ifCond .ne 17, 3) := by decide +kernel
theorem dX7_toldLeads_113 : decode cX7_toldLeads 113 = .ok (.lload 5, 2) := by decide +kernel
theorem dX7_toldLeads_115 : decode cX7_toldLeads 115 = .ok (.lconst 0, 1) := by decide +kernel
theorem dX7_toldLeads_116 : decode cX7_toldLeads 116 = .ok (.lcmp, 1) := by decide +kernel
theorem dX7_toldLeads_117 : decode cX7_toldLeads 117 = .ok (.ifCond .ne 10, 3) := by decide +kernel
theorem dX7_toldLeads_120 : decode cX7_toldLeads 120 = .ok (.aload_n 0, 1) := by decide +kernel
theorem dX7_toldLeads_121 : decode cX7_toldLeads 121 = .ok (.iload_n 1, 1) := by decide +kernel
theorem dX7_toldLeads_122 : decode cX7_toldLeads 122 = .ok (.iload_n 2, 1) := by decide +kernel
theorem dX7_toldLeads_123 : decode cX7_toldLeads 123 = .ok (.iload_n 2, 1) := by decide +kernel
theorem dX7_toldLeads_124 : decode cX7_toldLeads 124 = .ok (.invokevirtual 205, 3) := by decide +kernel
theorem dX7_toldLeads_127 : decode cX7_toldLeads 127 = .ok (.iinc 3 1, 3) := by decide +kernel
theorem dX7_toldLeads_130 : decode cX7_toldLeads 130 = .ok (.goto (-112), 3) := by decide +kernel
theorem dX7_toldLeads_133 : decode cX7_toldLeads 133 = .ok (.return_, 1) := by decide +kernel
theorem dX7_plainLeads_0 : decode cX7_plainLeads 0 = .ok (.aload_n 0, 1) := by decide +kernel
theorem dX7_plainLeads_1 : decode cX7_plainLeads 1 = .ok (.getfield 19, 3) := by decide +kernel
theorem dX7_plainLeads_4 : decode cX7_plainLeads 4 = .ok (.iload_n 1, 1) := by decide +kernel
theorem dX7_plainLeads_5 : decode cX7_plainLeads 5 = .ok (.iaload, 1) := by decide +kernel
theorem dX7_plainLeads_6 : decode cX7_plainLeads 6 = .ok (.istore_n 3, 1) := by decide +kernel
theorem dX7_plainLeads_7 : decode cX7_plainLeads 7 = .ok (.aload_n 0, 1) := by decide +kernel
theorem dX7_plainLeads_8 : decode cX7_plainLeads 8 = .ok (.getfield 16, 3) := by decide +kernel
theorem dX7_plainLeads_11 : decode cX7_plainLeads 11 = .ok (.iload_n 1, 1) := by decide +kernel
theorem dX7_plainLeads_12 : decode cX7_plainLeads 12 = .ok (.iaload, 1) := by decide +kernel
theorem dX7_plainLeads_13 : decode cX7_plainLeads 13 = .ok (.tableswitch 211 0 4 #[35, 145, 172, 211, 35], 35) := by decide +kernel
theorem dX7_plainLeads_48 : decode cX7_plainLeads 48 = .ok (.aload_n 0, 1) := by decide +kernel
theorem dX7_plainLeads_49 : decode cX7_plainLeads 49 = .ok (.getfield 16, 3) := by decide +kernel
theorem dX7_plainLeads_52 : decode cX7_plainLeads 52 = .ok (.iload_n 1, 1) := by decide +kernel
theorem dX7_plainLeads_53 : decode cX7_plainLeads 53 = .ok (.iaload, 1) := by decide +kernel
theorem dX7_plainLeads_54 : decode cX7_plainLeads 54 = .ok (.ifCond .ne 20, 3) := by decide +kernel
theorem dX7_plainLeads_57 : decode cX7_plainLeads 57 = .ok (.aload_n 0, 1) := by decide +kernel
theorem dX7_plainLeads_58 : decode cX7_plainLeads 58 = .ok (.iload_n 2, 1) := by decide +kernel
theorem dX7_plainLeads_59 : decode cX7_plainLeads 59 = .ok (.iload_n 3, 1) := by decide +kernel
theorem dX7_plainLeads_60 : decode cX7_plainLeads 60 = .ok (.invokevirtual 150, 3) := by decide +kernel
theorem dX7_plainLeads_63 : decode cX7_plainLeads 63 = .ok (.ifCond .ne 7, 3) := by decide +kernel
theorem dX7_plainLeads_66 : decode cX7_plainLeads 66 = .ok (.iconst 1, 1) := by decide +kernel
theorem dX7_plainLeads_67 : decode cX7_plainLeads 67 = .ok (.goto 21, 3) := by decide +kernel
theorem dX7_plainLeads_70 : decode cX7_plainLeads 70 = .ok (.iconst 0, 1) := by decide +kernel
theorem dX7_plainLeads_71 : decode cX7_plainLeads 71 = .ok (.goto 17, 3) := by decide +kernel
theorem dX7_plainLeads_74 : decode cX7_plainLeads 74 = .ok (.aload_n 0, 1) := by decide +kernel
theorem dX7_plainLeads_75 : decode cX7_plainLeads 75 = .ok (.getfield 13, 3) := by decide +kernel
theorem dX7_plainLeads_78 : decode cX7_plainLeads 78 = .ok (.iload_n 2, 1) := by decide +kernel
theorem dX7_plainLeads_79 : decode cX7_plainLeads 79 = .ok (.iaload, 1) := by decide +kernel
theorem dX7_plainLeads_80 : decode cX7_plainLeads 80 = .ok (.ifCond .ne 7, 3) := by decide +kernel
theorem dX7_plainLeads_83 : decode cX7_plainLeads 83 = .ok (.iconst 1, 1) := by decide +kernel
theorem dX7_plainLeads_84 : decode cX7_plainLeads 84 = .ok (.goto 4, 3) := by decide +kernel
theorem dX7_plainLeads_87 : decode cX7_plainLeads 87 = .ok (.iconst 0, 1) := by decide +kernel
theorem dX7_plainLeads_88 : decode cX7_plainLeads 88 = .ok (.istore 4, 2) := by decide +kernel
theorem dX7_plainLeads_90 : decode cX7_plainLeads 90 = .ok (.iload 4, 2) := by decide +kernel
theorem dX7_plainLeads_92 : decode cX7_plainLeads 92 = .ok (.ifCond .eq 10, 3) := by decide +kernel
theorem dX7_plainLeads_95 : decode cX7_plainLeads 95 = .ok (.aload_n 0, 1) := by decide +kernel
theorem dX7_plainLeads_96 : decode cX7_plainLeads 96 = .ok (.iload_n 1, 1) := by decide +kernel
theorem dX7_plainLeads_97 : decode cX7_plainLeads 97 = .ok (.iload_n 2, 1) := by decide +kernel
theorem dX7_plainLeads_98 : decode cX7_plainLeads 98 = .ok (.iload_n 2, 1) := by decide +kernel
theorem dX7_plainLeads_99 : decode cX7_plainLeads 99 = .ok (.invokevirtual 205, 3) := by decide +kernel
theorem dX7_plainLeads_102 : decode cX7_plainLeads 102 = .ok (.iconst 0, 1) := by decide +kernel
theorem dX7_plainLeads_103 : decode cX7_plainLeads 103 = .ok (.istore 5, 2) := by decide +kernel
theorem dX7_plainLeads_105 : decode cX7_plainLeads 105 = .ok (.iload 5, 2) := by decide +kernel
theorem dX7_plainLeads_107 : decode cX7_plainLeads 107 = .ok (.aload_n 0, 1) := by decide +kernel
theorem dX7_plainLeads_108 : decode cX7_plainLeads 108 = .ok (.getfield 7, 3) := by decide +kernel
theorem dX7_plainLeads_111 : decode cX7_plainLeads 111 = .ok (.iload_n 3, 1) := by decide +kernel
theorem dX7_plainLeads_112 : decode cX7_plainLeads 112 = .ok (.iaload, 1) := by decide +kernel
theorem dX7_plainLeads_113 : decode cX7_plainLeads 113 = .ok (.if_icmp .ge 44, 3) := by decide +kernel
theorem dX7_plainLeads_116 : decode cX7_plainLeads 116 = .ok (.iload 4, 2) := by decide +kernel
theorem dX7_plainLeads_118 : decode cX7_plainLeads 118 = .ok (.ifCond .ne 39, 3) := by decide +kernel
theorem dX7_plainLeads_121 : decode cX7_plainLeads 121 = .ok (.aload_n 0, 1) := by decide +kernel
theorem dX7_plainLeads_122 : decode cX7_plainLeads 122 = .ok (.getfield 13, 3) := by decide +kernel
theorem dX7_plainLeads_125 : decode cX7_plainLeads 125 = .ok (.aload_n 0, 1) := by decide +kernel
theorem dX7_plainLeads_126 : decode cX7_plainLeads 126 = .ok (.iload_n 2, 1) := by decide +kernel
theorem dX7_plainLeads_127 : decode cX7_plainLeads 127 = .ok (.iload_n 3, 1) := by decide +kernel
theorem dX7_plainLeads_128 : decode cX7_plainLeads 128 = .ok (.iload 5, 2) := by decide +kernel
theorem dX7_plainLeads_130 : decode cX7_plainLeads 130 = .ok (.invokevirtual 122, 3) := by decide +kernel
theorem dX7_plainLeads_133 : decode cX7_plainLeads 133 = .ok (.iaload, 1) := by decide +kernel
theorem dX7_plainLeads_134 : decode cX7_plainLeads 134 = .ok (.ifCond .le 17, 3) := by decide +kernel
theorem dX7_plainLeads_137 : decode cX7_plainLeads 137 = .ok (.aload_n 0, 1) := by decide +kernel
theorem dX7_plainLeads_138 : decode cX7_plainLeads 138 = .ok (.iload_n 1, 1) := by decide +kernel
theorem dX7_plainLeads_139 : decode cX7_plainLeads 139 = .ok (.iload_n 2, 1) := by decide +kernel
theorem dX7_plainLeads_140 : decode cX7_plainLeads 140 = .ok (.aload_n 0, 1) := by decide +kernel
theorem dX7_plainLeads_141 : decode cX7_plainLeads 141 = .ok (.iload_n 2, 1) := by decide +kernel
theorem dX7_plainLeads_142 : decode cX7_plainLeads 142 = .ok (.iload_n 3, 1) := by decide +kernel
theorem dX7_plainLeads_143 : decode cX7_plainLeads 143 = .ok (.iload 5, 2) := by decide +kernel
theorem dX7_plainLeads_145 : decode cX7_plainLeads 145 = .ok (.invokevirtual 122, 3) := by decide +kernel
theorem dX7_plainLeads_148 : decode cX7_plainLeads 148 = .ok (.invokevirtual 205, 3) := by decide +kernel
theorem dX7_plainLeads_151 : decode cX7_plainLeads 151 = .ok (.iinc 5 1, 3) := by decide +kernel
theorem dX7_plainLeads_154 : decode cX7_plainLeads 154 = .ok (.goto (-49), 3) := by decide +kernel
theorem dX7_plainLeads_157 : decode cX7_plainLeads 157 = .ok (.return_, 1) := by decide +kernel
theorem dX7_plainLeads_158 : decode cX7_plainLeads 158 = .ok (.aload_n 0, 1) := by decide +kernel
theorem dX7_plainLeads_159 : decode cX7_plainLeads 159 = .ok (.iload_n 1, 1) := by decide +kernel
theorem dX7_plainLeads_160 : decode cX7_plainLeads 160 = .ok (.iload_n 2, 1) := by decide +kernel
theorem dX7_plainLeads_161 : decode cX7_plainLeads 161 = .ok (.aload_n 0, 1) := by decide +kernel
theorem dX7_plainLeads_162 : decode cX7_plainLeads 162 = .ok (.iload_n 2, 1) := by decide +kernel
theorem dX7_plainLeads_163 : decode cX7_plainLeads 163 = .ok (.iload_n 3, 1) := by decide +kernel
theorem dX7_plainLeads_164 : decode cX7_plainLeads 164 = .ok (.iconst 1, 1) := by decide +kernel
theorem dX7_plainLeads_165 : decode cX7_plainLeads 165 = .ok (.invokevirtual 156, 3) := by decide +kernel
theorem dX7_plainLeads_168 : decode cX7_plainLeads 168 = .ok (.invokevirtual 208, 3) := by decide +kernel
theorem dX7_plainLeads_171 : decode cX7_plainLeads 171 = .ok (.aload_n 0, 1) := by decide +kernel
theorem dX7_plainLeads_172 : decode cX7_plainLeads 172 = .ok (.iload_n 1, 1) := by decide +kernel
theorem dX7_plainLeads_173 : decode cX7_plainLeads 173 = .ok (.iload_n 2, 1) := by decide +kernel
theorem dX7_plainLeads_174 : decode cX7_plainLeads 174 = .ok (.aload_n 0, 1) := by decide +kernel
theorem dX7_plainLeads_175 : decode cX7_plainLeads 175 = .ok (.iload_n 2, 1) := by decide +kernel
theorem dX7_plainLeads_176 : decode cX7_plainLeads 176 = .ok (.iload_n 3, 1) := by decide +kernel
theorem dX7_plainLeads_177 : decode cX7_plainLeads 177 = .ok (.iconst 0, 1) := by decide +kernel
theorem dX7_plainLeads_178 : decode cX7_plainLeads 178 = .ok (.invokevirtual 156, 3) := by decide +kernel
theorem dX7_plainLeads_181 : decode cX7_plainLeads 181 = .ok (.invokevirtual 208, 3) := by decide +kernel
theorem dX7_plainLeads_184 : decode cX7_plainLeads 184 = .ok (.return_, 1) := by decide +kernel
theorem dX7_plainLeads_185 : decode cX7_plainLeads 185 = .ok (.aload_n 0, 1) := by decide +kernel
theorem dX7_plainLeads_186 : decode cX7_plainLeads 186 = .ok (.iload_n 2, 1) := by decide +kernel
theorem dX7_plainLeads_187 : decode cX7_plainLeads 187 = .ok (.iload_n 3, 1) := by decide +kernel
theorem dX7_plainLeads_188 : decode cX7_plainLeads 188 = .ok (.aload_n 0, 1) := by decide +kernel
theorem dX7_plainLeads_189 : decode cX7_plainLeads 189 = .ok (.getfield 22, 3) := by decide +kernel
theorem dX7_plainLeads_192 : decode cX7_plainLeads 192 = .ok (.iload_n 1, 1) := by decide +kernel
theorem dX7_plainLeads_193 : decode cX7_plainLeads 193 = .ok (.iaload, 1) := by decide +kernel
theorem dX7_plainLeads_194 : decode cX7_plainLeads 194 = .ok (.invokevirtual 168, 3) := by decide +kernel
theorem dX7_plainLeads_197 : decode cX7_plainLeads 197 = .ok (.istore 5, 2) := by decide +kernel
theorem dX7_plainLeads_199 : decode cX7_plainLeads 199 = .ok (.iload 5, 2) := by decide +kernel
theorem dX7_plainLeads_201 : decode cX7_plainLeads 201 = .ok (.iload_n 2, 1) := by decide +kernel
theorem dX7_plainLeads_202 : decode cX7_plainLeads 202 = .ok (.if_icmp .ne 13, 3) := by decide +kernel
theorem dX7_plainLeads_205 : decode cX7_plainLeads 205 = .ok (.aload_n 0, 1) := by decide +kernel
theorem dX7_plainLeads_206 : decode cX7_plainLeads 206 = .ok (.iload_n 1, 1) := by decide +kernel
theorem dX7_plainLeads_207 : decode cX7_plainLeads 207 = .ok (.iload_n 2, 1) := by decide +kernel
theorem dX7_plainLeads_208 : decode cX7_plainLeads 208 = .ok (.iload_n 2, 1) := by decide +kernel
theorem dX7_plainLeads_209 : decode cX7_plainLeads 209 = .ok (.invokevirtual 205, 3) := by decide +kernel
theorem dX7_plainLeads_212 : decode cX7_plainLeads 212 = .ok (.goto 11, 3) := by decide +kernel
theorem dX7_plainLeads_215 : decode cX7_plainLeads 215 = .ok (.aload_n 0, 1) := by decide +kernel
theorem dX7_plainLeads_216 : decode cX7_plainLeads 216 = .ok (.iload_n 1, 1) := by decide +kernel
theorem dX7_plainLeads_217 : decode cX7_plainLeads 217 = .ok (.iload_n 2, 1) := by decide +kernel
theorem dX7_plainLeads_218 : decode cX7_plainLeads 218 = .ok (.iload 5, 2) := by decide +kernel
theorem dX7_plainLeads_220 : decode cX7_plainLeads 220 = .ok (.invokevirtual 208, 3) := by decide +kernel
theorem dX7_plainLeads_223 : decode cX7_plainLeads 223 = .ok (.return_, 1) := by decide +kernel
theorem dX7_plainLeads_224 : decode cX7_plainLeads 224 = .ok (.aload_n 0, 1) := by decide +kernel
theorem dX7_plainLeads_225 : decode cX7_plainLeads 225 = .ok (.iload_n 1, 1) := by decide +kernel
theorem dX7_plainLeads_226 : decode cX7_plainLeads 226 = .ok (.iload_n 2, 1) := by decide +kernel
theorem dX7_plainLeads_227 : decode cX7_plainLeads 227 = .ok (.invokevirtual 211, 3) := by decide +kernel
theorem dX7_plainLeads_230 : decode cX7_plainLeads 230 = .ok (.return_, 1) := by decide +kernel
theorem dX7_nestedLeads_0 : decode cX7_nestedLeads 0 = .ok (.iconst 0, 1) := by decide +kernel
theorem dX7_nestedLeads_1 : decode cX7_nestedLeads 1 = .ok (.istore_n 3, 1) := by decide +kernel
theorem dX7_nestedLeads_2 : decode cX7_nestedLeads 2 = .ok (.iload_n 3, 1) := by decide +kernel
theorem dX7_nestedLeads_3 : decode cX7_nestedLeads 3 = .ok (.aload_n 0, 1) := by decide +kernel
theorem dX7_nestedLeads_4 : decode cX7_nestedLeads 4 = .ok (.getfield 64, 3) := by decide +kernel
theorem dX7_nestedLeads_7 : decode cX7_nestedLeads 7 = .ok (.if_icmp .ge 156, 3) := by decide +kernel
theorem dX7_nestedLeads_10 : decode cX7_nestedLeads 10 = .ok (.iconst 0, 1) := by decide +kernel
theorem dX7_nestedLeads_11 : decode cX7_nestedLeads 11 = .ok (.istore 4, 2) := by decide +kernel
theorem dX7_nestedLeads_13 : decode cX7_nestedLeads 13 = .ok (.aload_n 0, 1) := by decide +kernel
theorem dX7_nestedLeads_14 : decode cX7_nestedLeads 14 = .ok (.getfield 16, 3) := by decide +kernel
theorem dX7_nestedLeads_17 : decode cX7_nestedLeads 17 = .ok (.iload_n 1, 1) := by decide +kernel
theorem dX7_nestedLeads_18 : decode cX7_nestedLeads 18 = .ok (.iaload, 1) := by decide +kernel
theorem dX7_nestedLeads_19 : decode cX7_nestedLeads 19 = .ok (.iconst 5, 1) := by decide +kernel
theorem dX7_nestedLeads_20 : decode cX7_nestedLeads 20 = .ok (.if_icmp .ne 53, 3) := by decide +kernel
theorem dX7_nestedLeads_23 : decode cX7_nestedLeads 23 = .ok (.aload_n 0, 1) := by decide +kernel
theorem dX7_nestedLeads_24 : decode cX7_nestedLeads 24 = .ok (.getfield 48, 3) := by decide +kernel
theorem dX7_nestedLeads_27 : decode cX7_nestedLeads 27 = .ok (.aload_n 0, 1) := by decide +kernel
theorem dX7_nestedLeads_28 : decode cX7_nestedLeads 28 = .ok (.aload_n 0, 1) := by decide +kernel
theorem dX7_nestedLeads_29 : decode cX7_nestedLeads 29 = .ok (.getfield 19, 3) := by decide +kernel
theorem dX7_nestedLeads_32 : decode cX7_nestedLeads 32 = .ok (.iload_n 1, 1) := by decide +kernel
theorem dX7_nestedLeads_33 : decode cX7_nestedLeads 33 = .ok (.iaload, 1) := by decide +kernel
theorem dX7_nestedLeads_34 : decode cX7_nestedLeads 34 = .ok (.iload_n 2, 1) := by decide +kernel
theorem dX7_nestedLeads_35 : decode cX7_nestedLeads 35 = .ok (.iload_n 3, 1) := by decide +kernel
theorem dX7_nestedLeads_36 : decode cX7_nestedLeads 36 = .ok (.invokevirtual 177, 3) := by decide +kernel
theorem dX7_nestedLeads_39 : decode cX7_nestedLeads 39 = .ok (.baload, 1) := by decide +kernel
theorem dX7_nestedLeads_40 : decode cX7_nestedLeads 40 = .ok (.ifCond .ne 23, 3) := by decide +kernel
theorem dX7_nestedLeads_43 : decode cX7_nestedLeads 43 = .ok (.aload_n 0, 1) := by decide +kernel
theorem dX7_nestedLeads_44 : decode cX7_nestedLeads 44 = .ok (.getfield 48, 3) := by decide +kernel
theorem dX7_nestedLeads_47 : decode cX7_nestedLeads 47 = .ok (.aload_n 0, 1) := by decide +kernel
theorem dX7_nestedLeads_48 : decode cX7_nestedLeads 48 = .ok (.aload_n 0, 1) := by decide +kernel
theorem dX7_nestedLeads_49 : decode cX7_nestedLeads 49 = .ok (.getfield 22, 3) := by decide +kernel
theorem dX7_nestedLeads_52 : decode cX7_nestedLeads 52 = .ok (.iload_n 1, 1) := by decide +kernel
theorem dX7_nestedLeads_53 : decode cX7_nestedLeads 53 = .ok (.iaload, 1) := by decide +kernel
theorem dX7_nestedLeads_54 : decode cX7_nestedLeads 54 = .ok (.iload_n 2, 1) := by decide +kernel
theorem dX7_nestedLeads_55 : decode cX7_nestedLeads 55 = .ok (.iload_n 3, 1) := by decide +kernel
theorem dX7_nestedLeads_56 : decode cX7_nestedLeads 56 = .ok (.invokevirtual 177, 3) := by decide +kernel
theorem dX7_nestedLeads_59 : decode cX7_nestedLeads 59 = .ok (.baload, 1) := by decide +kernel
theorem dX7_nestedLeads_60 : decode cX7_nestedLeads 60 = .ok (.ifCond .eq 7, 3) := by decide +kernel
theorem dX7_nestedLeads_63 : decode cX7_nestedLeads 63 = .ok (.iconst 1, 1) := by decide +kernel
theorem dX7_nestedLeads_64 : decode cX7_nestedLeads 64 = .ok (.goto 4, 3) := by decide +kernel
theorem dX7_nestedLeads_67 : decode cX7_nestedLeads 67 = .ok (.iconst 0, 1) := by decide +kernel
theorem dX7_nestedLeads_68 : decode cX7_nestedLeads 68 = .ok (.istore 4, 2) := by decide +kernel
theorem dX7_nestedLeads_70 : decode cX7_nestedLeads 70 = .ok (.goto 73, 3) := by decide +kernel
theorem dX7_nestedLeads_73 : decode cX7_nestedLeads 73 = .ok (.iconst 0, 1) := by decide +kernel
theorem dX7_nestedLeads_74 : decode cX7_nestedLeads 74 = .ok (.istore 5, 2) := by decide +kernel
theorem dX7_nestedLeads_76 : decode cX7_nestedLeads 76 = .ok (.iload 5, 2) := by decide +kernel
theorem dX7_nestedLeads_78 : decode cX7_nestedLeads 78 = .ok (.aload_n 0, 1) := by decide +kernel
theorem dX7_nestedLeads_79 : decode cX7_nestedLeads 79 = .ok (.getfield 64, 3) := by decide +kernel
theorem dX7_nestedLeads_82 : decode cX7_nestedLeads 82 = .ok (.if_icmp .ge 61, 3) := by decide +kernel
theorem dX7_nestedLeads_85 : decode cX7_nestedLeads 85 = .ok (.iload 4, 2) := by decide +kernel
theorem dX7_nestedLeads_87 : decode cX7_nestedLeads 87 = .ok (.aload_n 0, 1) := by decide +kernel
theorem dX7_nestedLeads_88 : decode cX7_nestedLeads 88 = .ok (.getfield 48, 3) := by decide +kernel
theorem dX7_nestedLeads_91 : decode cX7_nestedLeads 91 = .ok (.aload_n 0, 1) := by decide +kernel
theorem dX7_nestedLeads_92 : decode cX7_nestedLeads 92 = .ok (.aload_n 0, 1) := by decide +kernel
theorem dX7_nestedLeads_93 : decode cX7_nestedLeads 93 = .ok (.getfield 19, 3) := by decide +kernel
theorem dX7_nestedLeads_96 : decode cX7_nestedLeads 96 = .ok (.iload_n 1, 1) := by decide +kernel
theorem dX7_nestedLeads_97 : decode cX7_nestedLeads 97 = .ok (.iaload, 1) := by decide +kernel
theorem dX7_nestedLeads_98 : decode cX7_nestedLeads 98 = .ok (.iload_n 2, 1) := by decide +kernel
theorem dX7_nestedLeads_99 : decode cX7_nestedLeads 99 = .ok (.iload 5, 2) := by decide +kernel
theorem dX7_nestedLeads_101 : decode cX7_nestedLeads 101 = .ok (.invokevirtual 177, 3) := by decide +kernel
theorem dX7_nestedLeads_104 : decode cX7_nestedLeads 104 = .ok (.baload, 1) := by decide +kernel
theorem dX7_nestedLeads_105 : decode cX7_nestedLeads 105 = .ok (.ifCond .eq 28, 3) := by decide +kernel
theorem dX7_nestedLeads_108 : decode cX7_nestedLeads 108 = .ok (.aload_n 0, 1) := by decide +kernel
theorem dX7_nestedLeads_109 : decode cX7_nestedLeads 109 = .ok (.getfield 48, 3) := by decide +kernel
theorem dX7_nestedLeads_112 : decode cX7_nestedLeads 112 = .ok (.aload_n 0, 1) := by decide +kernel
theorem dX7_nestedLeads_113 : decode cX7_nestedLeads 113 = .ok (.aload_n 0, 1) := by decide +kernel
theorem dX7_nestedLeads_114 : decode cX7_nestedLeads 114 = .ok (.getfield 22, 3) := by decide +kernel
theorem dX7_nestedLeads_117 : decode cX7_nestedLeads 117 = .ok (.iload_n 1, 1) := by decide +kernel
theorem dX7_nestedLeads_118 : decode cX7_nestedLeads 118 = .ok (.iaload, 1) := by decide +kernel
theorem dX7_nestedLeads_119 : decode cX7_nestedLeads 119 = .ok (.iload 5, 2) := by decide +kernel
theorem dX7_nestedLeads_121 : decode cX7_nestedLeads 121 = .ok (.iload_n 3, 1) := by decide +kernel
theorem dX7_nestedLeads_122 : decode cX7_nestedLeads 122 = .ok (.invokevirtual 177, 3) := by decide +kernel
theorem dX7_nestedLeads_125 : decode cX7_nestedLeads 125 = .ok (.baload, 1) := by decide +kernel
theorem dX7_nestedLeads_126 : decode cX7_nestedLeads 126 = .ok (.ifCond .eq 7, 3) := by decide +kernel
theorem dX7_nestedLeads_129 : decode cX7_nestedLeads 129 = .ok (.iconst 1, 1) := by decide +kernel
theorem dX7_nestedLeads_130 : decode cX7_nestedLeads 130 = .ok (.goto 4, 3) := by decide +kernel
theorem dX7_nestedLeads_133 : decode cX7_nestedLeads 133 = .ok (.iconst 0, 1) := by decide +kernel
theorem dX7_nestedLeads_134 : decode cX7_nestedLeads 134 = .ok (.ior, 1) := by decide +kernel
theorem dX7_nestedLeads_135 : decode cX7_nestedLeads 135 = .ok (.istore 4, 2) := by decide +kernel
theorem dX7_nestedLeads_137 : decode cX7_nestedLeads 137 = .ok (.iinc 5 1, 3) := by decide +kernel
theorem dX7_nestedLeads_140 : decode cX7_nestedLeads 140 = .ok (.goto (-64), 3) := by decide +kernel
theorem dX7_nestedLeads_143 : decode cX7_nestedLeads 143 = .ok (.aload_n 0, 1) := by decide +kernel
theorem dX7_nestedLeads_144 : decode cX7_nestedLeads 144 = .ok (.getfield 48, 3) := by decide +kernel
theorem dX7_nestedLeads_147 : decode cX7_nestedLeads 147 = .ok (.aload_n 0, 1) := by decide +kernel
theorem dX7_nestedLeads_148 : decode cX7_nestedLeads 148 = .ok (.iload_n 1, 1) := by decide +kernel
theorem dX7_nestedLeads_149 : decode cX7_nestedLeads 149 = .ok (.iload_n 2, 1) := by decide +kernel
theorem dX7_nestedLeads_150 : decode cX7_nestedLeads 150 = .ok (.iload_n 3, 1) := by decide +kernel
theorem dX7_nestedLeads_151 : decode cX7_nestedLeads 151 = .ok (.invokevirtual 177, 3) := by decide +kernel
theorem dX7_nestedLeads_154 : decode cX7_nestedLeads 154 = .ok (.iload 4, 2) := by decide +kernel
theorem dX7_nestedLeads_156 : decode cX7_nestedLeads 156 = .ok (.bastore, 1) := by decide +kernel
theorem dX7_nestedLeads_157 : decode cX7_nestedLeads 157 = .ok (.iinc 3 1, 3) := by decide +kernel
theorem dX7_nestedLeads_160 : decode cX7_nestedLeads 160 = .ok (.goto (-158), 3) := by decide +kernel
theorem dX7_nestedLeads_163 : decode cX7_nestedLeads 163 = .ok (.return_, 1) := by decide +kernel
theorem dX7_reach_0 : decode cX7_reach 0 = .ok (.aload_n 0, 1) := by decide +kernel
theorem dX7_reach_1 : decode cX7_reach 1 = .ok (.getfield 64, 3) := by decide +kernel
theorem dX7_reach_4 : decode cX7_reach 4 = .ok (.ifCond .ne 6, 3) := by decide +kernel
theorem dX7_reach_7 : decode cX7_reach 7 = .ok (.bipush (-2), 2) := by decide +kernel
theorem dX7_reach_9 : decode cX7_reach 9 = .ok (.ireturn, 1) := by decide +kernel
theorem dX7_reach_10 : decode cX7_reach 10 = .ok (.aload_n 0, 1) := by decide +kernel
theorem dX7_reach_11 : decode cX7_reach 11 = .ok (.iload_n 1, 1) := by decide +kernel
theorem dX7_reach_12 : decode cX7_reach 12 = .ok (.invokevirtual 98, 3) := by decide +kernel
theorem dX7_reach_15 : decode cX7_reach 15 = .ok (.ifCond .eq 11, 3) := by decide +kernel
theorem dX7_reach_18 : decode cX7_reach 18 = .ok (.aload_n 0, 1) := by decide +kernel
theorem dX7_reach_19 : decode cX7_reach 19 = .ok (.iload_n 2, 1) := by decide +kernel
theorem dX7_reach_20 : decode cX7_reach 20 = .ok (.invokevirtual 83, 3) := by decide +kernel
theorem dX7_reach_23 : decode cX7_reach 23 = .ok (.ifCond .ne 5, 3) := by decide +kernel
theorem dX7_reach_26 : decode cX7_reach 26 = .ok (.iconst (-1), 1) := by decide +kernel
theorem dX7_reach_27 : decode cX7_reach 27 = .ok (.ireturn, 1) := by decide +kernel
theorem dX7_reach_28 : decode cX7_reach 28 = .ok (.aload_n 0, 1) := by decide +kernel
theorem dX7_reach_29 : decode cX7_reach 29 = .ok (.iload_n 1, 1) := by decide +kernel
theorem dX7_reach_30 : decode cX7_reach 30 = .ok (.invokevirtual 184, 3) := by decide +kernel
theorem dX7_reach_33 : decode cX7_reach 33 = .ok (.iconst 0, 1) := by decide +kernel
theorem dX7_reach_34 : decode cX7_reach 34 = .ok (.istore_n 3, 1) := by decide +kernel
theorem dX7_reach_35 : decode cX7_reach 35 = .ok (.iload_n 3, 1) := by decide +kernel
theorem dX7_reach_36 : decode cX7_reach 36 = .ok (.iload_n 1, 1) := by decide +kernel
theorem dX7_reach_37 : decode cX7_reach 37 = .ok (.if_icmp .gt 96, 3) := by decide +kernel
theorem dX7_reach_40 : decode cX7_reach 40 = .ok (.iconst 0, 1) := by decide +kernel
theorem dX7_reach_41 : decode cX7_reach 41 = .ok (.istore 4, 2) := by decide +kernel
theorem dX7_reach_43 : decode cX7_reach 43 = .ok (.iload 4, 2) := by decide +kernel
theorem dX7_reach_45 : decode cX7_reach 45 = .ok (.aload_n 0, 1) := by decide +kernel
theorem dX7_reach_46 : decode cX7_reach 46 = .ok (.getfield 64, 3) := by decide +kernel
theorem dX7_reach_49 : decode cX7_reach 49 = .ok (.if_icmp .ge 78, 3) := by decide +kernel
theorem dX7_reach_52 : decode cX7_reach 52 = .ok (.aload_n 0, 1) := by decide +kernel
theorem dX7_reach_53 : decode cX7_reach 53 = .ok (.getfield 51, 3) := by decide +kernel
theorem dX7_reach_56 : decode cX7_reach 56 = .ok (.iload_n 3, 1) := by decide +kernel
theorem dX7_reach_57 : decode cX7_reach 57 = .ok (.baload, 1) := by decide +kernel
theorem dX7_reach_58 : decode cX7_reach 58 = .ok (.ifCond .eq 69, 3) := by decide +kernel
theorem dX7_reach_61 : decode cX7_reach 61 = .ok (.iconst 0, 1) := by decide +kernel
theorem dX7_reach_62 : decode cX7_reach 62 = .ok (.istore 5, 2) := by decide +kernel
theorem dX7_reach_64 : decode cX7_reach 64 = .ok (.iload 5, 2) := by decide +kernel
theorem dX7_reach_66 : decode cX7_reach 66 = .ok (.aload_n 0, 1) := by decide +kernel
theorem dX7_reach_67 : decode cX7_reach 67 = .ok (.getfield 64, 3) := by decide +kernel
theorem dX7_reach_70 : decode cX7_reach 70 = .ok (.if_icmp .ge 24, 3) := by decide +kernel
theorem dX7_reach_73 : decode cX7_reach 73 = .ok (.aload_n 0, 1) := by decide +kernel
theorem dX7_reach_74 : decode cX7_reach 74 = .ok (.getfield 48, 3) := by decide +kernel
theorem dX7_reach_77 : decode cX7_reach 77 = .ok (.aload_n 0, 1) := by decide +kernel
theorem dX7_reach_78 : decode cX7_reach 78 = .ok (.iload_n 3, 1) := by decide +kernel
theorem dX7_reach_79 : decode cX7_reach 79 = .ok (.iload 4, 2) := by decide +kernel
theorem dX7_reach_81 : decode cX7_reach 81 = .ok (.iload 5, 2) := by decide +kernel
theorem dX7_reach_83 : decode cX7_reach 83 = .ok (.invokevirtual 177, 3) := by decide +kernel
theorem dX7_reach_86 : decode cX7_reach 86 = .ok (.iconst 0, 1) := by decide +kernel
theorem dX7_reach_87 : decode cX7_reach 87 = .ok (.bastore, 1) := by decide +kernel
theorem dX7_reach_88 : decode cX7_reach 88 = .ok (.iinc 5 1, 3) := by decide +kernel
theorem dX7_reach_91 : decode cX7_reach 91 = .ok (.goto (-27), 3) := by decide +kernel
theorem dX7_reach_94 : decode cX7_reach 94 = .ok (.aload_n 0, 1) := by decide +kernel
theorem dX7_reach_95 : decode cX7_reach 95 = .ok (.getfield 16, 3) := by decide +kernel
theorem dX7_reach_98 : decode cX7_reach 98 = .ok (.iload_n 3, 1) := by decide +kernel
theorem dX7_reach_99 : decode cX7_reach 99 = .ok (.iaload, 1) := by decide +kernel
theorem dX7_reach_100 : decode cX7_reach 100 = .ok (.iconst 5, 1) := by decide +kernel
theorem dX7_reach_101 : decode cX7_reach 101 = .ok (.if_icmp .lt 13, 3) := by decide +kernel
theorem dX7_reach_104 : decode cX7_reach 104 = .ok (.aload_n 0, 1) := by decide +kernel
theorem dX7_reach_105 : decode cX7_reach 105 = .ok (.iload_n 3, 1) := by decide +kernel
theorem dX7_reach_106 : decode cX7_reach 106 = .ok (.iload 4, 2) := by decide +kernel
theorem dX7_reach_108 : decode cX7_reach 108 = .ok (.invokevirtual 215, 3) := by decide +kernel
theorem dX7_reach_111 : decode cX7_reach 111 = .ok (.goto 10, 3) := by decide +kernel
theorem dX7_reach_114 : decode cX7_reach 114 = .ok (.aload_n 0, 1) := by decide +kernel
theorem dX7_reach_115 : decode cX7_reach 115 = .ok (.iload_n 3, 1) := by decide +kernel
theorem dX7_reach_116 : decode cX7_reach 116 = .ok (.iload 4, 2) := by decide +kernel
theorem dX7_reach_118 : decode cX7_reach 118 = .ok (.invokevirtual 218, 3) := by decide +kernel
theorem dX7_reach_121 : decode cX7_reach 121 = .ok (.iinc 4 1, 3) := by decide +kernel
theorem dX7_reach_124 : decode cX7_reach 124 = .ok (.goto (-81), 3) := by decide +kernel
theorem dX7_reach_127 : decode cX7_reach 127 = .ok (.iinc 3 1, 3) := by decide +kernel
theorem dX7_reach_130 : decode cX7_reach 130 = .ok (.goto (-95), 3) := by decide +kernel
theorem dX7_reach_133 : decode cX7_reach 133 = .ok (.iconst 1, 1) := by decide +kernel
theorem dX7_reach_134 : decode cX7_reach 134 = .ok (.iload_n 2, 1) := by decide +kernel
theorem dX7_reach_135 : decode cX7_reach 135 = .ok (.ishl, 1) := by decide +kernel
theorem dX7_reach_136 : decode cX7_reach 136 = .ok (.istore_n 3, 1) := by decide +kernel
theorem dX7_reach_137 : decode cX7_reach 137 = .ok (.iconst 0, 1) := by decide +kernel
theorem dX7_reach_138 : decode cX7_reach 138 = .ok (.istore 4, 2) := by decide +kernel
theorem dX7_reach_140 : decode cX7_reach 140 = .ok (.iload 4, 2) := by decide +kernel
theorem dX7_reach_142 : decode cX7_reach 142 = .ok (.iload_n 3, 1) := by decide +kernel
theorem dX7_reach_143 : decode cX7_reach 143 = .ok (.if_icmp .eq 83, 3) := by decide +kernel
theorem dX7_reach_146 : decode cX7_reach 146 = .ok (.iload_n 3, 1) := by decide +kernel
theorem dX7_reach_147 : decode cX7_reach 147 = .ok (.istore 4, 2) := by decide +kernel
theorem dX7_reach_149 : decode cX7_reach 149 = .ok (.iconst 0, 1) := by decide +kernel
theorem dX7_reach_150 : decode cX7_reach 150 = .ok (.istore 5, 2) := by decide +kernel
theorem dX7_reach_152 : decode cX7_reach 152 = .ok (.iload 5, 2) := by decide +kernel
theorem dX7_reach_154 : decode cX7_reach 154 = .ok (.aload_n 0, 1) := by decide +kernel
theorem dX7_reach_155 : decode cX7_reach 155 = .ok (.getfield 64, 3) := by decide +kernel
theorem dX7_reach_158 : decode cX7_reach 158 = .ok (.if_icmp .ge 65, 3) := by decide +kernel
theorem dX7_reach_161 : decode cX7_reach 161 = .ok (.iconst 0, 1) := by decide +kernel
theorem dX7_reach_162 : decode cX7_reach 162 = .ok (.istore 6, 2) := by decide +kernel
theorem dX7_reach_164 : decode cX7_reach 164 = .ok (.iload 6, 2) := by decide +kernel
theorem dX7_reach_166 : decode cX7_reach 166 = .ok (.aload_n 0, 1) := by decide +kernel
theorem dX7_reach_167 : decode cX7_reach 167 = .ok (.getfield 64, 3) := by decide +kernel
theorem dX7_reach_170 : decode cX7_reach 170 = .ok (.if_icmp .ge 47, 3) := by decide +kernel
theorem dX7_reach_173 : decode cX7_reach 173 = .ok (.iload_n 3, 1) := by decide +kernel
theorem dX7_reach_174 : decode cX7_reach 174 = .ok (.iload 5, 2) := by decide +kernel
theorem dX7_reach_176 : decode cX7_reach 176 = .ok (.ishr, 1) := by decide +kernel
theorem dX7_reach_177 : decode cX7_reach 177 = .ok (.iconst 1, 1) := by decide +kernel
theorem dX7_reach_178 : decode cX7_reach 178 = .ok (.iand, 1) := by decide +kernel
theorem dX7_reach_179 : decode cX7_reach 179 = .ok (.iconst 1, 1) := by decide +kernel
theorem dX7_reach_180 : decode cX7_reach 180 = .ok (.if_icmp .ne 37, 3) := by decide +kernel
theorem dX7_reach_183 : decode cX7_reach 183 = .ok (.iload_n 3, 1) := by decide +kernel
theorem dX7_reach_184 : decode cX7_reach 184 = .ok (.aload_n 0, 1) := by decide +kernel
theorem dX7_reach_185 : decode cX7_reach 185 = .ok (.getfield 48, 3) := by decide +kernel
theorem dX7_reach_188 : decode cX7_reach 188 = .ok (.aload_n 0, 1) := by decide +kernel
theorem dX7_reach_189 : decode cX7_reach 189 = .ok (.iload_n 1, 1) := by decide +kernel
theorem dX7_reach_190 : decode cX7_reach 190 = .ok (.iload 5, 2) := by decide +kernel
theorem dX7_reach_192 : decode cX7_reach 192 = .ok (.iload 6, 2) := by decide +kernel
theorem dX7_reach_194 : decode cX7_reach 194 = .ok (.invokevirtual 177, 3) := by decide +kernel
theorem dX7_reach_197 : decode cX7_reach 197 = .ok (.baload, 1) := by decide +kernel
theorem dX7_reach_198 : decode cX7_reach 198 = .ok (.ifCond .eq 10, 3) := by decide +kernel
theorem dX7_reach_201 : decode cX7_reach 201 = .ok (.iconst 1, 1) := by decide +kernel
theorem dX7_reach_202 : decode cX7_reach 202 = .ok (.iload 6, 2) := by decide +kernel
theorem dX7_reach_204 : decode cX7_reach 204 = .ok (.ishl, 1) := by decide +kernel
theorem dX7_reach_205 : decode cX7_reach 205 = .ok (.goto 4, 3) := by decide +kernel
theorem dX7_reach_208 : decode cX7_reach 208 = .ok (.iconst 0, 1) := by decide +kernel
theorem dX7_reach_209 : decode cX7_reach 209 = .ok (.ior, 1) := by decide +kernel
theorem dX7_reach_210 : decode cX7_reach 210 = .ok (.istore_n 3, 1) := by decide +kernel
theorem dX7_reach_211 : decode cX7_reach 211 = .ok (.iinc 6 1, 3) := by decide +kernel
theorem dX7_reach_214 : decode cX7_reach 214 = .ok (.goto (-50), 3) := by decide +kernel
theorem dX7_reach_217 : decode cX7_reach 217 = .ok (.iinc 5 1, 3) := by decide +kernel
theorem dX7_reach_220 : decode cX7_reach 220 = .ok (.goto (-68), 3) := by decide +kernel
theorem dX7_reach_223 : decode cX7_reach 223 = .ok (.goto (-83), 3) := by decide +kernel
theorem dX7_reach_226 : decode cX7_reach 226 = .ok (.iconst 0, 1) := by decide +kernel
theorem dX7_reach_227 : decode cX7_reach 227 = .ok (.istore 5, 2) := by decide +kernel
theorem dX7_reach_229 : decode cX7_reach 229 = .ok (.iconst 0, 1) := by decide +kernel
theorem dX7_reach_230 : decode cX7_reach 230 = .ok (.istore 6, 2) := by decide +kernel
theorem dX7_reach_232 : decode cX7_reach 232 = .ok (.iload 6, 2) := by decide +kernel
theorem dX7_reach_234 : decode cX7_reach 234 = .ok (.aload_n 0, 1) := by decide +kernel
theorem dX7_reach_235 : decode cX7_reach 235 = .ok (.getfield 64, 3) := by decide +kernel
theorem dX7_reach_238 : decode cX7_reach 238 = .ok (.if_icmp .ge 20, 3) := by decide +kernel
theorem dX7_reach_241 : decode cX7_reach 241 = .ok (.iload 5, 2) := by decide +kernel
theorem dX7_reach_243 : decode cX7_reach 243 = .ok (.iload_n 3, 1) := by decide +kernel
theorem dX7_reach_244 : decode cX7_reach 244 = .ok (.iload 6, 2) := by decide +kernel
theorem dX7_reach_246 : decode cX7_reach 246 = .ok (.ishr, 1) := by decide +kernel
theorem dX7_reach_247 : decode cX7_reach 247 = .ok (.iconst 1, 1) := by decide +kernel
theorem dX7_reach_248 : decode cX7_reach 248 = .ok (.iand, 1) := by decide +kernel
theorem dX7_reach_249 : decode cX7_reach 249 = .ok (.iadd, 1) := by decide +kernel
theorem dX7_reach_250 : decode cX7_reach 250 = .ok (.istore 5, 2) := by decide +kernel
theorem dX7_reach_252 : decode cX7_reach 252 = .ok (.iinc 6 1, 3) := by decide +kernel
theorem dX7_reach_255 : decode cX7_reach 255 = .ok (.goto (-23), 3) := by decide +kernel
theorem dX7_reach_258 : decode cX7_reach 258 = .ok (.iload 5, 2) := by decide +kernel
theorem dX7_reach_260 : decode cX7_reach 260 = .ok (.ireturn, 1) := by decide +kernel
theorem dX7_draw_0 : decode cX7_draw 0 = .ok (.aload_n 0, 1) := by decide +kernel
theorem dX7_draw_1 : decode cX7_draw 1 = .ok (.aload_n 0, 1) := by decide +kernel
theorem dX7_draw_2 : decode cX7_draw 2 = .ok (.getfield 221, 3) := by decide +kernel
theorem dX7_draw_5 : decode cX7_draw 5 = .ok (.ldc2_w 224, 3) := by decide +kernel
theorem dX7_draw_8 : decode cX7_draw 8 = .ok (.lmul, 1) := by decide +kernel
theorem dX7_draw_9 : decode cX7_draw 9 = .ok (.ldc2_w 226, 3) := by decide +kernel
theorem dX7_draw_12 : decode cX7_draw 12 = .ok (.ladd, 1) := by decide +kernel
theorem dX7_draw_13 : decode cX7_draw 13 = .ok (.ldc2_w 228, 3) := by decide +kernel
theorem dX7_draw_16 : decode cX7_draw 16 = .ok (.land, 1) := by decide +kernel
theorem dX7_draw_17 : decode cX7_draw 17 = .ok (.putfield 221, 3) := by decide +kernel
theorem dX7_draw_20 : decode cX7_draw 20 = .ok (.aload_n 0, 1) := by decide +kernel
theorem dX7_draw_21 : decode cX7_draw 21 = .ok (.getfield 221, 3) := by decide +kernel
theorem dX7_draw_24 : decode cX7_draw 24 = .ok (.bipush 17, 2) := by decide +kernel
theorem dX7_draw_26 : decode cX7_draw 26 = .ok (.lshr, 1) := by decide +kernel
theorem dX7_draw_27 : decode cX7_draw 27 = .ok (.lload_n 1, 1) := by decide +kernel
theorem dX7_draw_28 : decode cX7_draw 28 = .ok (.lrem, 1) := by decide +kernel
theorem dX7_draw_29 : decode cX7_draw 29 = .ok (.lreturn, 1) := by decide +kernel
theorem dX7_accepted_0 : decode cX7_accepted 0 = .ok (.aload_n 0, 1) := by decide +kernel
theorem dX7_accepted_1 : decode cX7_accepted 1 = .ok (.getfield 13, 3) := by decide +kernel
theorem dX7_accepted_4 : decode cX7_accepted 4 = .ok (.iload_n 2, 1) := by decide +kernel
theorem dX7_accepted_5 : decode cX7_accepted 5 = .ok (.iaload, 1) := by decide +kernel
theorem dX7_accepted_6 : decode cX7_accepted 6 = .ok (.aload_n 0, 1) := by decide +kernel
theorem dX7_accepted_7 : decode cX7_accepted 7 = .ok (.getfield 13, 3) := by decide +kernel
theorem dX7_accepted_10 : decode cX7_accepted 10 = .ok (.iload_n 1, 1) := by decide +kernel
theorem dX7_accepted_11 : decode cX7_accepted 11 = .ok (.iaload, 1) := by decide +kernel
theorem dX7_accepted_12 : decode cX7_accepted 12 = .ok (.if_icmp .ge 25, 3) := by decide +kernel
theorem dX7_accepted_15 : decode cX7_accepted 15 = .ok (.aload_n 0, 1) := by decide +kernel
theorem dX7_accepted_16 : decode cX7_accepted 16 = .ok (.aload_n 0, 1) := by decide +kernel
theorem dX7_accepted_17 : decode cX7_accepted 17 = .ok (.getfield 13, 3) := by decide +kernel
theorem dX7_accepted_20 : decode cX7_accepted 20 = .ok (.iload_n 1, 1) := by decide +kernel
theorem dX7_accepted_21 : decode cX7_accepted 21 = .ok (.iaload, 1) := by decide +kernel
theorem dX7_accepted_22 : decode cX7_accepted 22 = .ok (.i2l, 1) := by decide +kernel
theorem dX7_accepted_23 : decode cX7_accepted 23 = .ok (.invokevirtual 230, 3) := by decide +kernel
theorem dX7_accepted_26 : decode cX7_accepted 26 = .ok (.aload_n 0, 1) := by decide +kernel
theorem dX7_accepted_27 : decode cX7_accepted 27 = .ok (.getfield 13, 3) := by decide +kernel
theorem dX7_accepted_30 : decode cX7_accepted 30 = .ok (.iload_n 2, 1) := by decide +kernel
theorem dX7_accepted_31 : decode cX7_accepted 31 = .ok (.iaload, 1) := by decide +kernel
theorem dX7_accepted_32 : decode cX7_accepted 32 = .ok (.i2l, 1) := by decide +kernel
theorem dX7_accepted_33 : decode cX7_accepted 33 = .ok (.lcmp, 1) := by decide +kernel
theorem dX7_accepted_34 : decode cX7_accepted 34 = .ok (.ifCond .ge 5, 3) := by decide +kernel
theorem dX7_accepted_37 : decode cX7_accepted 37 = .ok (.iload_n 2, 1) := by decide +kernel
theorem dX7_accepted_38 : decode cX7_accepted 38 = .ok (.ireturn, 1) := by decide +kernel
theorem dX7_accepted_39 : decode cX7_accepted 39 = .ok (.aload_n 0, 1) := by decide +kernel
theorem dX7_accepted_40 : decode cX7_accepted 40 = .ok (.dup, 1) := by decide +kernel
theorem dX7_accepted_41 : decode cX7_accepted 41 = .ok (.getfield 77, 3) := by decide +kernel
theorem dX7_accepted_44 : decode cX7_accepted 44 = .ok (.iconst 1, 1) := by decide +kernel
theorem dX7_accepted_45 : decode cX7_accepted 45 = .ok (.iadd, 1) := by decide +kernel
theorem dX7_accepted_46 : decode cX7_accepted 46 = .ok (.putfield 77, 3) := by decide +kernel
theorem dX7_accepted_49 : decode cX7_accepted 49 = .ok (.iload_n 1, 1) := by decide +kernel
theorem dX7_accepted_50 : decode cX7_accepted 50 = .ok (.ireturn, 1) := by decide +kernel
theorem dX7_toldRun_0 : decode cX7_toldRun 0 = .ok (.aload_n 0, 1) := by decide +kernel
theorem dX7_toldRun_1 : decode cX7_toldRun 1 = .ok (.iload_n 1, 1) := by decide +kernel
theorem dX7_toldRun_2 : decode cX7_toldRun 2 = .ok (.iload_n 2, 1) := by decide +kernel
theorem dX7_toldRun_3 : decode cX7_toldRun 3 = .ok (.invokevirtual 126, 3) := by decide +kernel
theorem dX7_toldRun_6 : decode cX7_toldRun 6 = .ok (.istore_n 3, 1) := by decide +kernel
theorem dX7_toldRun_7 : decode cX7_toldRun 7 = .ok (.iload_n 3, 1) := by decide +kernel
theorem dX7_toldRun_8 : decode cX7_toldRun 8 = .ok (.ifCond .ne 5, 3) := by decide +kernel
theorem dX7_toldRun_11 : decode cX7_toldRun 11 = .ok (.iload_n 2, 1) := by decide +kernel
theorem dX7_toldRun_12 : decode cX7_toldRun 12 = .ok (.ireturn, 1) := by decide +kernel
theorem dX7_toldRun_13 : decode cX7_toldRun 13 = .ok (.aload_n 0, 1) := by decide +kernel
theorem dX7_toldRun_14 : decode cX7_toldRun 14 = .ok (.iload_n 3, 1) := by decide +kernel
theorem dX7_toldRun_15 : decode cX7_toldRun 15 = .ok (.i2l, 1) := by decide +kernel
theorem dX7_toldRun_16 : decode cX7_toldRun 16 = .ok (.invokevirtual 230, 3) := by decide +kernel
theorem dX7_toldRun_19 : decode cX7_toldRun 19 = .ok (.lstore 4, 2) := by decide +kernel
theorem dX7_toldRun_21 : decode cX7_toldRun 21 = .ok (.iconst 0, 1) := by decide +kernel
theorem dX7_toldRun_22 : decode cX7_toldRun 22 = .ok (.istore 6, 2) := by decide +kernel
theorem dX7_toldRun_24 : decode cX7_toldRun 24 = .ok (.aload_n 0, 1) := by decide +kernel
theorem dX7_toldRun_25 : decode cX7_toldRun 25 = .ok (.getfield 34, 3) := by decide +kernel
theorem dX7_toldRun_28 : decode cX7_toldRun 28 = .ok (.aload_n 0, 1) := by decide +kernel
theorem dX7_toldRun_29 : decode cX7_toldRun 29 = .ok (.iload_n 1, 1) := by decide +kernel
theorem dX7_toldRun_30 : decode cX7_toldRun 30 = .ok (.iload_n 2, 1) := by decide +kernel
theorem dX7_toldRun_31 : decode cX7_toldRun 31 = .ok (.iconst 0, 1) := by decide +kernel
theorem dX7_toldRun_32 : decode cX7_toldRun 32 = .ok (.invokevirtual 177, 3) := by decide +kernel
theorem dX7_toldRun_35 : decode cX7_toldRun 35 = .ok (.iaload, 1) := by decide +kernel
theorem dX7_toldRun_36 : decode cX7_toldRun 36 = .ok (.i2l, 1) := by decide +kernel
theorem dX7_toldRun_37 : decode cX7_toldRun 37 = .ok (.lstore 7, 2) := by decide +kernel
theorem dX7_toldRun_39 : decode cX7_toldRun 39 = .ok (.lload 7, 2) := by decide +kernel
theorem dX7_toldRun_41 : decode cX7_toldRun 41 = .ok (.lload 4, 2) := by decide +kernel
theorem dX7_toldRun_43 : decode cX7_toldRun 43 = .ok (.lcmp, 1) := by decide +kernel
theorem dX7_toldRun_44 : decode cX7_toldRun 44 = .ok (.ifCond .gt 28, 3) := by decide +kernel
theorem dX7_toldRun_47 : decode cX7_toldRun 47 = .ok (.iinc 6 1, 3) := by decide +kernel
theorem dX7_toldRun_50 : decode cX7_toldRun 50 = .ok (.lload 7, 2) := by decide +kernel
theorem dX7_toldRun_52 : decode cX7_toldRun 52 = .ok (.aload_n 0, 1) := by decide +kernel
theorem dX7_toldRun_53 : decode cX7_toldRun 53 = .ok (.getfield 34, 3) := by decide +kernel
theorem dX7_toldRun_56 : decode cX7_toldRun 56 = .ok (.aload_n 0, 1) := by decide +kernel
theorem dX7_toldRun_57 : decode cX7_toldRun 57 = .ok (.iload_n 1, 1) := by decide +kernel
theorem dX7_toldRun_58 : decode cX7_toldRun 58 = .ok (.iload_n 2, 1) := by decide +kernel
theorem dX7_toldRun_59 : decode cX7_toldRun 59 = .ok (.iload 6, 2) := by decide +kernel
theorem dX7_toldRun_61 : decode cX7_toldRun 61 = .ok (.invokevirtual 177, 3) := by decide +kernel
theorem dX7_toldRun_64 : decode cX7_toldRun 64 = .ok (.iaload, 1) := by decide +kernel
theorem dX7_toldRun_65 : decode cX7_toldRun 65 = .ok (.i2l, 1) := by decide +kernel
theorem dX7_toldRun_66 : decode cX7_toldRun 66 = .ok (.ladd, 1) := by decide +kernel
theorem dX7_toldRun_67 : decode cX7_toldRun 67 = .ok (.lstore 7, 2) := by decide +kernel
theorem dX7_toldRun_69 : decode cX7_toldRun 69 = .ok (.goto (-30), 3) := by decide +kernel
theorem dX7_toldRun_72 : decode cX7_toldRun 72 = .ok (.aload_n 0, 1) := by decide +kernel
theorem dX7_toldRun_73 : decode cX7_toldRun 73 = .ok (.getfield 13, 3) := by decide +kernel
theorem dX7_toldRun_76 : decode cX7_toldRun 76 = .ok (.iload_n 2, 1) := by decide +kernel
theorem dX7_toldRun_77 : decode cX7_toldRun 77 = .ok (.iaload, 1) := by decide +kernel
theorem dX7_toldRun_78 : decode cX7_toldRun 78 = .ok (.ifCond .ne 6, 3) := by decide +kernel
theorem dX7_toldRun_81 : decode cX7_toldRun 81 = .ok (.iload 6, 2) := by decide +kernel
theorem dX7_toldRun_83 : decode cX7_toldRun 83 = .ok (.ireturn, 1) := by decide +kernel
theorem dX7_toldRun_84 : decode cX7_toldRun 84 = .ok (.aload_n 0, 1) := by decide +kernel
theorem dX7_toldRun_85 : decode cX7_toldRun 85 = .ok (.iload_n 1, 1) := by decide +kernel
theorem dX7_toldRun_86 : decode cX7_toldRun 86 = .ok (.iload_n 2, 1) := by decide +kernel
theorem dX7_toldRun_87 : decode cX7_toldRun 87 = .ok (.iload 6, 2) := by decide +kernel
theorem dX7_toldRun_89 : decode cX7_toldRun 89 = .ok (.invokevirtual 129, 3) := by decide +kernel
theorem dX7_toldRun_92 : decode cX7_toldRun 92 = .ok (.lstore 9, 2) := by decide +kernel
theorem dX7_toldRun_94 : decode cX7_toldRun 94 = .ok (.aload_n 0, 1) := by decide +kernel
theorem dX7_toldRun_95 : decode cX7_toldRun 95 = .ok (.iload_n 1, 1) := by decide +kernel
theorem dX7_toldRun_96 : decode cX7_toldRun 96 = .ok (.iload_n 2, 1) := by decide +kernel
theorem dX7_toldRun_97 : decode cX7_toldRun 97 = .ok (.iload 6, 2) := by decide +kernel
theorem dX7_toldRun_99 : decode cX7_toldRun 99 = .ok (.invokevirtual 132, 3) := by decide +kernel
theorem dX7_toldRun_102 : decode cX7_toldRun 102 = .ok (.lstore 11, 2) := by decide +kernel
theorem dX7_toldRun_104 : decode cX7_toldRun 104 = .ok (.lload 9, 2) := by decide +kernel
theorem dX7_toldRun_106 : decode cX7_toldRun 106 = .ok (.lconst 0, 1) := by decide +kernel
theorem dX7_toldRun_107 : decode cX7_toldRun 107 = .ok (.lcmp, 1) := by decide +kernel
theorem dX7_toldRun_108 : decode cX7_toldRun 108 = .ok (.ifCond .le 26, 3) := by decide +kernel
theorem dX7_toldRun_111 : decode cX7_toldRun 111 = .ok (.lload 9, 2) := by decide +kernel
theorem dX7_toldRun_113 : decode cX7_toldRun 113 = .ok (.lload 11, 2) := by decide +kernel
theorem dX7_toldRun_115 : decode cX7_toldRun 115 = .ok (.lcmp, 1) := by decide +kernel
theorem dX7_toldRun_116 : decode cX7_toldRun 116 = .ok (.ifCond .ge 15, 3) := by decide +kernel
theorem dX7_toldRun_119 : decode cX7_toldRun 119 = .ok (.aload_n 0, 1) := by decide +kernel
theorem dX7_toldRun_120 : decode cX7_toldRun 120 = .ok (.lload 11, 2) := by decide +kernel
theorem dX7_toldRun_122 : decode cX7_toldRun 122 = .ok (.invokevirtual 230, 3) := by decide +kernel
theorem dX7_toldRun_125 : decode cX7_toldRun 125 = .ok (.lload 9, 2) := by decide +kernel
theorem dX7_toldRun_127 : decode cX7_toldRun 127 = .ok (.lcmp, 1) := by decide +kernel
theorem dX7_toldRun_128 : decode cX7_toldRun 128 = .ok (.ifCond .ge 6, 3) := by decide +kernel
theorem dX7_toldRun_131 : decode cX7_toldRun 131 = .ok (.iload 6, 2) := by decide +kernel
theorem dX7_toldRun_133 : decode cX7_toldRun 133 = .ok (.ireturn, 1) := by decide +kernel
theorem dX7_toldRun_134 : decode cX7_toldRun 134 = .ok (.aload_n 0, 1) := by decide +kernel
theorem dX7_toldRun_135 : decode cX7_toldRun 135 = .ok (.dup, 1) := by decide +kernel
theorem dX7_toldRun_136 : decode cX7_toldRun 136 = .ok (.getfield 77, 3) := by decide +kernel
theorem dX7_toldRun_139 : decode cX7_toldRun 139 = .ok (.iconst 1, 1) := by decide +kernel
theorem dX7_toldRun_140 : decode cX7_toldRun 140 = .ok (.iadd, 1) := by decide +kernel
theorem dX7_toldRun_141 : decode cX7_toldRun 141 = .ok (.putfield 77, 3) := by decide +kernel
theorem dX7_toldRun_144 : decode cX7_toldRun 144 = .ok (.iload_n 2, 1) := by decide +kernel
theorem dX7_toldRun_145 : decode cX7_toldRun 145 = .ok (.ireturn, 1) := by decide +kernel
theorem dX7_redraw_0 : decode cX7_redraw 0 = .ok (.aload_n 0, 1) := by decide +kernel
theorem dX7_redraw_1 : decode cX7_redraw 1 = .ok (.iload_n 1, 1) := by decide +kernel
theorem dX7_redraw_2 : decode cX7_redraw 2 = .ok (.iload_n 2, 1) := by decide +kernel
theorem dX7_redraw_3 : decode cX7_redraw 3 = .ok (.invokevirtual 150, 3) := by decide +kernel
theorem dX7_redraw_6 : decode cX7_redraw 6 = .ok (.istore_n 3, 1) := by decide +kernel
theorem dX7_redraw_7 : decode cX7_redraw 7 = .ok (.iload_n 3, 1) := by decide +kernel
theorem dX7_redraw_8 : decode cX7_redraw 8 = .ok (.ifCond .ne 5, 3) := by decide +kernel
theorem dX7_redraw_11 : decode cX7_redraw 11 = .ok (.iload_n 1, 1) := by decide +kernel
theorem dX7_redraw_12 : decode cX7_redraw 12 = .ok (.ireturn, 1) := by decide +kernel
theorem dX7_redraw_13 : decode cX7_redraw 13 = .ok (.aload_n 0, 1) := by decide +kernel
theorem dX7_redraw_14 : decode cX7_redraw 14 = .ok (.iload_n 3, 1) := by decide +kernel
theorem dX7_redraw_15 : decode cX7_redraw 15 = .ok (.i2l, 1) := by decide +kernel
theorem dX7_redraw_16 : decode cX7_redraw 16 = .ok (.invokevirtual 230, 3) := by decide +kernel
theorem dX7_redraw_19 : decode cX7_redraw 19 = .ok (.lstore 4, 2) := by decide +kernel
theorem dX7_redraw_21 : decode cX7_redraw 21 = .ok (.iconst 0, 1) := by decide +kernel
theorem dX7_redraw_22 : decode cX7_redraw 22 = .ok (.istore 6, 2) := by decide +kernel
theorem dX7_redraw_24 : decode cX7_redraw 24 = .ok (.aload_n 0, 1) := by decide +kernel
theorem dX7_redraw_25 : decode cX7_redraw 25 = .ok (.getfield 13, 3) := by decide +kernel
theorem dX7_redraw_28 : decode cX7_redraw 28 = .ok (.aload_n 0, 1) := by decide +kernel
theorem dX7_redraw_29 : decode cX7_redraw 29 = .ok (.iload_n 1, 1) := by decide +kernel
theorem dX7_redraw_30 : decode cX7_redraw 30 = .ok (.iload_n 2, 1) := by decide +kernel
theorem dX7_redraw_31 : decode cX7_redraw 31 = .ok (.iconst 0, 1) := by decide +kernel
theorem dX7_redraw_32 : decode cX7_redraw 32 = .ok (.invokevirtual 122, 3) := by decide +kernel
theorem dX7_redraw_35 : decode cX7_redraw 35 = .ok (.iaload, 1) := by decide +kernel
theorem dX7_redraw_36 : decode cX7_redraw 36 = .ok (.i2l, 1) := by decide +kernel
theorem dX7_redraw_37 : decode cX7_redraw 37 = .ok (.lstore 7, 2) := by decide +kernel
theorem dX7_redraw_39 : decode cX7_redraw 39 = .ok (.lload 7, 2) := by decide +kernel
theorem dX7_redraw_41 : decode cX7_redraw 41 = .ok (.lload 4, 2) := by decide +kernel
theorem dX7_redraw_43 : decode cX7_redraw 43 = .ok (.lcmp, 1) := by decide +kernel
theorem dX7_redraw_44 : decode cX7_redraw 44 = .ok (.ifCond .gt 28, 3) := by decide +kernel
theorem dX7_redraw_47 : decode cX7_redraw 47 = .ok (.iinc 6 1, 3) := by decide +kernel
theorem dX7_redraw_50 : decode cX7_redraw 50 = .ok (.lload 7, 2) := by decide +kernel
theorem dX7_redraw_52 : decode cX7_redraw 52 = .ok (.aload_n 0, 1) := by decide +kernel
theorem dX7_redraw_53 : decode cX7_redraw 53 = .ok (.getfield 13, 3) := by decide +kernel
theorem dX7_redraw_56 : decode cX7_redraw 56 = .ok (.aload_n 0, 1) := by decide +kernel
theorem dX7_redraw_57 : decode cX7_redraw 57 = .ok (.iload_n 1, 1) := by decide +kernel
theorem dX7_redraw_58 : decode cX7_redraw 58 = .ok (.iload_n 2, 1) := by decide +kernel
theorem dX7_redraw_59 : decode cX7_redraw 59 = .ok (.iload 6, 2) := by decide +kernel
theorem dX7_redraw_61 : decode cX7_redraw 61 = .ok (.invokevirtual 122, 3) := by decide +kernel
theorem dX7_redraw_64 : decode cX7_redraw 64 = .ok (.iaload, 1) := by decide +kernel
theorem dX7_redraw_65 : decode cX7_redraw 65 = .ok (.i2l, 1) := by decide +kernel
theorem dX7_redraw_66 : decode cX7_redraw 66 = .ok (.ladd, 1) := by decide +kernel
theorem dX7_redraw_67 : decode cX7_redraw 67 = .ok (.lstore 7, 2) := by decide +kernel
theorem dX7_redraw_69 : decode cX7_redraw 69 = .ok (.goto (-30), 3) := by decide +kernel
theorem dX7_redraw_72 : decode cX7_redraw 72 = .ok (.aload_n 0, 1) := by decide +kernel
theorem dX7_redraw_73 : decode cX7_redraw 73 = .ok (.iload_n 1, 1) := by decide +kernel
theorem dX7_redraw_74 : decode cX7_redraw 74 = .ok (.iload_n 2, 1) := by decide +kernel
theorem dX7_redraw_75 : decode cX7_redraw 75 = .ok (.iload 6, 2) := by decide +kernel
theorem dX7_redraw_77 : decode cX7_redraw 77 = .ok (.invokevirtual 122, 3) := by decide +kernel
theorem dX7_redraw_80 : decode cX7_redraw 80 = .ok (.ireturn, 1) := by decide +kernel
theorem dX7_slice_0 : decode cX7_slice 0 = .ok (.aload_n 0, 1) := by decide +kernel
theorem dX7_slice_1 : decode cX7_slice 1 = .ok (.getfield 13, 3) := by decide +kernel
theorem dX7_slice_4 : decode cX7_slice 4 = .ok (.iload_n 1, 1) := by decide +kernel
theorem dX7_slice_5 : decode cX7_slice 5 = .ok (.iaload, 1) := by decide +kernel
theorem dX7_slice_6 : decode cX7_slice 6 = .ok (.ifCond .ne 5, 3) := by decide +kernel
theorem dX7_slice_9 : decode cX7_slice 9 = .ok (.iload_n 1, 1) := by decide +kernel
theorem dX7_slice_10 : decode cX7_slice 10 = .ok (.ireturn, 1) := by decide +kernel
theorem dX7_slice_11 : decode cX7_slice 11 = .ok (.iconst 1, 1) := by decide +kernel
theorem dX7_slice_12 : decode cX7_slice 12 = .ok (.aload_n 0, 1) := by decide +kernel
theorem dX7_slice_13 : decode cX7_slice 13 = .ok (.aload_n 0, 1) := by decide +kernel
theorem dX7_slice_14 : decode cX7_slice 14 = .ok (.getfield 13, 3) := by decide +kernel
theorem dX7_slice_17 : decode cX7_slice 17 = .ok (.iload_n 1, 1) := by decide +kernel
theorem dX7_slice_18 : decode cX7_slice 18 = .ok (.iaload, 1) := by decide +kernel
theorem dX7_slice_19 : decode cX7_slice 19 = .ok (.i2l, 1) := by decide +kernel
theorem dX7_slice_20 : decode cX7_slice 20 = .ok (.invokevirtual 230, 3) := by decide +kernel
theorem dX7_slice_23 : decode cX7_slice 23 = .ok (.l2i, 1) := by decide +kernel
theorem dX7_slice_24 : decode cX7_slice 24 = .ok (.iadd, 1) := by decide +kernel
theorem dX7_slice_25 : decode cX7_slice 25 = .ok (.istore_n 3, 1) := by decide +kernel
theorem dX7_slice_26 : decode cX7_slice 26 = .ok (.aload_n 0, 1) := by decide +kernel
theorem dX7_slice_27 : decode cX7_slice 27 = .ok (.aload_n 0, 1) := by decide +kernel
theorem dX7_slice_28 : decode cX7_slice 28 = .ok (.iload_n 1, 1) := by decide +kernel
theorem dX7_slice_29 : decode cX7_slice 29 = .ok (.iload_n 2, 1) := by decide +kernel
theorem dX7_slice_30 : decode cX7_slice 30 = .ok (.iload_n 3, 1) := by decide +kernel
theorem dX7_slice_31 : decode cX7_slice 31 = .ok (.invokevirtual 145, 3) := by decide +kernel
theorem dX7_slice_34 : decode cX7_slice 34 = .ok (.i2l, 1) := by decide +kernel
theorem dX7_slice_35 : decode cX7_slice 35 = .ok (.invokevirtual 230, 3) := by decide +kernel
theorem dX7_slice_38 : decode cX7_slice 38 = .ok (.lstore 4, 2) := by decide +kernel
theorem dX7_slice_40 : decode cX7_slice 40 = .ok (.iconst 0, 1) := by decide +kernel
theorem dX7_slice_41 : decode cX7_slice 41 = .ok (.istore 6, 2) := by decide +kernel
theorem dX7_slice_43 : decode cX7_slice 43 = .ok (.aload_n 0, 1) := by decide +kernel
theorem dX7_slice_44 : decode cX7_slice 44 = .ok (.getfield 13, 3) := by decide +kernel
theorem dX7_slice_47 : decode cX7_slice 47 = .ok (.aload_n 0, 1) := by decide +kernel
theorem dX7_slice_48 : decode cX7_slice 48 = .ok (.iload_n 1, 1) := by decide +kernel
theorem dX7_slice_49 : decode cX7_slice 49 = .ok (.iload_n 2, 1) := by decide +kernel
theorem dX7_slice_50 : decode cX7_slice 50 = .ok (.iload 6, 2) := by decide +kernel
theorem dX7_slice_52 : decode cX7_slice 52 = .ok (.invokevirtual 122, 3) := by decide +kernel
theorem dX7_slice_55 : decode cX7_slice 55 = .ok (.iaload, 1) := by decide +kernel
theorem dX7_slice_56 : decode cX7_slice 56 = .ok (.iload_n 3, 1) := by decide +kernel
theorem dX7_slice_57 : decode cX7_slice 57 = .ok (.if_icmp .lt 10, 3) := by decide +kernel
theorem dX7_slice_60 : decode cX7_slice 60 = .ok (.lload 4, 2) := by decide +kernel
theorem dX7_slice_62 : decode cX7_slice 62 = .ok (.lconst 0, 1) := by decide +kernel
theorem dX7_slice_63 : decode cX7_slice 63 = .ok (.lcmp, 1) := by decide +kernel
theorem dX7_slice_64 : decode cX7_slice 64 = .ok (.ifCond .le 36, 3) := by decide +kernel
theorem dX7_slice_67 : decode cX7_slice 67 = .ok (.lload 4, 2) := by decide +kernel
theorem dX7_slice_69 : decode cX7_slice 69 = .ok (.aload_n 0, 1) := by decide +kernel
theorem dX7_slice_70 : decode cX7_slice 70 = .ok (.getfield 13, 3) := by decide +kernel
theorem dX7_slice_73 : decode cX7_slice 73 = .ok (.aload_n 0, 1) := by decide +kernel
theorem dX7_slice_74 : decode cX7_slice 74 = .ok (.iload_n 1, 1) := by decide +kernel
theorem dX7_slice_75 : decode cX7_slice 75 = .ok (.iload_n 2, 1) := by decide +kernel
theorem dX7_slice_76 : decode cX7_slice 76 = .ok (.iload 6, 2) := by decide +kernel
theorem dX7_slice_78 : decode cX7_slice 78 = .ok (.invokevirtual 122, 3) := by decide +kernel
theorem dX7_slice_81 : decode cX7_slice 81 = .ok (.iaload, 1) := by decide +kernel
theorem dX7_slice_82 : decode cX7_slice 82 = .ok (.iload_n 3, 1) := by decide +kernel
theorem dX7_slice_83 : decode cX7_slice 83 = .ok (.if_icmp .lt 7, 3) := by decide +kernel
theorem dX7_slice_86 : decode cX7_slice 86 = .ok (.lconst 1, 1) := by decide +kernel
theorem dX7_slice_87 : decode cX7_slice 87 = .ok (.goto 4, 3) := by decide +kernel
theorem dX7_slice_90 : decode cX7_slice 90 = .ok (.lconst 0, 1) := by decide +kernel
theorem dX7_slice_91 : decode cX7_slice 91 = .ok (.lsub, 1) := by decide +kernel
theorem dX7_slice_92 : decode cX7_slice 92 = .ok (.lstore 4, 2) := by decide +kernel
theorem dX7_slice_94 : decode cX7_slice 94 = .ok (.iinc 6 1, 3) := by decide +kernel
theorem dX7_slice_97 : decode cX7_slice 97 = .ok (.goto (-54), 3) := by decide +kernel
theorem dX7_slice_100 : decode cX7_slice 100 = .ok (.aload_n 0, 1) := by decide +kernel
theorem dX7_slice_101 : decode cX7_slice 101 = .ok (.iload_n 1, 1) := by decide +kernel
theorem dX7_slice_102 : decode cX7_slice 102 = .ok (.iload_n 2, 1) := by decide +kernel
theorem dX7_slice_103 : decode cX7_slice 103 = .ok (.iload 6, 2) := by decide +kernel
theorem dX7_slice_105 : decode cX7_slice 105 = .ok (.invokevirtual 122, 3) := by decide +kernel
theorem dX7_slice_108 : decode cX7_slice 108 = .ok (.ireturn, 1) := by decide +kernel
theorem dX7_done_0 : decode cX7_done 0 = .ok (.iload_n 2, 1) := by decide +kernel
theorem dX7_done_1 : decode cX7_done 1 = .ok (.istore_n 3, 1) := by decide +kernel
theorem dX7_done_2 : decode cX7_done 2 = .ok (.iconst 1, 1) := by decide +kernel
theorem dX7_done_3 : decode cX7_done 3 = .ok (.istore 4, 2) := by decide +kernel
theorem dX7_done_5 : decode cX7_done 5 = .ok (.aload_n 0, 1) := by decide +kernel
theorem dX7_done_6 : decode cX7_done 6 = .ok (.getfield 57, 3) := by decide +kernel
theorem dX7_done_9 : decode cX7_done 9 = .ok (.iconst 0, 1) := by decide +kernel
theorem dX7_done_10 : decode cX7_done 10 = .ok (.iload_n 1, 1) := by decide +kernel
theorem dX7_done_11 : decode cX7_done 11 = .ok (.iastore, 1) := by decide +kernel
theorem dX7_done_12 : decode cX7_done 12 = .ok (.iload 4, 2) := by decide +kernel
theorem dX7_done_14 : decode cX7_done 14 = .ok (.ifCond .le 247, 3) := by decide +kernel
theorem dX7_done_17 : decode cX7_done 17 = .ok (.iinc 4 (-1), 3) := by decide +kernel
theorem dX7_done_20 : decode cX7_done 20 = .ok (.aload_n 0, 1) := by decide +kernel
theorem dX7_done_21 : decode cX7_done 21 = .ok (.getfield 57, 3) := by decide +kernel
theorem dX7_done_24 : decode cX7_done 24 = .ok (.iload 4, 2) := by decide +kernel
theorem dX7_done_26 : decode cX7_done 26 = .ok (.iaload, 1) := by decide +kernel
theorem dX7_done_27 : decode cX7_done 27 = .ok (.istore 5, 2) := by decide +kernel
theorem dX7_done_29 : decode cX7_done 29 = .ok (.aload_n 0, 1) := by decide +kernel
theorem dX7_done_30 : decode cX7_done 30 = .ok (.getfield 19, 3) := by decide +kernel
theorem dX7_done_33 : decode cX7_done 33 = .ok (.iload 5, 2) := by decide +kernel
theorem dX7_done_35 : decode cX7_done 35 = .ok (.iaload, 1) := by decide +kernel
theorem dX7_done_36 : decode cX7_done 36 = .ok (.istore 6, 2) := by decide +kernel
theorem dX7_done_38 : decode cX7_done 38 = .ok (.aload_n 0, 1) := by decide +kernel
theorem dX7_done_39 : decode cX7_done 39 = .ok (.getfield 16, 3) := by decide +kernel
theorem dX7_done_42 : decode cX7_done 42 = .ok (.iload 5, 2) := by decide +kernel
theorem dX7_done_44 : decode cX7_done 44 = .ok (.iaload, 1) := by decide +kernel
theorem dX7_done_45 : decode cX7_done 45 = .ok (.tableswitch 185 0 5 #[39, 50, 83, 106, 117, 128], 39) := by decide +kernel
theorem dX7_done_84 : decode cX7_done 84 = .ok (.aload_n 0, 1) := by decide +kernel
theorem dX7_done_85 : decode cX7_done 85 = .ok (.iload_n 3, 1) := by decide +kernel
theorem dX7_done_86 : decode cX7_done 86 = .ok (.iload 6, 2) := by decide +kernel
theorem dX7_done_88 : decode cX7_done 88 = .ok (.invokevirtual 234, 3) := by decide +kernel
theorem dX7_done_91 : decode cX7_done 91 = .ok (.istore_n 3, 1) := by decide +kernel
theorem dX7_done_92 : decode cX7_done 92 = .ok (.goto 166, 3) := by decide +kernel
theorem dX7_done_95 : decode cX7_done 95 = .ok (.aload_n 0, 1) := by decide +kernel
theorem dX7_done_96 : decode cX7_done 96 = .ok (.iload_n 3, 1) := by decide +kernel
theorem dX7_done_97 : decode cX7_done 97 = .ok (.aload_n 0, 1) := by decide +kernel
theorem dX7_done_98 : decode cX7_done 98 = .ok (.iload_n 3, 1) := by decide +kernel
theorem dX7_done_99 : decode cX7_done 99 = .ok (.iload 6, 2) := by decide +kernel
theorem dX7_done_101 : decode cX7_done 101 = .ok (.aload_n 0, 1) := by decide +kernel
theorem dX7_done_102 : decode cX7_done 102 = .ok (.ldc2_w 160, 3) := by decide +kernel
theorem dX7_done_105 : decode cX7_done 105 = .ok (.invokevirtual 230, 3) := by decide +kernel
theorem dX7_done_108 : decode cX7_done 108 = .ok (.lconst 0, 1) := by decide +kernel
theorem dX7_done_109 : decode cX7_done 109 = .ok (.lcmp, 1) := by decide +kernel
theorem dX7_done_110 : decode cX7_done 110 = .ok (.ifCond .ne 7, 3) := by decide +kernel
theorem dX7_done_113 : decode cX7_done 113 = .ok (.iconst 1, 1) := by decide +kernel
theorem dX7_done_114 : decode cX7_done 114 = .ok (.goto 4, 3) := by decide +kernel
theorem dX7_done_117 : decode cX7_done 117 = .ok (.iconst 0, 1) := by decide +kernel
theorem dX7_done_118 : decode cX7_done 118 = .ok (.invokevirtual 156, 3) := by decide +kernel
theorem dX7_done_121 : decode cX7_done 121 = .ok (.invokevirtual 237, 3) := by decide +kernel
theorem dX7_done_124 : decode cX7_done 124 = .ok (.istore_n 3, 1) := by decide +kernel
theorem dX7_done_125 : decode cX7_done 125 = .ok (.goto 133, 3) := by decide +kernel
theorem dX7_done_128 : decode cX7_done 128 = .ok (.aload_n 0, 1) := by decide +kernel
theorem dX7_done_129 : decode cX7_done 129 = .ok (.iload_n 3, 1) := by decide +kernel
theorem dX7_done_130 : decode cX7_done 130 = .ok (.aload_n 0, 1) := by decide +kernel
theorem dX7_done_131 : decode cX7_done 131 = .ok (.iload_n 3, 1) := by decide +kernel
theorem dX7_done_132 : decode cX7_done 132 = .ok (.iload 6, 2) := by decide +kernel
theorem dX7_done_134 : decode cX7_done 134 = .ok (.aload_n 0, 1) := by decide +kernel
theorem dX7_done_135 : decode cX7_done 135 = .ok (.getfield 22, 3) := by decide +kernel
theorem dX7_done_138 : decode cX7_done 138 = .ok (.iload 5, 2) := by decide +kernel
