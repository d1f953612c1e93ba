theorem dX3_init_19 : decode cX3_init 19 = .ok (.bipush 64, 2) := by decide +kernel
theorem dX3_init_21 : decode cX3_init 21 = .ok (.newarray .int, 2) := by decide +kernel
theorem dX3_init_23 : decode cX3_init 23 = .ok (.putfield 18, 3) := by decide +kernel
theorem dX3_init_26 : decode cX3_init 26 = .ok (.aload_n 0, 1) := by decide +kernel
theorem dX3_init_27 : decode cX3_init 27 = .ok (.bipush 16, 2) := by decide +kernel
theorem dX3_init_29 : decode cX3_init 29 = .ok (.newarray .int, 2) := by decide +kernel
theorem dX3_init_31 : decode cX3_init 31 = .ok (.putfield 21, 3) := by decide +kernel
theorem dX3_init_34 : decode cX3_init 34 = .ok (.return_, 1) := by decide +kernel
theorem dX3_canBe_0 : decode cX3_canBe 0 = .ok (.iload_n 0, 1) := by decide +kernel
theorem dX3_canBe_1 : decode cX3_canBe 1 = .ok (.ifCond .eq 35, 3) := by decide +kernel
theorem dX3_canBe_4 : decode cX3_canBe 4 = .ok (.iload_n 0, 1) := by decide +kernel
theorem dX3_canBe_5 : decode cX3_canBe 5 = .ok (.invokestatic 24, 3) := by decide +kernel
theorem dX3_canBe_8 : decode cX3_canBe 8 = .ok (.ifCond .eq 28, 3) := by decide +kernel
theorem dX3_canBe_11 : decode cX3_canBe 11 = .ok (.iload_n 1, 1) := by decide +kernel
theorem dX3_canBe_12 : decode cX3_canBe 12 = .ok (.invokestatic 24, 3) := by decide +kernel
theorem dX3_canBe_15 : decode cX3_canBe 15 = .ok (.ifCond .eq 21, 3) := by decide +kernel
theorem dX3_canBe_18 : decode cX3_canBe 18 = .ok (.iload_n 2, 1) := by decide +kernel
theorem dX3_canBe_19 : decode cX3_canBe 19 = .ok (.invokestatic 24, 3) := by decide +kernel
theorem dX3_canBe_22 : decode cX3_canBe 22 = .ok (.ifCond .eq 14, 3) := by decide +kernel
theorem dX3_canBe_25 : decode cX3_canBe 25 = .ok (.iload_n 3, 1) := by decide +kernel
theorem dX3_canBe_26 : decode cX3_canBe 26 = .ok (.invokestatic 24, 3) := by decide +kernel
theorem dX3_canBe_29 : decode cX3_canBe 29 = .ok (.ifCond .eq 7, 3) := by decide +kernel
theorem dX3_canBe_32 : decode cX3_canBe 32 = .ok (.iconst 1, 1) := by decide +kernel
theorem dX3_canBe_33 : decode cX3_canBe 33 = .ok (.goto 4, 3) := by decide +kernel
theorem dX3_canBe_36 : decode cX3_canBe 36 = .ok (.iconst 0, 1) := by decide +kernel
theorem dX3_canBe_37 : decode cX3_canBe 37 = .ok (.istore 4, 2) := by decide +kernel
theorem dX3_canBe_39 : decode cX3_canBe 39 = .ok (.iload_n 1, 1) := by decide +kernel
theorem dX3_canBe_40 : decode cX3_canBe 40 = .ok (.ifCond .ne 7, 3) := by decide +kernel
theorem dX3_canBe_43 : decode cX3_canBe 43 = .ok (.iload_n 2, 1) := by decide +kernel
theorem dX3_canBe_44 : decode cX3_canBe 44 = .ok (.ifCond .ne 15, 3) := by decide +kernel
theorem dX3_canBe_47 : decode cX3_canBe 47 = .ok (.iload_n 2, 1) := by decide +kernel
theorem dX3_canBe_48 : decode cX3_canBe 48 = .ok (.ifCond .ne 7, 3) := by decide +kernel
theorem dX3_canBe_51 : decode cX3_canBe 51 = .ok (.iload_n 3, 1) := by decide +kernel
theorem dX3_canBe_52 : decode cX3_canBe 52 = .ok (.ifCond .ne 7, 3) := by decide +kernel
theorem dX3_canBe_55 : decode cX3_canBe 55 = .ok (.iconst 1, 1) := by decide +kernel
theorem dX3_canBe_56 : decode cX3_canBe 56 = .ok (.goto 4, 3) := by decide +kernel
theorem dX3_canBe_59 : decode cX3_canBe 59 = .ok (.iconst 0, 1) := by decide +kernel
theorem dX3_canBe_60 : decode cX3_canBe 60 = .ok (.istore 5, 2) := by decide +kernel
theorem dX3_canBe_62 : decode cX3_canBe 62 = .ok (.iload 4, 2) := by decide +kernel
theorem dX3_canBe_64 : decode cX3_canBe 64 = .ok (.ifCond .eq 36, 3) := by decide +kernel
theorem dX3_canBe_67 : decode cX3_canBe 67 = .ok (.iload 5, 2) := by decide +kernel
theorem dX3_canBe_69 : decode cX3_canBe 69 = .ok (.ifCond .eq 31, 3) := by decide +kernel
theorem dX3_canBe_72 : decode cX3_canBe 72 = .ok (.iload_n 0, 1) := by decide +kernel
theorem dX3_canBe_73 : decode cX3_canBe 73 = .ok (.iload_n 1, 1) := by decide +kernel
theorem dX3_canBe_74 : decode cX3_canBe 74 = .ok (.iconst 1, 1) := by decide +kernel
theorem dX3_canBe_75 : decode cX3_canBe 75 = .ok (.invokestatic 28, 3) := by decide +kernel
theorem dX3_canBe_78 : decode cX3_canBe 78 = .ok (.imul, 1) := by decide +kernel
theorem dX3_canBe_79 : decode cX3_canBe 79 = .ok (.iload_n 2, 1) := by decide +kernel
theorem dX3_canBe_80 : decode cX3_canBe 80 = .ok (.iconst 1, 1) := by decide +kernel
theorem dX3_canBe_81 : decode cX3_canBe 81 = .ok (.invokestatic 28, 3) := by decide +kernel
theorem dX3_canBe_84 : decode cX3_canBe 84 = .ok (.imul, 1) := by decide +kernel
theorem dX3_canBe_85 : decode cX3_canBe 85 = .ok (.iload_n 3, 1) := by decide +kernel
theorem dX3_canBe_86 : decode cX3_canBe 86 = .ok (.iconst 1, 1) := by decide +kernel
theorem dX3_canBe_87 : decode cX3_canBe 87 = .ok (.invokestatic 28, 3) := by decide +kernel
theorem dX3_canBe_90 : decode cX3_canBe 90 = .ok (.imul, 1) := by decide +kernel
theorem dX3_canBe_91 : decode cX3_canBe 91 = .ok (.bipush 16, 2) := by decide +kernel
theorem dX3_canBe_93 : decode cX3_canBe 93 = .ok (.if_icmp .gt 7, 3) := by decide +kernel
theorem dX3_canBe_96 : decode cX3_canBe 96 = .ok (.iconst 1, 1) := by decide +kernel
theorem dX3_canBe_97 : decode cX3_canBe 97 = .ok (.goto 4, 3) := by decide +kernel
theorem dX3_canBe_100 : decode cX3_canBe 100 = .ok (.iconst 0, 1) := by decide +kernel
theorem dX3_canBe_101 : decode cX3_canBe 101 = .ok (.ireturn, 1) := by decide +kernel
theorem dX3_isSize_0 : decode cX3_isSize 0 = .ok (.iload_n 0, 1) := by decide +kernel
theorem dX3_isSize_1 : decode cX3_isSize 1 = .ok (.ifCond .eq 14, 3) := by decide +kernel
theorem dX3_isSize_4 : decode cX3_isSize 4 = .ok (.iload_n 0, 1) := by decide +kernel
theorem dX3_isSize_5 : decode cX3_isSize 5 = .ok (.iconst 2, 1) := by decide +kernel
theorem dX3_isSize_6 : decode cX3_isSize 6 = .ok (.if_icmp .lt 13, 3) := by decide +kernel
theorem dX3_isSize_9 : decode cX3_isSize 9 = .ok (.iload_n 0, 1) := by decide +kernel
theorem dX3_isSize_10 : decode cX3_isSize 10 = .ok (.bipush 6, 2) := by decide +kernel
theorem dX3_isSize_12 : decode cX3_isSize 12 = .ok (.if_icmp .gt 7, 3) := by decide +kernel
theorem dX3_isSize_15 : decode cX3_isSize 15 = .ok (.iconst 1, 1) := by decide +kernel
theorem dX3_isSize_16 : decode cX3_isSize 16 = .ok (.goto 4, 3) := by decide +kernel
theorem dX3_isSize_19 : decode cX3_isSize 19 = .ok (.iconst 0, 1) := by decide +kernel
theorem dX3_isSize_20 : decode cX3_isSize 20 = .ok (.ireturn, 1) := by decide +kernel
theorem dX3_lay_0 : decode cX3_lay 0 = .ok (.aload_n 0, 1) := by decide +kernel
theorem dX3_lay_1 : decode cX3_lay 1 = .ok (.getfield 9, 3) := by decide +kernel
theorem dX3_lay_4 : decode cX3_lay 4 = .ok (.iconst 0, 1) := by decide +kernel
theorem dX3_lay_5 : decode cX3_lay 5 = .ok (.iload_n 1, 1) := by decide +kernel
theorem dX3_lay_6 : decode cX3_lay 6 = .ok (.iastore, 1) := by decide +kernel
theorem dX3_lay_7 : decode cX3_lay 7 = .ok (.aload_n 0, 1) := by decide +kernel
theorem dX3_lay_8 : decode cX3_lay 8 = .ok (.getfield 9, 3) := by decide +kernel
theorem dX3_lay_11 : decode cX3_lay 11 = .ok (.iconst 1, 1) := by decide +kernel
theorem dX3_lay_12 : decode cX3_lay 12 = .ok (.iload_n 2, 1) := by decide +kernel
theorem dX3_lay_13 : decode cX3_lay 13 = .ok (.iastore, 1) := by decide +kernel
theorem dX3_lay_14 : decode cX3_lay 14 = .ok (.aload_n 0, 1) := by decide +kernel
theorem dX3_lay_15 : decode cX3_lay 15 = .ok (.getfield 9, 3) := by decide +kernel
theorem dX3_lay_18 : decode cX3_lay 18 = .ok (.iconst 2, 1) := by decide +kernel
theorem dX3_lay_19 : decode cX3_lay 19 = .ok (.iload_n 3, 1) := by decide +kernel
theorem dX3_lay_20 : decode cX3_lay 20 = .ok (.iastore, 1) := by decide +kernel
theorem dX3_lay_21 : decode cX3_lay 21 = .ok (.aload_n 0, 1) := by decide +kernel
theorem dX3_lay_22 : decode cX3_lay 22 = .ok (.getfield 9, 3) := by decide +kernel
theorem dX3_lay_25 : decode cX3_lay 25 = .ok (.iconst 3, 1) := by decide +kernel
theorem dX3_lay_26 : decode cX3_lay 26 = .ok (.iload 4, 2) := by decide +kernel
theorem dX3_lay_28 : decode cX3_lay 28 = .ok (.iastore, 1) := by decide +kernel
theorem dX3_lay_29 : decode cX3_lay 29 = .ok (.aload_n 0, 1) := by decide +kernel
theorem dX3_lay_30 : decode cX3_lay 30 = .ok (.iconst 0, 1) := by decide +kernel
theorem dX3_lay_31 : decode cX3_lay 31 = .ok (.putfield 34, 3) := by decide +kernel
theorem dX3_lay_34 : decode cX3_lay 34 = .ok (.iconst 1, 1) := by decide +kernel
theorem dX3_lay_35 : decode cX3_lay 35 = .ok (.istore 5, 2) := by decide +kernel
theorem dX3_lay_37 : decode cX3_lay 37 = .ok (.iconst 3, 1) := by decide +kernel
theorem dX3_lay_38 : decode cX3_lay 38 = .ok (.istore 6, 2) := by decide +kernel
theorem dX3_lay_40 : decode cX3_lay 40 = .ok (.iload 6, 2) := by decide +kernel
theorem dX3_lay_42 : decode cX3_lay 42 = .ok (.ifCond .lt 98, 3) := by decide +kernel
theorem dX3_lay_45 : decode cX3_lay 45 = .ok (.aload_n 0, 1) := by decide +kernel
theorem dX3_lay_46 : decode cX3_lay 46 = .ok (.getfield 9, 3) := by decide +kernel
theorem dX3_lay_49 : decode cX3_lay 49 = .ok (.iload 6, 2) := by decide +kernel
theorem dX3_lay_51 : decode cX3_lay 51 = .ok (.iaload, 1) := by decide +kernel
theorem dX3_lay_52 : decode cX3_lay 52 = .ok (.iconst 1, 1) := by decide +kernel
theorem dX3_lay_53 : decode cX3_lay 53 = .ok (.invokestatic 28, 3) := by decide +kernel
theorem dX3_lay_56 : decode cX3_lay 56 = .ok (.istore 7, 2) := by decide +kernel
theorem dX3_lay_58 : decode cX3_lay 58 = .ok (.aload_n 0, 1) := by decide +kernel
theorem dX3_lay_59 : decode cX3_lay 59 = .ok (.getfield 15, 3) := by decide +kernel
theorem dX3_lay_62 : decode cX3_lay 62 = .ok (.iload 6, 2) := by decide +kernel
theorem dX3_lay_64 : decode cX3_lay 64 = .ok (.iload 5, 2) := by decide +kernel
theorem dX3_lay_66 : decode cX3_lay 66 = .ok (.iastore, 1) := by decide +kernel
theorem dX3_lay_67 : decode cX3_lay 67 = .ok (.iconst 0, 1) := by decide +kernel
theorem dX3_lay_68 : decode cX3_lay 68 = .ok (.istore 8, 2) := by decide +kernel
theorem dX3_lay_70 : decode cX3_lay 70 = .ok (.iload 8, 2) := by decide +kernel
theorem dX3_lay_72 : decode cX3_lay 72 = .ok (.bipush 16, 2) := by decide +kernel
theorem dX3_lay_74 : decode cX3_lay 74 = .ok (.if_icmp .ge 29, 3) := by decide +kernel
theorem dX3_lay_77 : decode cX3_lay 77 = .ok (.aload_n 0, 1) := by decide +kernel
theorem dX3_lay_78 : decode cX3_lay 78 = .ok (.getfield 18, 3) := by decide +kernel
theorem dX3_lay_81 : decode cX3_lay 81 = .ok (.iload 8, 2) := by decide +kernel
theorem dX3_lay_83 : decode cX3_lay 83 = .ok (.iconst 4, 1) := by decide +kernel
theorem dX3_lay_84 : decode cX3_lay 84 = .ok (.imul, 1) := by decide +kernel
theorem dX3_lay_85 : decode cX3_lay 85 = .ok (.iload 6, 2) := by decide +kernel
theorem dX3_lay_87 : decode cX3_lay 87 = .ok (.iadd, 1) := by decide +kernel
theorem dX3_lay_88 : decode cX3_lay 88 = .ok (.iload 8, 2) := by decide +kernel
theorem dX3_lay_90 : decode cX3_lay 90 = .ok (.iload 5, 2) := by decide +kernel
theorem dX3_lay_92 : decode cX3_lay 92 = .ok (.idiv, 1) := by decide +kernel
theorem dX3_lay_93 : decode cX3_lay 93 = .ok (.iload 7, 2) := by decide +kernel
theorem dX3_lay_95 : decode cX3_lay 95 = .ok (.irem, 1) := by decide +kernel
theorem dX3_lay_96 : decode cX3_lay 96 = .ok (.iastore, 1) := by decide +kernel
theorem dX3_lay_97 : decode cX3_lay 97 = .ok (.iinc 8 1, 3) := by decide +kernel
theorem dX3_lay_100 : decode cX3_lay 100 = .ok (.goto (-30), 3) := by decide +kernel
theorem dX3_lay_103 : decode cX3_lay 103 = .ok (.iload 5, 2) := by decide +kernel
theorem dX3_lay_105 : decode cX3_lay 105 = .ok (.iload 7, 2) := by decide +kernel
theorem dX3_lay_107 : decode cX3_lay 107 = .ok (.imul, 1) := by decide +kernel
theorem dX3_lay_108 : decode cX3_lay 108 = .ok (.istore 5, 2) := by decide +kernel
theorem dX3_lay_110 : decode cX3_lay 110 = .ok (.aload_n 0, 1) := by decide +kernel
theorem dX3_lay_111 : decode cX3_lay 111 = .ok (.dup, 1) := by decide +kernel
theorem dX3_lay_112 : decode cX3_lay 112 = .ok (.getfield 34, 3) := by decide +kernel
theorem dX3_lay_115 : decode cX3_lay 115 = .ok (.aload_n 0, 1) := by decide +kernel
theorem dX3_lay_116 : decode cX3_lay 116 = .ok (.getfield 9, 3) := by decide +kernel
theorem dX3_lay_119 : decode cX3_lay 119 = .ok (.iload 6, 2) := by decide +kernel
theorem dX3_lay_121 : decode cX3_lay 121 = .ok (.iaload, 1) := by decide +kernel
theorem dX3_lay_122 : decode cX3_lay 122 = .ok (.ifCond .le 7, 3) := by decide +kernel
theorem dX3_lay_125 : decode cX3_lay 125 = .ok (.iconst 1, 1) := by decide +kernel
theorem dX3_lay_126 : decode cX3_lay 126 = .ok (.goto 4, 3) := by decide +kernel
theorem dX3_lay_129 : decode cX3_lay 129 = .ok (.iconst 0, 1) := by decide +kernel
theorem dX3_lay_130 : decode cX3_lay 130 = .ok (.iadd, 1) := by decide +kernel
theorem dX3_lay_131 : decode cX3_lay 131 = .ok (.putfield 34, 3) := by decide +kernel
theorem dX3_lay_134 : decode cX3_lay 134 = .ok (.iinc 6 (-1), 3) := by decide +kernel
theorem dX3_lay_137 : decode cX3_lay 137 = .ok (.goto (-97), 3) := by decide +kernel
theorem dX3_lay_140 : decode cX3_lay 140 = .ok (.aload_n 0, 1) := by decide +kernel
theorem dX3_lay_141 : decode cX3_lay 141 = .ok (.iload 5, 2) := by decide +kernel
theorem dX3_lay_143 : decode cX3_lay 143 = .ok (.putfield 38, 3) := by decide +kernel
theorem dX3_lay_146 : decode cX3_lay 146 = .ok (.aload_n 0, 1) := by decide +kernel
theorem dX3_lay_147 : decode cX3_lay 147 = .ok (.getfield 21, 3) := by decide +kernel
theorem dX3_lay_150 : decode cX3_lay 150 = .ok (.iconst 1, 1) := by decide +kernel
theorem dX3_lay_151 : decode cX3_lay 151 = .ok (.invokestatic 41, 3) := by decide +kernel
theorem dX3_lay_154 : decode cX3_lay 154 = .ok (.return_, 1) := by decide +kernel
theorem dX3_isState_0 : decode cX3_isState 0 = .ok (.iload_n 1, 1) := by decide +kernel
theorem dX3_isState_1 : decode cX3_isState 1 = .ok (.ifCond .lt 15, 3) := by decide +kernel
theorem dX3_isState_4 : decode cX3_isState 4 = .ok (.iload_n 1, 1) := by decide +kernel
theorem dX3_isState_5 : decode cX3_isState 5 = .ok (.aload_n 0, 1) := by decide +kernel
theorem dX3_isState_6 : decode cX3_isState 6 = .ok (.getfield 38, 3) := by decide +kernel
theorem dX3_isState_9 : decode cX3_isState 9 = .ok (.if_icmp .ge 7, 3) := by decide +kernel
theorem dX3_isState_12 : decode cX3_isState 12 = .ok (.iconst 1, 1) := by decide +kernel
theorem dX3_isState_13 : decode cX3_isState 13 = .ok (.goto 4, 3) := by decide +kernel
theorem dX3_isState_16 : decode cX3_isState 16 = .ok (.iconst 0, 1) := by decide +kernel
theorem dX3_isState_17 : decode cX3_isState 17 = .ok (.ireturn, 1) := by decide +kernel
theorem dX3_isPlace_0 : decode cX3_isPlace 0 = .ok (.iload_n 1, 1) := by decide +kernel
theorem dX3_isPlace_1 : decode cX3_isPlace 1 = .ok (.ifCond .lt 15, 3) := by decide +kernel
theorem dX3_isPlace_4 : decode cX3_isPlace 4 = .ok (.iload_n 1, 1) := by decide +kernel
theorem dX3_isPlace_5 : decode cX3_isPlace 5 = .ok (.aload_n 0, 1) := by decide +kernel
theorem dX3_isPlace_6 : decode cX3_isPlace 6 = .ok (.getfield 34, 3) := by decide +kernel
theorem dX3_isPlace_9 : decode cX3_isPlace 9 = .ok (.if_icmp .ge 7, 3) := by decide +kernel
theorem dX3_isPlace_12 : decode cX3_isPlace 12 = .ok (.iconst 1, 1) := by decide +kernel
theorem dX3_isPlace_13 : decode cX3_isPlace 13 = .ok (.goto 4, 3) := by decide +kernel
theorem dX3_isPlace_16 : decode cX3_isPlace 16 = .ok (.iconst 0, 1) := by decide +kernel
theorem dX3_isPlace_17 : decode cX3_isPlace 17 = .ok (.ireturn, 1) := by decide +kernel
theorem dX3_hasValue_0 : decode cX3_hasValue 0 = .ok (.aload_n 0, 1) := by decide +kernel
theorem dX3_hasValue_1 : decode cX3_hasValue 1 = .ok (.iload_n 1, 1) := by decide +kernel
theorem dX3_hasValue_2 : decode cX3_hasValue 2 = .ok (.invokevirtual 47, 3) := by decide +kernel
theorem dX3_hasValue_5 : decode cX3_hasValue 5 = .ok (.ifCond .eq 17, 3) := by decide +kernel
theorem dX3_hasValue_8 : decode cX3_hasValue 8 = .ok (.iload_n 2, 1) := by decide +kernel
theorem dX3_hasValue_9 : decode cX3_hasValue 9 = .ok (.ifCond .lt 17, 3) := by decide +kernel
theorem dX3_hasValue_12 : decode cX3_hasValue 12 = .ok (.iload_n 2, 1) := by decide +kernel
theorem dX3_hasValue_13 : decode cX3_hasValue 13 = .ok (.aload_n 0, 1) := by decide +kernel
theorem dX3_hasValue_14 : decode cX3_hasValue 14 = .ok (.getfield 9, 3) := by decide +kernel
theorem dX3_hasValue_17 : decode cX3_hasValue 17 = .ok (.iload_n 1, 1) := by decide +kernel
theorem dX3_hasValue_18 : decode cX3_hasValue 18 = .ok (.iaload, 1) := by decide +kernel
theorem dX3_hasValue_19 : decode cX3_hasValue 19 = .ok (.if_icmp .ge 7, 3) := by decide +kernel
theorem dX3_hasValue_22 : decode cX3_hasValue 22 = .ok (.iconst 1, 1) := by decide +kernel
theorem dX3_hasValue_23 : decode cX3_hasValue 23 = .ok (.goto 4, 3) := by decide +kernel
theorem dX3_hasValue_26 : decode cX3_hasValue 26 = .ok (.iconst 0, 1) := by decide +kernel
theorem dX3_hasValue_27 : decode cX3_hasValue 27 = .ok (.ireturn, 1) := by decide +kernel
theorem dX3_part_0 : decode cX3_part 0 = .ok (.aload_n 0, 1) := by decide +kernel
theorem dX3_part_1 : decode cX3_part 1 = .ok (.iload_n 1, 1) := by decide +kernel
theorem dX3_part_2 : decode cX3_part 2 = .ok (.invokevirtual 47, 3) := by decide +kernel
theorem dX3_part_5 : decode cX3_part 5 = .ok (.ifCond .eq 14, 3) := by decide +kernel
theorem dX3_part_8 : decode cX3_part 8 = .ok (.iload_n 2, 1) := by decide +kernel
theorem dX3_part_9 : decode cX3_part 9 = .ok (.aload_n 0, 1) := by decide +kernel
theorem dX3_part_10 : decode cX3_part 10 = .ok (.getfield 15, 3) := by decide +kernel
theorem dX3_part_13 : decode cX3_part 13 = .ok (.iload_n 1, 1) := by decide +kernel
theorem dX3_part_14 : decode cX3_part 14 = .ok (.iaload, 1) := by decide +kernel
theorem dX3_part_15 : decode cX3_part 15 = .ok (.imul, 1) := by decide +kernel
theorem dX3_part_16 : decode cX3_part 16 = .ok (.goto 4, 3) := by decide +kernel
theorem dX3_part_19 : decode cX3_part 19 = .ok (.iconst 0, 1) := by decide +kernel
theorem dX3_part_20 : decode cX3_part 20 = .ok (.ireturn, 1) := by decide +kernel
theorem dX3_valueAt_0 : decode cX3_valueAt 0 = .ok (.aload_n 0, 1) := by decide +kernel
theorem dX3_valueAt_1 : decode cX3_valueAt 1 = .ok (.getfield 18, 3) := by decide +kernel
theorem dX3_valueAt_4 : decode cX3_valueAt 4 = .ok (.iload_n 1, 1) := by decide +kernel
theorem dX3_valueAt_5 : decode cX3_valueAt 5 = .ok (.iconst 4, 1) := by decide +kernel
theorem dX3_valueAt_6 : decode cX3_valueAt 6 = .ok (.imul, 1) := by decide +kernel
theorem dX3_valueAt_7 : decode cX3_valueAt 7 = .ok (.iload_n 2, 1) := by decide +kernel
theorem dX3_valueAt_8 : decode cX3_valueAt 8 = .ok (.iadd, 1) := by decide +kernel
theorem dX3_valueAt_9 : decode cX3_valueAt 9 = .ok (.iaload, 1) := by decide +kernel
theorem dX3_valueAt_10 : decode cX3_valueAt 10 = .ok (.ireturn, 1) := by decide +kernel
theorem dX3_inLine_0 : decode cX3_inLine 0 = .ok (.iload_n 1, 1) := by decide +kernel
theorem dX3_inLine_1 : decode cX3_inLine 1 = .ok (.iload_n 3, 1) := by decide +kernel
theorem dX3_inLine_2 : decode cX3_inLine 2 = .ok (.aload_n 0, 1) := by decide +kernel
theorem dX3_inLine_3 : decode cX3_inLine 3 = .ok (.iload_n 1, 1) := by decide +kernel
theorem dX3_inLine_4 : decode cX3_inLine 4 = .ok (.iload_n 2, 1) := by decide +kernel
theorem dX3_inLine_5 : decode cX3_inLine 5 = .ok (.invokevirtual 50, 3) := by decide +kernel
theorem dX3_inLine_8 : decode cX3_inLine 8 = .ok (.isub, 1) := by decide +kernel
theorem dX3_inLine_9 : decode cX3_inLine 9 = .ok (.aload_n 0, 1) := by decide +kernel
theorem dX3_inLine_10 : decode cX3_inLine 10 = .ok (.getfield 15, 3) := by decide +kernel
theorem dX3_inLine_13 : decode cX3_inLine 13 = .ok (.iload_n 2, 1) := by decide +kernel
theorem dX3_inLine_14 : decode cX3_inLine 14 = .ok (.iaload, 1) := by decide +kernel
theorem dX3_inLine_15 : decode cX3_inLine 15 = .ok (.imul, 1) := by decide +kernel
theorem dX3_inLine_16 : decode cX3_inLine 16 = .ok (.iadd, 1) := by decide +kernel
theorem dX3_inLine_17 : decode cX3_inLine 17 = .ok (.ireturn, 1) := by decide +kernel
theorem dX3_next_0 : decode cX3_next 0 = .ok (.aload_n 0, 1) := by decide +kernel
theorem dX3_next_1 : decode cX3_next 1 = .ok (.iload_n 1, 1) := by decide +kernel
theorem dX3_next_2 : decode cX3_next 2 = .ok (.iload_n 2, 1) := by decide +kernel
theorem dX3_next_3 : decode cX3_next 3 = .ok (.invokevirtual 50, 3) := by decide +kernel
theorem dX3_next_6 : decode cX3_next 6 = .ok (.iconst 1, 1) := by decide +kernel
theorem dX3_next_7 : decode cX3_next 7 = .ok (.iadd, 1) := by decide +kernel
theorem dX3_next_8 : decode cX3_next 8 = .ok (.istore_n 3, 1) := by decide +kernel
theorem dX3_next_9 : decode cX3_next 9 = .ok (.aload_n 0, 1) := by decide +kernel
theorem dX3_next_10 : decode cX3_next 10 = .ok (.iload_n 1, 1) := by decide +kernel
theorem dX3_next_11 : decode cX3_next 11 = .ok (.iload_n 2, 1) := by decide +kernel
theorem dX3_next_12 : decode cX3_next 12 = .ok (.iload_n 3, 1) := by decide +kernel
theorem dX3_next_13 : decode cX3_next 13 = .ok (.aload_n 0, 1) := by decide +kernel
theorem dX3_next_14 : decode cX3_next 14 = .ok (.getfield 9, 3) := by decide +kernel
theorem dX3_next_17 : decode cX3_next 17 = .ok (.iload_n 2, 1) := by decide +kernel
theorem dX3_next_18 : decode cX3_next 18 = .ok (.iaload, 1) := by decide +kernel
theorem dX3_next_19 : decode cX3_next 19 = .ok (.if_icmp .ge 7, 3) := by decide +kernel
theorem dX3_next_22 : decode cX3_next 22 = .ok (.iload_n 3, 1) := by decide +kernel
theorem dX3_next_23 : decode cX3_next 23 = .ok (.goto 4, 3) := by decide +kernel
theorem dX3_next_26 : decode cX3_next 26 = .ok (.iconst 0, 1) := by decide +kernel
theorem dX3_next_27 : decode cX3_next 27 = .ok (.invokevirtual 53, 3) := by decide +kernel
theorem dX3_next_30 : decode cX3_next 30 = .ok (.ireturn, 1) := by decide +kernel
theorem dX3_before_0 : decode cX3_before 0 = .ok (.aload_n 0, 1) := by decide +kernel
theorem dX3_before_1 : decode cX3_before 1 = .ok (.iload_n 1, 1) := by decide +kernel
theorem dX3_before_2 : decode cX3_before 2 = .ok (.iload_n 2, 1) := by decide +kernel
theorem dX3_before_3 : decode cX3_before 3 = .ok (.invokevirtual 50, 3) := by decide +kernel
theorem dX3_before_6 : decode cX3_before 6 = .ok (.iconst 1, 1) := by decide +kernel
theorem dX3_before_7 : decode cX3_before 7 = .ok (.isub, 1) := by decide +kernel
theorem dX3_before_8 : decode cX3_before 8 = .ok (.istore_n 3, 1) := by decide +kernel
theorem dX3_before_9 : decode cX3_before 9 = .ok (.aload_n 0, 1) := by decide +kernel
theorem dX3_before_10 : decode cX3_before 10 = .ok (.iload_n 1, 1) := by decide +kernel
theorem dX3_before_11 : decode cX3_before 11 = .ok (.iload_n 2, 1) := by decide +kernel
theorem dX3_before_12 : decode cX3_before 12 = .ok (.iload_n 3, 1) := by decide +kernel
theorem dX3_before_13 : decode cX3_before 13 = .ok (.ifCond .lt 7, 3) := by decide +kernel
theorem dX3_before_16 : decode cX3_before 16 = .ok (.iload_n 3, 1) := by decide +kernel
theorem dX3_before_17 : decode cX3_before 17 = .ok (.goto 11, 3) := by decide +kernel
theorem dX3_before_20 : decode cX3_before 20 = .ok (.aload_n 0, 1) := by decide +kernel
theorem dX3_before_21 : decode cX3_before 21 = .ok (.getfield 9, 3) := by decide +kernel
theorem dX3_before_24 : decode cX3_before 24 = .ok (.iload_n 2, 1) := by decide +kernel
theorem dX3_before_25 : decode cX3_before 25 = .ok (.iaload, 1) := by decide +kernel
theorem dX3_before_26 : decode cX3_before 26 = .ok (.iconst 1, 1) := by decide +kernel
theorem dX3_before_27 : decode cX3_before 27 = .ok (.isub, 1) := by decide +kernel
theorem dX3_before_28 : decode cX3_before 28 = .ok (.invokevirtual 53, 3) := by decide +kernel
theorem dX3_before_31 : decode cX3_before 31 = .ok (.ireturn, 1) := by decide +kernel
theorem dX3_exchanged_0 : decode cX3_exchanged 0 = .ok (.aload_n 0, 1) := by decide +kernel
theorem dX3_exchanged_1 : decode cX3_exchanged 1 = .ok (.iload_n 1, 1) := by decide +kernel
theorem dX3_exchanged_2 : decode cX3_exchanged 2 = .ok (.iload_n 3, 1) := by decide +kernel
theorem dX3_exchanged_3 : decode cX3_exchanged 3 = .ok (.invokevirtual 50, 3) := by decide +kernel
theorem dX3_exchanged_6 : decode cX3_exchanged 6 = .ok (.aload_n 0, 1) := by decide +kernel
theorem dX3_exchanged_7 : decode cX3_exchanged 7 = .ok (.iload_n 1, 1) := by decide +kernel
theorem dX3_exchanged_8 : decode cX3_exchanged 8 = .ok (.iload_n 2, 1) := by decide +kernel
theorem dX3_exchanged_9 : decode cX3_exchanged 9 = .ok (.invokevirtual 50, 3) := by decide +kernel
theorem dX3_exchanged_12 : decode cX3_exchanged 12 = .ok (.isub, 1) := by decide +kernel
theorem dX3_exchanged_13 : decode cX3_exchanged 13 = .ok (.istore 4, 2) := by decide +kernel
theorem dX3_exchanged_15 : decode cX3_exchanged 15 = .ok (.iload_n 1, 1) := by decide +kernel
theorem dX3_exchanged_16 : decode cX3_exchanged 16 = .ok (.iload 4, 2) := by decide +kernel
theorem dX3_exchanged_18 : decode cX3_exchanged 18 = .ok (.aload_n 0, 1) := by decide +kernel
theorem dX3_exchanged_19 : decode cX3_exchanged 19 = .ok (.getfield 15, 3) := by decide +kernel
theorem dX3_exchanged_22 : decode cX3_exchanged 22 = .ok (.iload_n 2, 1) := by decide +kernel
theorem dX3_exchanged_23 : decode cX3_exchanged 23 = .ok (.iaload, 1) := by decide +kernel
theorem dX3_exchanged_24 : decode cX3_exchanged 24 = .ok (.imul, 1) := by decide +kernel
theorem dX3_exchanged_25 : decode cX3_exchanged 25 = .ok (.iadd, 1) := by decide +kernel
theorem dX3_exchanged_26 : decode cX3_exchanged 26 = .ok (.iload 4, 2) := by decide +kernel
theorem dX3_exchanged_28 : decode cX3_exchanged 28 = .ok (.aload_n 0, 1) := by decide +kernel
theorem dX3_exchanged_29 : decode cX3_exchanged 29 = .ok (.getfield 15, 3) := by decide +kernel
theorem dX3_exchanged_32 : decode cX3_exchanged 32 = .ok (.iload_n 3, 1) := by decide +kernel
theorem dX3_exchanged_33 : decode cX3_exchanged 33 = .ok (.iaload, 1) := by decide +kernel
theorem dX3_exchanged_34 : decode cX3_exchanged 34 = .ok (.imul, 1) := by decide +kernel
theorem dX3_exchanged_35 : decode cX3_exchanged 35 = .ok (.isub, 1) := by decide +kernel
theorem dX3_exchanged_36 : decode cX3_exchanged 36 = .ok (.ireturn, 1) := by decide +kernel
theorem dX3_sharesLine_0 : decode cX3_sharesLine 0 = .ok (.aload_n 0, 1) := by decide +kernel
theorem dX3_sharesLine_1 : decode cX3_sharesLine 1 = .ok (.iload_n 1, 1) := by decide +kernel
theorem dX3_sharesLine_2 : decode cX3_sharesLine 2 = .ok (.iload_n 3, 1) := by decide +kernel
theorem dX3_sharesLine_3 : decode cX3_sharesLine 3 = .ok (.aload_n 0, 1) := by decide +kernel
theorem dX3_sharesLine_4 : decode cX3_sharesLine 4 = .ok (.iload_n 2, 1) := by decide +kernel
theorem dX3_sharesLine_5 : decode cX3_sharesLine 5 = .ok (.iload_n 3, 1) := by decide +kernel
theorem dX3_sharesLine_6 : decode cX3_sharesLine 6 = .ok (.invokevirtual 50, 3) := by decide +kernel
theorem dX3_sharesLine_9 : decode cX3_sharesLine 9 = .ok (.invokevirtual 53, 3) := by decide +kernel
theorem dX3_sharesLine_12 : decode cX3_sharesLine 12 = .ok (.iload_n 2, 1) := by decide +kernel
theorem dX3_sharesLine_13 : decode cX3_sharesLine 13 = .ok (.if_icmp .ne 7, 3) := by decide +kernel
theorem dX3_sharesLine_16 : decode cX3_sharesLine 16 = .ok (.iconst 1, 1) := by decide +kernel
theorem dX3_sharesLine_17 : decode cX3_sharesLine 17 = .ok (.goto 4, 3) := by decide +kernel
theorem dX3_sharesLine_20 : decode cX3_sharesLine 20 = .ok (.iconst 0, 1) := by decide +kernel
theorem dX3_sharesLine_21 : decode cX3_sharesLine 21 = .ok (.ireturn, 1) := by decide +kernel
theorem dX3_lineSum_0 : decode cX3_lineSum 0 = .ok (.iconst 0, 1) := by decide +kernel
theorem dX3_lineSum_1 : decode cX3_lineSum 1 = .ok (.istore_n 3, 1) := by decide +kernel
theorem dX3_lineSum_2 : decode cX3_lineSum 2 = .ok (.iconst 0, 1) := by decide +kernel
theorem dX3_lineSum_3 : decode cX3_lineSum 3 = .ok (.istore 4, 2) := by decide +kernel
theorem dX3_lineSum_5 : decode cX3_lineSum 5 = .ok (.iload 4, 2) := by decide +kernel
theorem dX3_lineSum_7 : decode cX3_lineSum 7 = .ok (.aload_n 0, 1) := by decide +kernel
theorem dX3_lineSum_8 : decode cX3_lineSum 8 = .ok (.getfield 9, 3) := by decide +kernel
theorem dX3_lineSum_11 : decode cX3_lineSum 11 = .ok (.iload_n 2, 1) := by decide +kernel
theorem dX3_lineSum_12 : decode cX3_lineSum 12 = .ok (.iaload, 1) := by decide +kernel
theorem dX3_lineSum_13 : decode cX3_lineSum 13 = .ok (.if_icmp .ge 25, 3) := by decide +kernel
theorem dX3_lineSum_16 : decode cX3_lineSum 16 = .ok (.iload_n 3, 1) := by decide +kernel
theorem dX3_lineSum_17 : decode cX3_lineSum 17 = .ok (.aload_n 0, 1) := by decide +kernel
theorem dX3_lineSum_18 : decode cX3_lineSum 18 = .ok (.getfield 21, 3) := by decide +kernel
theorem dX3_lineSum_21 : decode cX3_lineSum 21 = .ok (.aload_n 0, 1) := by decide +kernel
theorem dX3_lineSum_22 : decode cX3_lineSum 22 = .ok (.iload_n 1, 1) := by decide +kernel
theorem dX3_lineSum_23 : decode cX3_lineSum 23 = .ok (.iload_n 2, 1) := by decide +kernel
theorem dX3_lineSum_24 : decode cX3_lineSum 24 = .ok (.iload 4, 2) := by decide +kernel
theorem dX3_lineSum_26 : decode cX3_lineSum 26 = .ok (.invokevirtual 53, 3) := by decide +kernel
theorem dX3_lineSum_29 : decode cX3_lineSum 29 = .ok (.iaload, 1) := by decide +kernel
theorem dX3_lineSum_30 : decode cX3_lineSum 30 = .ok (.iadd, 1) := by decide +kernel
theorem dX3_lineSum_31 : decode cX3_lineSum 31 = .ok (.istore_n 3, 1) := by decide +kernel
theorem dX3_lineSum_32 : decode cX3_lineSum 32 = .ok (.iinc 4 1, 3) := by decide +kernel
theorem dX3_lineSum_35 : decode cX3_lineSum 35 = .ok (.goto (-30), 3) := by decide +kernel
theorem dX3_lineSum_38 : decode cX3_lineSum 38 = .ok (.iload_n 3, 1) := by decide +kernel
theorem dX3_lineSum_39 : decode cX3_lineSum 39 = .ok (.ireturn, 1) := by decide +kernel
theorem dX3_lineCount_0 : decode cX3_lineCount 0 = .ok (.iconst 0, 1) := by decide +kernel
theorem dX3_lineCount_1 : decode cX3_lineCount 1 = .ok (.istore 4, 2) := by decide +kernel
theorem dX3_lineCount_3 : decode cX3_lineCount 3 = .ok (.iconst 0, 1) := by decide +kernel
theorem dX3_lineCount_4 : decode cX3_lineCount 4 = .ok (.istore 5, 2) := by decide +kernel
theorem dX3_lineCount_6 : decode cX3_lineCount 6 = .ok (.iload 5, 2) := by decide +kernel
theorem dX3_lineCount_8 : decode cX3_lineCount 8 = .ok (.aload_n 0, 1) := by decide +kernel
theorem dX3_lineCount_9 : decode cX3_lineCount 9 = .ok (.getfield 9, 3) := by decide +kernel
theorem dX3_lineCount_12 : decode cX3_lineCount 12 = .ok (.iload_n 2, 1) := by decide +kernel
theorem dX3_lineCount_13 : decode cX3_lineCount 13 = .ok (.iaload, 1) := by decide +kernel
theorem dX3_lineCount_14 : decode cX3_lineCount 14 = .ok (.if_icmp .ge 36, 3) := by decide +kernel
theorem dX3_lineCount_17 : decode cX3_lineCount 17 = .ok (.iload 4, 2) := by decide +kernel
theorem dX3_lineCount_19 : decode cX3_lineCount 19 = .ok (.aload_n 0, 1) := by decide +kernel
theorem dX3_lineCount_20 : decode cX3_lineCount 20 = .ok (.getfield 21, 3) := by decide +kernel
theorem dX3_lineCount_23 : decode cX3_lineCount 23 = .ok (.aload_n 0, 1) := by decide +kernel
theorem dX3_lineCount_24 : decode cX3_lineCount 24 = .ok (.iload_n 1, 1) := by decide +kernel
theorem dX3_lineCount_25 : decode cX3_lineCount 25 = .ok (.iload_n 2, 1) := by decide +kernel
theorem dX3_lineCount_26 : decode cX3_lineCount 26 = .ok (.iload 5, 2) := by decide +kernel
theorem dX3_lineCount_28 : decode cX3_lineCount 28 = .ok (.invokevirtual 53, 3) := by decide +kernel
theorem dX3_lineCount_31 : decode cX3_lineCount 31 = .ok (.iaload, 1) := by decide +kernel
theorem dX3_lineCount_32 : decode cX3_lineCount 32 = .ok (.iload_n 3, 1) := by decide +kernel
theorem dX3_lineCount_33 : decode cX3_lineCount 33 = .ok (.if_icmp .lt 7, 3) := by decide +kernel
theorem dX3_lineCount_36 : decode cX3_lineCount 36 = .ok (.iconst 1, 1) := by decide +kernel
theorem dX3_lineCount_37 : decode cX3_lineCount 37 = .ok (.goto 4, 3) := by decide +kernel
theorem dX3_lineCount_40 : decode cX3_lineCount 40 = .ok (.iconst 0, 1) := by decide +kernel
theorem dX3_lineCount_41 : decode cX3_lineCount 41 = .ok (.iadd, 1) := by decide +kernel
theorem dX3_lineCount_42 : decode cX3_lineCount 42 = .ok (.istore 4, 2) := by decide +kernel
theorem dX3_lineCount_44 : decode cX3_lineCount 44 = .ok (.iinc 5 1, 3) := by decide +kernel
theorem dX3_lineCount_47 : decode cX3_lineCount 47 = .ok (.goto (-41), 3) := by decide +kernel
theorem dX3_lineCount_50 : decode cX3_lineCount 50 = .ok (.iload 4, 2) := by decide +kernel
theorem dX3_lineCount_52 : decode cX3_lineCount 52 = .ok (.ireturn, 1) := by decide +kernel
theorem dX3_taken_0 : decode cX3_taken 0 = .ok (.aload_n 0, 1) := by decide +kernel
theorem dX3_taken_1 : decode cX3_taken 1 = .ok (.getfield 21, 3) := by decide +kernel
theorem dX3_taken_4 : decode cX3_taken 4 = .ok (.iload_n 1, 1) := by decide +kernel
theorem dX3_taken_5 : decode cX3_taken 5 = .ok (.iaload, 1) := by decide +kernel
theorem dX3_taken_6 : decode cX3_taken 6 = .ok (.ifCond .ne 7, 3) := by decide +kernel
theorem dX3_taken_9 : decode cX3_taken 9 = .ok (.iconst 1, 1) := by decide +kernel
theorem dX3_taken_10 : decode cX3_taken 10 = .ok (.goto 18, 3) := by decide +kernel
theorem dX3_taken_13 : decode cX3_taken 13 = .ok (.aload_n 0, 1) := by decide +kernel
theorem dX3_taken_14 : decode cX3_taken 14 = .ok (.getfield 21, 3) := by decide +kernel
theorem dX3_taken_17 : decode cX3_taken 17 = .ok (.iload_n 1, 1) := by decide +kernel
theorem dX3_taken_18 : decode cX3_taken 18 = .ok (.iaload, 1) := by decide +kernel
theorem dX3_taken_19 : decode cX3_taken 19 = .ok (.aload_n 0, 1) := by decide +kernel
theorem dX3_taken_20 : decode cX3_taken 20 = .ok (.getfield 21, 3) := by decide +kernel
theorem dX3_taken_23 : decode cX3_taken 23 = .ok (.iload_n 2, 1) := by decide +kernel
theorem dX3_taken_24 : decode cX3_taken 24 = .ok (.iaload, 1) := by decide +kernel
theorem dX3_taken_25 : decode cX3_taken 25 = .ok (.invokestatic 57, 3) := by decide +kernel
theorem dX3_taken_28 : decode cX3_taken 28 = .ok (.ireturn, 1) := by decide +kernel
theorem dX3_all_0 : decode cX3_all 0 = .ok (.aload_n 0, 1) := by decide +kernel
theorem dX3_all_1 : decode cX3_all 1 = .ok (.getfield 21, 3) := by decide +kernel
theorem dX3_all_4 : decode cX3_all 4 = .ok (.iload_n 1, 1) := by decide +kernel
theorem dX3_all_5 : decode cX3_all 5 = .ok (.iaload, 1) := by decide +kernel
theorem dX3_all_6 : decode cX3_all 6 = .ok (.iconst 1, 1) := by decide +kernel
theorem dX3_all_7 : decode cX3_all 7 = .ok (.invokestatic 28, 3) := by decide +kernel
theorem dX3_all_10 : decode cX3_all 10 = .ok (.ireturn, 1) := by decide +kernel
theorem dX3_pull_0 : decode cX3_pull 0 = .ok (.aload_n 0, 1) := by decide +kernel
theorem dX3_pull_1 : decode cX3_pull 1 = .ok (.getfield 21, 3) := by decide +kernel
theorem dX3_pull_4 : decode cX3_pull 4 = .ok (.iload_n 3, 1) := by decide +kernel
theorem dX3_pull_5 : decode cX3_pull 5 = .ok (.iaload, 1) := by decide +kernel
theorem dX3_pull_6 : decode cX3_pull 6 = .ok (.i2l, 1) := by decide +kernel
theorem dX3_pull_7 : decode cX3_pull 7 = .ok (.aload_n 1, 1) := by decide +kernel
theorem dX3_pull_8 : decode cX3_pull 8 = .ok (.iload_n 3, 1) := by decide +kernel
theorem dX3_pull_9 : decode cX3_pull 9 = .ok (.iload_n 2, 1) := by decide +kernel
theorem dX3_pull_10 : decode cX3_pull 10 = .ok (.invokevirtual 60, 3) := by decide +kernel
theorem dX3_pull_13 : decode cX3_pull 13 = .ok (.i2l, 1) := by decide +kernel
theorem dX3_pull_14 : decode cX3_pull 14 = .ok (.lmul, 1) := by decide +kernel
theorem dX3_pull_15 : decode cX3_pull 15 = .ok (.aload_n 1, 1) := by decide +kernel
theorem dX3_pull_16 : decode cX3_pull 16 = .ok (.getfield 65, 3) := by decide +kernel
theorem dX3_pull_19 : decode cX3_pull 19 = .ok (.iload_n 2, 1) := by decide +kernel
theorem dX3_pull_20 : decode cX3_pull 20 = .ok (.iaload, 1) := by decide +kernel
theorem dX3_pull_21 : decode cX3_pull 21 = .ok (.i2l, 1) := by decide +kernel
theorem dX3_pull_22 : decode cX3_pull 22 = .ok (.lmul, 1) := by decide +kernel
theorem dX3_pull_23 : decode cX3_pull 23 = .ok (.lreturn, 1) := by decide +kernel
theorem dX4_init_0 : decode cX4_init 0 = .ok (.aload_n 0, 1) := by decide +kernel
theorem dX4_init_1 : decode cX4_init 1 = .ok (.invokespecial 3, 3) := by decide +kernel
theorem dX4_init_4 : decode cX4_init 4 = .ok (.aload_n 0, 1) := by decide +kernel
theorem dX4_init_5 : decode cX4_init 5 = .ok (.aload_n 1, 1) := by decide +kernel
theorem dX4_init_6 : decode cX4_init 6 = .ok (.putfield 9, 3) := by decide +kernel
theorem dX4_init_9 : decode cX4_init 9 = .ok (.aload_n 0, 1) := by decide +kernel
theorem dX4_init_10 : decode cX4_init 10 = .ok (.aload_n 2, 1) := by decide +kernel
theorem dX4_init_11 : decode cX4_init 11 = .ok (.putfield 15, 3) := by decide +kernel
theorem dX4_init_14 : decode cX4_init 14 = .ok (.return_, 1) := by decide +kernel
theorem dX4_allFrom_0 : decode cX4_allFrom 0 = .ok (.iconst 1, 1) := by decide +kernel
theorem dX4_allFrom_1 : decode cX4_allFrom 1 = .ok (.iload_n 2, 1) := by decide +kernel
theorem dX4_allFrom_2 : decode cX4_allFrom 2 = .ok (.ishl, 1) := by decide +kernel
theorem dX4_allFrom_3 : decode cX4_allFrom 3 = .ok (.istore_n 3, 1) := by decide +kernel
theorem dX4_allFrom_4 : decode cX4_allFrom 4 = .ok (.iconst 0, 1) := by decide +kernel
theorem dX4_allFrom_5 : decode cX4_allFrom 5 = .ok (.istore 4, 2) := by decide +kernel
theorem dX4_allFrom_7 : decode cX4_allFrom 7 = .ok (.iconst 0, 1) := by decide +kernel
theorem dX4_allFrom_8 : decode cX4_allFrom 8 = .ok (.istore 5, 2) := by decide +kernel
theorem dX4_allFrom_10 : decode cX4_allFrom 10 = .ok (.iload 5, 2) := by decide +kernel
theorem dX4_allFrom_12 : decode cX4_allFrom 12 = .ok (.bipush 16, 2) := by decide +kernel
theorem dX4_allFrom_14 : decode cX4_allFrom 14 = .ok (.if_icmp .ge 46, 3) := by decide +kernel
theorem dX4_allFrom_17 : decode cX4_allFrom 17 = .ok (.iload 4, 2) := by decide +kernel
theorem dX4_allFrom_19 : decode cX4_allFrom 19 = .ok (.iload_n 3, 1) := by decide +kernel
theorem dX4_allFrom_20 : decode cX4_allFrom 20 = .ok (.if_icmp .eq 40, 3) := by decide +kernel
theorem dX4_allFrom_23 : decode cX4_allFrom 23 = .ok (.iload_n 3, 1) := by decide +kernel
theorem dX4_allFrom_24 : decode cX4_allFrom 24 = .ok (.iload 4, 2) := by decide +kernel
theorem dX4_allFrom_26 : decode cX4_allFrom 26 = .ok (.iconst (-1), 1) := by decide +kernel
theorem dX4_allFrom_27 : decode cX4_allFrom 27 = .ok (.ixor, 1) := by decide +kernel
theorem dX4_allFrom_28 : decode cX4_allFrom 28 = .ok (.iand, 1) := by decide +kernel
theorem dX4_allFrom_29 : decode cX4_allFrom 29 = .ok (.invokestatic 19, 3) := by decide +kernel
theorem dX4_allFrom_32 : decode cX4_allFrom 32 = .ok (.istore 6, 2) := by decide +kernel
theorem dX4_allFrom_34 : decode cX4_allFrom 34 = .ok (.iload_n 3, 1) := by decide +kernel
theorem dX4_allFrom_35 : decode cX4_allFrom 35 = .ok (.aload_n 0, 1) := by decide +kernel
theorem dX4_allFrom_36 : decode cX4_allFrom 36 = .ok (.iload_n 1, 1) := by decide +kernel
theorem dX4_allFrom_37 : decode cX4_allFrom 37 = .ok (.iload 6, 2) := by decide +kernel
theorem dX4_allFrom_39 : decode cX4_allFrom 39 = .ok (.iconst 0, 1) := by decide +kernel
theorem dX4_allFrom_40 : decode cX4_allFrom 40 = .ok (.invokevirtual 25, 3) := by decide +kernel
theorem dX4_allFrom_43 : decode cX4_allFrom 43 = .ok (.ior, 1) := by decide +kernel
theorem dX4_allFrom_44 : decode cX4_allFrom 44 = .ok (.istore_n 3, 1) := by decide +kernel
theorem dX4_allFrom_45 : decode cX4_allFrom 45 = .ok (.iload 4, 2) := by decide +kernel
theorem dX4_allFrom_47 : decode cX4_allFrom 47 = .ok (.iconst 1, 1) := by decide +kernel
theorem dX4_allFrom_48 : decode cX4_allFrom 48 = .ok (.iload 6, 2) := by decide +kernel
theorem dX4_allFrom_50 : decode cX4_allFrom 50 = .ok (.ishl, 1) := by decide +kernel
theorem dX4_allFrom_51 : decode cX4_allFrom 51 = .ok (.ior, 1) := by decide +kernel
theorem dX4_allFrom_52 : decode cX4_allFrom 52 = .ok (.istore 4, 2) := by decide +kernel
theorem dX4_allFrom_54 : decode cX4_allFrom 54 = .ok (.iinc 5 1, 3) := by decide +kernel
theorem dX4_allFrom_57 : decode cX4_allFrom 57 = .ok (.goto (-47), 3) := by decide +kernel
theorem dX4_allFrom_60 : decode cX4_allFrom 60 = .ok (.iload_n 3, 1) := by decide +kernel
theorem dX4_allFrom_61 : decode cX4_allFrom 61 = .ok (.ireturn, 1) := by decide +kernel
theorem dX4_onward_0 : decode cX4_onward 0 = .ok (.iload_n 3, 1) := by decide +kernel
theorem dX4_onward_1 : decode cX4_onward 1 = .ok (.iconst 2, 1) := by decide +kernel
theorem dX4_onward_2 : decode cX4_onward 2 = .ok (.if_icmp .le 5, 3) := by decide +kernel
theorem dX4_onward_5 : decode cX4_onward 5 = .ok (.iconst 0, 1) := by decide +kernel
theorem dX4_onward_6 : decode cX4_onward 6 = .ok (.ireturn, 1) := by decide +kernel
theorem dX4_onward_7 : decode cX4_onward 7 = .ok (.aload_n 0, 1) := by decide +kernel
theorem dX4_onward_8 : decode cX4_onward 8 = .ok (.getfield 15, 3) := by decide +kernel
theorem dX4_onward_11 : decode cX4_onward 11 = .ok (.iload_n 1, 1) := by decide +kernel
theorem dX4_onward_12 : decode cX4_onward 12 = .ok (.aaload, 1) := by decide +kernel
theorem dX4_onward_13 : decode cX4_onward 13 = .ok (.astore 4, 2) := by decide +kernel
theorem dX4_onward_15 : decode cX4_onward 15 = .ok (.aload 4, 2) := by decide +kernel
theorem dX4_onward_17 : decode cX4_onward 17 = .ok (.getfield 29, 3) := by decide +kernel
theorem dX4_onward_20 : decode cX4_onward 20 = .ok (.tableswitch 200 0 5 #[40, 73, 111, 135, 143, 172], 40) := by decide +kernel
theorem dX4_onward_60 : decode cX4_onward 60 = .ok (.aload_n 0, 1) := by decide +kernel
theorem dX4_onward_61 : decode cX4_onward 61 = .ok (.getfield 9, 3) := by decide +kernel
theorem dX4_onward_64 : decode cX4_onward 64 = .ok (.iload_n 2, 1) := by decide +kernel
theorem dX4_onward_65 : decode cX4_onward 65 = .ok (.aload 4, 2) := by decide +kernel
theorem dX4_onward_67 : decode cX4_onward 67 = .ok (.getfield 35, 3) := by decide +kernel
theorem dX4_onward_70 : decode cX4_onward 70 = .ok (.invokevirtual 38, 3) := by decide +kernel
theorem dX4_onward_73 : decode cX4_onward 73 = .ok (.ifCond .ne 9, 3) := by decide +kernel
theorem dX4_onward_76 : decode cX4_onward 76 = .ok (.iconst 1, 1) := by decide +kernel
theorem dX4_onward_77 : decode cX4_onward 77 = .ok (.iload_n 2, 1) := by decide +kernel
theorem dX4_onward_78 : decode cX4_onward 78 = .ok (.ishl, 1) := by decide +kernel
theorem dX4_onward_79 : decode cX4_onward 79 = .ok (.goto 13, 3) := by decide +kernel
theorem dX4_onward_82 : decode cX4_onward 82 = .ok (.aload_n 0, 1) := by decide +kernel
theorem dX4_onward_83 : decode cX4_onward 83 = .ok (.iload_n 2, 1) := by decide +kernel
theorem dX4_onward_84 : decode cX4_onward 84 = .ok (.aload 4, 2) := by decide +kernel
theorem dX4_onward_86 : decode cX4_onward 86 = .ok (.getfield 35, 3) := by decide +kernel
theorem dX4_onward_89 : decode cX4_onward 89 = .ok (.invokevirtual 44, 3) := by decide +kernel
theorem dX4_onward_92 : decode cX4_onward 92 = .ok (.ireturn, 1) := by decide +kernel
theorem dX4_onward_93 : decode cX4_onward 93 = .ok (.aload_n 0, 1) := by decide +kernel
theorem dX4_onward_94 : decode cX4_onward 94 = .ok (.iload_n 2, 1) := by decide +kernel
theorem dX4_onward_95 : decode cX4_onward 95 = .ok (.aload_n 0, 1) := by decide +kernel
theorem dX4_onward_96 : decode cX4_onward 96 = .ok (.getfield 9, 3) := by decide +kernel
theorem dX4_onward_99 : decode cX4_onward 99 = .ok (.iload_n 2, 1) := by decide +kernel
theorem dX4_onward_100 : decode cX4_onward 100 = .ok (.aload 4, 2) := by decide +kernel
theorem dX4_onward_102 : decode cX4_onward 102 = .ok (.getfield 35, 3) := by decide +kernel
theorem dX4_onward_105 : decode cX4_onward 105 = .ok (.invokevirtual 47, 3) := by decide +kernel
theorem dX4_onward_108 : decode cX4_onward 108 = .ok (.invokevirtual 50, 3) := by decide +kernel
theorem dX4_onward_111 : decode cX4_onward 111 = .ok (.aload_n 0, 1) := by decide +kernel
theorem dX4_onward_112 : decode cX4_onward 112 = .ok (.iload_n 2, 1) := by decide +kernel
theorem dX4_onward_113 : decode cX4_onward 113 = .ok (.aload_n 0, 1) := by decide +kernel
theorem dX4_onward_114 : decode cX4_onward 114 = .ok (.getfield 9, 3) := by decide +kernel
theorem dX4_onward_117 : decode cX4_onward 117 = .ok (.iload_n 2, 1) := by decide +kernel
theorem dX4_onward_118 : decode cX4_onward 118 = .ok (.aload 4, 2) := by decide +kernel
theorem dX4_onward_120 : decode cX4_onward 120 = .ok (.getfield 35, 3) := by decide +kernel
theorem dX4_onward_123 : decode cX4_onward 123 = .ok (.invokevirtual 53, 3) := by decide +kernel
theorem dX4_onward_126 : decode cX4_onward 126 = .ok (.invokevirtual 50, 3) := by decide +kernel
theorem dX4_onward_129 : decode cX4_onward 129 = .ok (.ior, 1) := by decide +kernel
theorem dX4_onward_130 : decode cX4_onward 130 = .ok (.ireturn, 1) := by decide +kernel
theorem dX4_onward_131 : decode cX4_onward 131 = .ok (.aload_n 0, 1) := by decide +kernel
theorem dX4_onward_132 : decode cX4_onward 132 = .ok (.iload_n 2, 1) := by decide +kernel
theorem dX4_onward_133 : decode cX4_onward 133 = .ok (.aload_n 0, 1) := by decide +kernel
theorem dX4_onward_134 : decode cX4_onward 134 = .ok (.getfield 9, 3) := by decide +kernel
theorem dX4_onward_137 : decode cX4_onward 137 = .ok (.iload_n 2, 1) := by decide +kernel
theorem dX4_onward_138 : decode cX4_onward 138 = .ok (.aload 4, 2) := by decide +kernel
theorem dX4_onward_140 : decode cX4_onward 140 = .ok (.getfield 35, 3) := by decide +kernel
theorem dX4_onward_143 : decode cX4_onward 143 = .ok (.aload 4, 2) := by decide +kernel
theorem dX4_onward_145 : decode cX4_onward 145 = .ok (.getfield 56, 3) := by decide +kernel
theorem dX4_onward_148 : decode cX4_onward 148 = .ok (.invokevirtual 59, 3) := by decide +kernel
theorem dX4_onward_151 : decode cX4_onward 151 = .ok (.invokevirtual 50, 3) := by decide +kernel
theorem dX4_onward_154 : decode cX4_onward 154 = .ok (.ireturn, 1) := by decide +kernel
theorem dX4_onward_155 : decode cX4_onward 155 = .ok (.aload_n 0, 1) := by decide +kernel
theorem dX4_onward_156 : decode cX4_onward 156 = .ok (.aload 4, 2) := by decide +kernel
theorem dX4_onward_158 : decode cX4_onward 158 = .ok (.iload_n 2, 1) := by decide +kernel
theorem dX4_onward_159 : decode cX4_onward 159 = .ok (.invokevirtual 62, 3) := by decide +kernel
theorem dX4_onward_162 : decode cX4_onward 162 = .ok (.ireturn, 1) := by decide +kernel
theorem dX4_onward_163 : decode cX4_onward 163 = .ok (.aload_n 0, 1) := by decide +kernel
theorem dX4_onward_164 : decode cX4_onward 164 = .ok (.getfield 9, 3) := by decide +kernel
theorem dX4_onward_167 : decode cX4_onward 167 = .ok (.getfield 66, 3) := by decide +kernel
theorem dX4_onward_170 : decode cX4_onward 170 = .ok (.iload_n 2, 1) := by decide +kernel
theorem dX4_onward_171 : decode cX4_onward 171 = .ok (.iaload, 1) := by decide +kernel
theorem dX4_onward_172 : decode cX4_onward 172 = .ok (.ifCond .ne 9, 3) := by decide +kernel
theorem dX4_onward_175 : decode cX4_onward 175 = .ok (.iconst 1, 1) := by decide +kernel
theorem dX4_onward_176 : decode cX4_onward 176 = .ok (.iload_n 2, 1) := by decide +kernel
theorem dX4_onward_177 : decode cX4_onward 177 = .ok (.ishl, 1) := by decide +kernel
theorem dX4_onward_178 : decode cX4_onward 178 = .ok (.goto 13, 3) := by decide +kernel
theorem dX4_onward_181 : decode cX4_onward 181 = .ok (.aload_n 0, 1) := by decide +kernel
theorem dX4_onward_182 : decode cX4_onward 182 = .ok (.iload_n 2, 1) := by decide +kernel
theorem dX4_onward_183 : decode cX4_onward 183 = .ok (.aload 4, 2) := by decide +kernel
theorem dX4_onward_185 : decode cX4_onward 185 = .ok (.getfield 35, 3) := by decide +kernel
theorem dX4_onward_188 : decode cX4_onward 188 = .ok (.invokevirtual 44, 3) := by decide +kernel
theorem dX4_onward_191 : decode cX4_onward 191 = .ok (.ireturn, 1) := by decide +kernel
theorem dX4_onward_192 : decode cX4_onward 192 = .ok (.aload_n 0, 1) := by decide +kernel
theorem dX4_onward_193 : decode cX4_onward 193 = .ok (.aload 4, 2) := by decide +kernel
theorem dX4_onward_195 : decode cX4_onward 195 = .ok (.getfield 35, 3) := by decide +kernel
theorem dX4_onward_198 : decode cX4_onward 198 = .ok (.iload_n 2, 1) := by decide +kernel
theorem dX4_onward_199 : decode cX4_onward 199 = .ok (.iload_n 3, 1) := by decide +kernel
theorem dX4_onward_200 : decode cX4_onward 200 = .ok (.iconst 1, 1) := by decide +kernel
theorem dX4_onward_201 : decode cX4_onward 201 = .ok (.iadd, 1) := by decide +kernel
theorem dX4_onward_202 : decode cX4_onward 202 = .ok (.invokevirtual 25, 3) := by decide +kernel
theorem dX4_onward_205 : decode cX4_onward 205 = .ok (.aload_n 0, 1) := by decide +kernel
theorem dX4_onward_206 : decode cX4_onward 206 = .ok (.aload 4, 2) := by decide +kernel
theorem dX4_onward_208 : decode cX4_onward 208 = .ok (.getfield 56, 3) := by decide +kernel
theorem dX4_onward_211 : decode cX4_onward 211 = .ok (.iload_n 2, 1) := by decide +kernel
theorem dX4_onward_212 : decode cX4_onward 212 = .ok (.iload_n 3, 1) := by decide +kernel
theorem dX4_onward_213 : decode cX4_onward 213 = .ok (.iconst 1, 1) := by decide +kernel
theorem dX4_onward_214 : decode cX4_onward 214 = .ok (.iadd, 1) := by decide +kernel
theorem dX4_onward_215 : decode cX4_onward 215 = .ok (.invokevirtual 25, 3) := by decide +kernel
theorem dX4_onward_218 : decode cX4_onward 218 = .ok (.ior, 1) := by decide +kernel
theorem dX4_onward_219 : decode cX4_onward 219 = .ok (.ireturn, 1) := by decide +kernel
theorem dX4_onward_220 : decode cX4_onward 220 = .ok (.aload_n 0, 1) := by decide +kernel
theorem dX4_onward_221 : decode cX4_onward 221 = .ok (.aload 4, 2) := by decide +kernel
theorem dX4_onward_223 : decode cX4_onward 223 = .ok (.iload_n 2, 1) := by decide +kernel
theorem dX4_onward_224 : decode cX4_onward 224 = .ok (.iload_n 3, 1) := by decide +kernel
theorem dX4_onward_225 : decode cX4_onward 225 = .ok (.invokevirtual 70, 3) := by decide +kernel
theorem dX4_onward_228 : decode cX4_onward 228 = .ok (.ireturn, 1) := by decide +kernel
theorem dX4_weighty_0 : decode cX4_weighty 0 = .ok (.iconst 0, 1) := by decide +kernel
theorem dX4_weighty_1 : decode cX4_weighty 1 = .ok (.istore_n 3, 1) := by decide +kernel
theorem dX4_weighty_2 : decode cX4_weighty 2 = .ok (.iconst 0, 1) := by decide +kernel
theorem dX4_weighty_3 : decode cX4_weighty 3 = .ok (.istore 4, 2) := by decide +kernel
theorem dX4_weighty_5 : decode cX4_weighty 5 = .ok (.iload 4, 2) := by decide +kernel
theorem dX4_weighty_7 : decode cX4_weighty 7 = .ok (.aload_n 0, 1) := by decide +kernel
theorem dX4_weighty_8 : decode cX4_weighty 8 = .ok (.getfield 9, 3) := by decide +kernel
theorem dX4_weighty_11 : decode cX4_weighty 11 = .ok (.getfield 74, 3) := by decide +kernel
theorem dX4_weighty_14 : decode cX4_weighty 14 = .ok (.iload_n 2, 1) := by decide +kernel
theorem dX4_weighty_15 : decode cX4_weighty 15 = .ok (.iaload, 1) := by decide +kernel
theorem dX4_weighty_16 : decode cX4_weighty 16 = .ok (.if_icmp .ge 46, 3) := by decide +kernel
theorem dX4_weighty_19 : decode cX4_weighty 19 = .ok (.aload_n 0, 1) := by decide +kernel
theorem dX4_weighty_20 : decode cX4_weighty 20 = .ok (.getfield 9, 3) := by decide +kernel
theorem dX4_weighty_23 : decode cX4_weighty 23 = .ok (.iload_n 1, 1) := by decide +kernel
theorem dX4_weighty_24 : decode cX4_weighty 24 = .ok (.iload_n 2, 1) := by decide +kernel
theorem dX4_weighty_25 : decode cX4_weighty 25 = .ok (.iload 4, 2) := by decide +kernel
theorem dX4_weighty_27 : decode cX4_weighty 27 = .ok (.invokevirtual 77, 3) := by decide +kernel
theorem dX4_weighty_30 : decode cX4_weighty 30 = .ok (.istore 5, 2) := by decide +kernel
theorem dX4_weighty_32 : decode cX4_weighty 32 = .ok (.iload_n 3, 1) := by decide +kernel
theorem dX4_weighty_33 : decode cX4_weighty 33 = .ok (.aload_n 0, 1) := by decide +kernel
theorem dX4_weighty_34 : decode cX4_weighty 34 = .ok (.getfield 9, 3) := by decide +kernel
theorem dX4_weighty_37 : decode cX4_weighty 37 = .ok (.getfield 66, 3) := by decide +kernel
theorem dX4_weighty_40 : decode cX4_weighty 40 = .ok (.iload 5, 2) := by decide +kernel
theorem dX4_weighty_42 : decode cX4_weighty 42 = .ok (.iaload, 1) := by decide +kernel
theorem dX4_weighty_43 : decode cX4_weighty 43 = .ok (.ifCond .le 10, 3) := by decide +kernel
theorem dX4_weighty_46 : decode cX4_weighty 46 = .ok (.iconst 1, 1) := by decide +kernel
theorem dX4_weighty_47 : decode cX4_weighty 47 = .ok (.iload 5, 2) := by decide +kernel
theorem dX4_weighty_49 : decode cX4_weighty 49 = .ok (.ishl, 1) := by decide +kernel
theorem dX4_weighty_50 : decode cX4_weighty 50 = .ok (.goto 4, 3) := by decide +kernel
theorem dX4_weighty_53 : decode cX4_weighty 53 = .ok (.iconst 0, 1) := by decide +kernel
theorem dX4_weighty_54 : decode cX4_weighty 54 = .ok (.ior, 1) := by decide +kernel
theorem dX4_weighty_55 : decode cX4_weighty 55 = .ok (.istore_n 3, 1) := by decide +kernel
theorem dX4_weighty_56 : decode cX4_weighty 56 = .ok (.iinc 4 1, 3) := by decide +kernel
theorem dX4_weighty_59 : decode cX4_weighty 59 = .ok (.goto (-54), 3) := by decide +kernel
theorem dX4_weighty_62 : decode cX4_weighty 62 = .ok (.iload_n 3, 1) := by decide +kernel
theorem dX4_weighty_63 : decode cX4_weighty 63 = .ok (.ireturn, 1) := by decide +kernel
theorem dX4_proposed_0 : decode cX4_proposed 0 = .ok (.aload_n 0, 1) := by decide +kernel
theorem dX4_proposed_1 : decode cX4_proposed 1 = .ok (.getfield 9, 3) := by decide +kernel
theorem dX4_proposed_4 : decode cX4_proposed 4 = .ok (.iload_n 1, 1) := by decide +kernel
theorem dX4_proposed_5 : decode cX4_proposed 5 = .ok (.iload_n 2, 1) := by decide +kernel
theorem dX4_proposed_6 : decode cX4_proposed 6 = .ok (.invokevirtual 80, 3) := by decide +kernel
theorem dX4_proposed_9 : decode cX4_proposed 9 = .ok (.ifCond .le 9, 3) := by decide +kernel
theorem dX4_proposed_12 : decode cX4_proposed 12 = .ok (.iconst 1, 1) := by decide +kernel
theorem dX4_proposed_13 : decode cX4_proposed 13 = .ok (.iload_n 2, 1) := by decide +kernel
theorem dX4_proposed_14 : decode cX4_proposed 14 = .ok (.ishl, 1) := by decide +kernel
theorem dX4_proposed_15 : decode cX4_proposed 15 = .ok (.goto 4, 3) := by decide +kernel
theorem dX4_proposed_18 : decode cX4_proposed 18 = .ok (.iconst 0, 1) := by decide +kernel
theorem dX4_proposed_19 : decode cX4_proposed 19 = .ok (.istore_n 3, 1) := by decide +kernel
theorem dX4_proposed_20 : decode cX4_proposed 20 = .ok (.aload_n 0, 1) := by decide +kernel
theorem dX4_proposed_21 : decode cX4_proposed 21 = .ok (.getfield 9, 3) := by decide +kernel
theorem dX4_proposed_24 : decode cX4_proposed 24 = .ok (.getfield 66, 3) := by decide +kernel
theorem dX4_proposed_27 : decode cX4_proposed 27 = .ok (.iload_n 2, 1) := by decide +kernel
theorem dX4_proposed_28 : decode cX4_proposed 28 = .ok (.iaload, 1) := by decide +kernel
theorem dX4_proposed_29 : decode cX4_proposed 29 = .ok (.aload_n 0, 1) := by decide +kernel
theorem dX4_proposed_30 : decode cX4_proposed 30 = .ok (.getfield 9, 3) := by decide +kernel
theorem dX4_proposed_33 : decode cX4_proposed 33 = .ok (.getfield 66, 3) := by decide +kernel
theorem dX4_proposed_36 : decode cX4_proposed 36 = .ok (.iload_n 1, 1) := by decide +kernel
theorem dX4_proposed_37 : decode cX4_proposed 37 = .ok (.iaload, 1) := by decide +kernel
theorem dX4_proposed_38 : decode cX4_proposed 38 = .ok (.if_icmp .ge 9, 3) := by decide +kernel
theorem dX4_proposed_41 : decode cX4_proposed 41 = .ok (.iconst 1, 1) := by decide +kernel
theorem dX4_proposed_42 : decode cX4_proposed 42 = .ok (.iload_n 1, 1) := by decide +kernel
theorem dX4_proposed_43 : decode cX4_proposed 43 = .ok (.ishl, 1) := by decide +kernel
theorem dX4_proposed_44 : decode cX4_proposed 44 = .ok (.goto 4, 3) := by decide +kernel
theorem dX4_proposed_47 : decode cX4_proposed 47 = .ok (.iconst 0, 1) := by decide +kernel
theorem dX4_proposed_48 : decode cX4_proposed 48 = .ok (.istore 4, 2) := by decide +kernel
theorem dX4_proposed_50 : decode cX4_proposed 50 = .ok (.iload_n 3, 1) := by decide +kernel
theorem dX4_proposed_51 : decode cX4_proposed 51 = .ok (.iload 4, 2) := by decide +kernel
theorem dX4_proposed_53 : decode cX4_proposed 53 = .ok (.ior, 1) := by decide +kernel
theorem dX4_proposed_54 : decode cX4_proposed 54 = .ok (.ireturn, 1) := by decide +kernel
theorem dX4_toldOnward_0 : decode cX4_toldOnward 0 = .ok (.aload_n 1, 1) := by decide +kernel
theorem dX4_toldOnward_1 : decode cX4_toldOnward 1 = .ok (.getfield 83, 3) := by decide +kernel
theorem dX4_toldOnward_4 : decode cX4_toldOnward 4 = .ok (.iload_n 2, 1) := by decide +kernel
theorem dX4_toldOnward_5 : decode cX4_toldOnward 5 = .ok (.iaload, 1) := by decide +kernel
theorem dX4_toldOnward_6 : decode cX4_toldOnward 6 = .ok (.ifCond .ne 7, 3) := by decide +kernel
theorem dX4_toldOnward_9 : decode cX4_toldOnward 9 = .ok (.iconst 1, 1) := by decide +kernel
theorem dX4_toldOnward_10 : decode cX4_toldOnward 10 = .ok (.iload_n 2, 1) := by decide +kernel
theorem dX4_toldOnward_11 : decode cX4_toldOnward 11 = .ok (.ishl, 1) := by decide +kernel
theorem dX4_toldOnward_12 : decode cX4_toldOnward 12 = .ok (.ireturn, 1) := by decide +kernel
theorem dX4_toldOnward_13 : decode cX4_toldOnward 13 = .ok (.iconst 0, 1) := by decide +kernel
theorem dX4_toldOnward_14 : decode cX4_toldOnward 14 = .ok (.istore_n 3, 1) := by decide +kernel
theorem dX4_toldOnward_15 : decode cX4_toldOnward 15 = .ok (.iconst 0, 1) := by decide +kernel
theorem dX4_toldOnward_16 : decode cX4_toldOnward 16 = .ok (.istore 4, 2) := by decide +kernel
theorem dX4_toldOnward_18 : decode cX4_toldOnward 18 = .ok (.iload 4, 2) := by decide +kernel
theorem dX4_toldOnward_20 : decode cX4_toldOnward 20 = .ok (.aload_n 0, 1) := by decide +kernel
theorem dX4_toldOnward_21 : decode cX4_toldOnward 21 = .ok (.getfield 9, 3) := by decide +kernel
theorem dX4_toldOnward_24 : decode cX4_toldOnward 24 = .ok (.getfield 86, 3) := by decide +kernel
theorem dX4_toldOnward_27 : decode cX4_toldOnward 27 = .ok (.if_icmp .ge 30, 3) := by decide +kernel
theorem dX4_toldOnward_30 : decode cX4_toldOnward 30 = .ok (.aload_n 1, 1) := by decide +kernel
theorem dX4_toldOnward_31 : decode cX4_toldOnward 31 = .ok (.iload_n 2, 1) := by decide +kernel
theorem dX4_toldOnward_32 : decode cX4_toldOnward 32 = .ok (.iload 4, 2) := by decide +kernel
theorem dX4_toldOnward_34 : decode cX4_toldOnward 34 = .ok (.invokevirtual 89, 3) := by decide +kernel
theorem dX4_toldOnward_37 : decode cX4_toldOnward 37 = .ok (.ifCond .le 14, 3) := by decide +kernel
theorem dX4_toldOnward_40 : decode cX4_toldOnward 40 = .ok (.iload_n 3, 1) := by decide +kernel
theorem dX4_toldOnward_41 : decode cX4_toldOnward 41 = .ok (.aload_n 0, 1) := by decide +kernel
theorem dX4_toldOnward_42 : decode cX4_toldOnward 42 = .ok (.aload_n 1, 1) := by decide +kernel
theorem dX4_toldOnward_43 : decode cX4_toldOnward 43 = .ok (.iload_n 2, 1) := by decide +kernel
theorem dX4_toldOnward_44 : decode cX4_toldOnward 44 = .ok (.iload 4, 2) := by decide +kernel
theorem dX4_toldOnward_46 : decode cX4_toldOnward 46 = .ok (.invokevirtual 92, 3) := by decide +kernel
theorem dX4_toldOnward_49 : decode cX4_toldOnward 49 = .ok (.ior, 1) := by decide +kernel
theorem dX4_toldOnward_50 : decode cX4_toldOnward 50 = .ok (.istore_n 3, 1) := by decide +kernel
theorem dX4_toldOnward_51 : decode cX4_toldOnward 51 = .ok (.iinc 4 1, 3) := by decide +kernel
theorem dX4_toldOnward_54 : decode cX4_toldOnward 54 = .ok (.goto (-36), 3) := by decide +kernel
theorem dX4_toldOnward_57 : decode cX4_toldOnward 57 = .ok (.iload_n 3, 1) := by decide +kernel
theorem dX4_toldOnward_58 : decode cX4_toldOnward 58 = .ok (.ireturn, 1) := by decide +kernel
theorem dX4_toldProposed_0 : decode cX4_toldProposed 0 = .ok (.aload_n 0, 1) := by decide +kernel
theorem dX4_toldProposed_1 : decode cX4_toldProposed 1 = .ok (.getfield 9, 3) := by decide +kernel
theorem dX4_toldProposed_4 : decode cX4_toldProposed 4 = .ok (.aload_n 1, 1) := by decide +kernel
theorem dX4_toldProposed_5 : decode cX4_toldProposed 5 = .ok (.iload_n 2, 1) := by decide +kernel
theorem dX4_toldProposed_6 : decode cX4_toldProposed 6 = .ok (.iload_n 3, 1) := by decide +kernel
theorem dX4_toldProposed_7 : decode cX4_toldProposed 7 = .ok (.invokevirtual 95, 3) := by decide +kernel
theorem dX4_toldProposed_10 : decode cX4_toldProposed 10 = .ok (.lstore 4, 2) := by decide +kernel
theorem dX4_toldProposed_12 : decode cX4_toldProposed 12 = .ok (.aload_n 0, 1) := by decide +kernel
theorem dX4_toldProposed_13 : decode cX4_toldProposed 13 = .ok (.getfield 9, 3) := by decide +kernel
theorem dX4_toldProposed_16 : decode cX4_toldProposed 16 = .ok (.aload_n 1, 1) := by decide +kernel
theorem dX4_toldProposed_17 : decode cX4_toldProposed 17 = .ok (.iload_n 3, 1) := by decide +kernel
theorem dX4_toldProposed_18 : decode cX4_toldProposed 18 = .ok (.iload_n 2, 1) := by decide +kernel
theorem dX4_toldProposed_19 : decode cX4_toldProposed 19 = .ok (.invokevirtual 95, 3) := by decide +kernel
theorem dX4_toldProposed_22 : decode cX4_toldProposed 22 = .ok (.lstore 6, 2) := by decide +kernel
theorem dX4_toldProposed_24 : decode cX4_toldProposed 24 = .ok (.aload_n 0, 1) := by decide +kernel
theorem dX4_toldProposed_25 : decode cX4_toldProposed 25 = .ok (.getfield 9, 3) := by decide +kernel
theorem dX4_toldProposed_28 : decode cX4_toldProposed 28 = .ok (.getfield 66, 3) := by decide +kernel
theorem dX4_toldProposed_31 : decode cX4_toldProposed 31 = .ok (.iload_n 2, 1) := by decide +kernel
theorem dX4_toldProposed_32 : decode cX4_toldProposed 32 = .ok (.iaload, 1) := by decide +kernel
theorem dX4_toldProposed_33 : decode cX4_toldProposed 33 = .ok (.ifCond .eq 18, 3) := by decide +kernel
theorem dX4_toldProposed_36 : decode cX4_toldProposed 36 = .ok (.lload 4, 2) := by decide +kernel
theorem dX4_toldProposed_38 : decode cX4_toldProposed 38 = .ok (.lload 6, 2) := by decide +kernel
theorem dX4_toldProposed_40 : decode cX4_toldProposed 40 = .ok (.lcmp, 1) := by decide +kernel
theorem dX4_toldProposed_41 : decode cX4_toldProposed 41 = .ok (.ifCond .lt 14, 3) := by decide +kernel
theorem dX4_toldProposed_44 : decode cX4_toldProposed 44 = .ok (.lload 4, 2) := by decide +kernel
theorem dX4_toldProposed_46 : decode cX4_toldProposed 46 = .ok (.lconst 0, 1) := by decide +kernel
theorem dX4_toldProposed_47 : decode cX4_toldProposed 47 = .ok (.lcmp, 1) := by decide +kernel
theorem dX4_toldProposed_48 : decode cX4_toldProposed 48 = .ok (.ifCond .le 7, 3) := by decide +kernel
theorem dX4_toldProposed_51 : decode cX4_toldProposed 51 = .ok (.iconst 1, 1) := by decide +kernel
theorem dX4_toldProposed_52 : decode cX4_toldProposed 52 = .ok (.iload_n 3, 1) := by decide +kernel
theorem dX4_toldProposed_53 : decode cX4_toldProposed 53 = .ok (.ishl, 1) := by decide +kernel
theorem dX4_toldProposed_54 : decode cX4_toldProposed 54 = .ok (.ireturn, 1) := by decide +kernel
theorem dX4_toldProposed_55 : decode cX4_toldProposed 55 = .ok (.lload 4, 2) := by decide +kernel
theorem dX4_toldProposed_57 : decode cX4_toldProposed 57 = .ok (.lconst 0, 1) := by decide +kernel
theorem dX4_toldProposed_58 : decode cX4_toldProposed 58 = .ok (.lcmp, 1) := by decide +kernel
theorem dX4_toldProposed_59 : decode cX4_toldProposed 59 = .ok (.ifCond .ne 9, 3) := by decide +kernel
theorem dX4_toldProposed_62 : decode cX4_toldProposed 62 = .ok (.iconst 1, 1) := by decide +kernel
theorem dX4_toldProposed_63 : decode cX4_toldProposed 63 = .ok (.iload_n 2, 1) := by decide +kernel
theorem dX4_toldProposed_64 : decode cX4_toldProposed 64 = .ok (.ishl, 1) := by decide +kernel
theorem dX4_toldProposed_65 : decode cX4_toldProposed 65 = .ok (.goto 10, 3) := by decide +kernel
theorem dX4_toldProposed_68 : decode cX4_toldProposed 68 = .ok (.iconst 1, 1) := by decide +kernel
theorem dX4_toldProposed_69 : decode cX4_toldProposed 69 = .ok (.iload_n 3, 1) := by decide +kernel
theorem dX4_toldProposed_70 : decode cX4_toldProposed 70 = .ok (.ishl, 1) := by decide +kernel
theorem dX4_toldProposed_71 : decode cX4_toldProposed 71 = .ok (.iconst 1, 1) := by decide +kernel
theorem dX4_toldProposed_72 : decode cX4_toldProposed 72 = .ok (.iload_n 2, 1) := by decide +kernel
theorem dX4_toldProposed_73 : decode cX4_toldProposed 73 = .ok (.ishl, 1) := by decide +kernel
theorem dX4_toldProposed_74 : decode cX4_toldProposed 74 = .ok (.ior, 1) := by decide +kernel
theorem dX4_toldProposed_75 : decode cX4_toldProposed 75 = .ok (.ireturn, 1) := by decide +kernel
theorem dX4_cycled_0 : decode cX4_cycled 0 = .ok (.aload_n 0, 1) := by decide +kernel
theorem dX4_cycled_1 : decode cX4_cycled 1 = .ok (.aload_n 1, 1) := by decide +kernel
theorem dX4_cycled_2 : decode cX4_cycled 2 = .ok (.getfield 35, 3) := by decide +kernel
theorem dX4_cycled_5 : decode cX4_cycled 5 = .ok (.iload_n 2, 1) := by decide +kernel
theorem dX4_cycled_6 : decode cX4_cycled 6 = .ok (.iload_n 3, 1) := by decide +kernel
theorem dX4_cycled_7 : decode cX4_cycled 7 = .ok (.iconst 1, 1) := by decide +kernel
theorem dX4_cycled_8 : decode cX4_cycled 8 = .ok (.iadd, 1) := by decide +kernel
theorem dX4_cycled_9 : decode cX4_cycled 9 = .ok (.invokevirtual 25, 3) := by decide +kernel
theorem dX4_cycled_12 : decode cX4_cycled 12 = .ok (.istore 4, 2) := by decide +kernel
theorem dX4_cycled_14 : decode cX4_cycled 14 = .ok (.iconst 0, 1) := by decide +kernel
theorem dX4_cycled_15 : decode cX4_cycled 15 = .ok (.istore 5, 2) := by decide +kernel
theorem dX4_cycled_17 : decode cX4_cycled 17 = .ok (.iconst 0, 1) := by decide +kernel
theorem dX4_cycled_18 : decode cX4_cycled 18 = .ok (.istore 6, 2) := by decide +kernel
theorem dX4_cycled_20 : decode cX4_cycled 20 = .ok (.iload 6, 2) := by decide +kernel
theorem dX4_cycled_22 : decode cX4_cycled 22 = .ok (.aload_n 0, 1) := by decide +kernel
theorem dX4_cycled_23 : decode cX4_cycled 23 = .ok (.getfield 9, 3) := by decide +kernel
theorem dX4_cycled_26 : decode cX4_cycled 26 = .ok (.getfield 86, 3) := by decide +kernel
theorem dX4_cycled_29 : decode cX4_cycled 29 = .ok (.if_icmp .ge 38, 3) := by decide +kernel
theorem dX4_cycled_32 : decode cX4_cycled 32 = .ok (.iload 4, 2) := by decide +kernel
theorem dX4_cycled_34 : decode cX4_cycled 34 = .ok (.iload 6, 2) := by decide +kernel
theorem dX4_cycled_36 : decode cX4_cycled 36 = .ok (.ishr, 1) := by decide +kernel
theorem dX4_cycled_37 : decode cX4_cycled 37 = .ok (.iconst 1, 1) := by decide +kernel
theorem dX4_cycled_38 : decode cX4_cycled 38 = .ok (.iand, 1) := by decide +kernel
theorem dX4_cycled_39 : decode cX4_cycled 39 = .ok (.iconst 1, 1) := by decide +kernel
theorem dX4_cycled_40 : decode cX4_cycled 40 = .ok (.if_icmp .ne 21, 3) := by decide +kernel
theorem dX4_cycled_43 : decode cX4_cycled 43 = .ok (.iload 5, 2) := by decide +kernel
theorem dX4_cycled_45 : decode cX4_cycled 45 = .ok (.aload_n 0, 1) := by decide +kernel
theorem dX4_cycled_46 : decode cX4_cycled 46 = .ok (.aload_n 1, 1) := by decide +kernel
theorem dX4_cycled_47 : decode cX4_cycled 47 = .ok (.getfield 56, 3) := by decide +kernel
theorem dX4_cycled_50 : decode cX4_cycled 50 = .ok (.iload 6, 2) := by decide +kernel
theorem dX4_cycled_52 : decode cX4_cycled 52 = .ok (.iload_n 3, 1) := by decide +kernel
theorem dX4_cycled_53 : decode cX4_cycled 53 = .ok (.iconst 1, 1) := by decide +kernel
theorem dX4_cycled_54 : decode cX4_cycled 54 = .ok (.iadd, 1) := by decide +kernel
theorem dX4_cycled_55 : decode cX4_cycled 55 = .ok (.invokevirtual 25, 3) := by decide +kernel
theorem dX4_cycled_58 : decode cX4_cycled 58 = .ok (.ior, 1) := by decide +kernel
theorem dX4_cycled_59 : decode cX4_cycled 59 = .ok (.istore 5, 2) := by decide +kernel
theorem dX4_cycled_61 : decode cX4_cycled 61 = .ok (.iinc 6 1, 3) := by decide +kernel
theorem dX4_cycled_64 : decode cX4_cycled 64 = .ok (.goto (-44), 3) := by decide +kernel
theorem dX4_cycled_67 : decode cX4_cycled 67 = .ok (.iload 5, 2) := by decide +kernel
theorem dX4_cycled_69 : decode cX4_cycled 69 = .ok (.ireturn, 1) := by decide +kernel
theorem dX5_init_0 : decode cX5_init 0 = .ok (.aload_n 0, 1) := by decide +kernel
theorem dX5_init_1 : decode cX5_init 1 = .ok (.invokespecial 3, 3) := by decide +kernel
theorem dX5_init_4 : decode cX5_init 4 = .ok (.aload_n 0, 1) := by decide +kernel
theorem dX5_init_5 : decode cX5_init 5 = .ok (.sipush 201, 3) := by decide +kernel
theorem dX5_init_8 : decode cX5_init 8 = .ok (.newarray .int, 2) := by decide +kernel
theorem dX5_init_10 : decode cX5_init 10 = .ok (.putfield 9, 3) := by decide +kernel
theorem dX5_init_13 : decode cX5_init 13 = .ok (.aload_n 0, 1) := by decide +kernel
theorem dX5_init_14 : decode cX5_init 14 = .ok (.iconst (-1), 1) := by decide +kernel
theorem dX5_init_15 : decode cX5_init 15 = .ok (.putfield 15, 3) := by decide +kernel
theorem dX5_init_18 : decode cX5_init 18 = .ok (.aload_n 0, 1) := by decide +kernel
theorem dX5_init_19 : decode cX5_init 19 = .ok (.aload_n 1, 1) := by decide +kernel
theorem dX5_init_20 : decode cX5_init 20 = .ok (.putfield 19, 3) := by decide +kernel
theorem dX5_init_23 : decode cX5_init 23 = .ok (.aload_n 0, 1) := by decide +kernel
theorem dX5_init_24 : decode cX5_init 24 = .ok (.aload_n 2, 1) := by decide +kernel
theorem dX5_init_25 : decode cX5_init 25 = .ok (.putfield 23, 3) := by decide +kernel
theorem dX5_init_28 : decode cX5_init 28 = .ok (.return_, 1) := by decide +kernel
theorem dX5_isThere_0 : decode cX5_isThere 0 = .ok (.aload_n 0, 1) := by decide +kernel
theorem dX5_isThere_1 : decode cX5_isThere 1 = .ok (.getfield 15, 3) := by decide +kernel
theorem dX5_isThere_4 : decode cX5_isThere 4 = .ok (.iconst (-1), 1) := by decide +kernel
theorem dX5_isThere_5 : decode cX5_isThere 5 = .ok (.if_icmp .eq 7, 3) := by decide +kernel
theorem dX5_isThere_8 : decode cX5_isThere 8 = .ok (.iconst 1, 1) := by decide +kernel
theorem dX5_isThere_9 : decode cX5_isThere 9 = .ok (.goto 4, 3) := by decide +kernel
theorem dX5_isThere_12 : decode cX5_isThere 12 = .ok (.iconst 0, 1) := by decide +kernel
theorem dX5_isThere_13 : decode cX5_isThere 13 = .ok (.ireturn, 1) := by decide +kernel
theorem dX5_forget_0 : decode cX5_forget 0 = .ok (.aload_n 0, 1) := by decide +kernel
theorem dX5_forget_1 : decode cX5_forget 1 = .ok (.iconst (-1), 1) := by decide +kernel
theorem dX5_forget_2 : decode cX5_forget 2 = .ok (.putfield 15, 3) := by decide +kernel
theorem dX5_forget_5 : decode cX5_forget 5 = .ok (.return_, 1) := by decide +kernel
theorem dX5_go_0 : decode cX5_go 0 = .ok (.aload_n 0, 1) := by decide +kernel
theorem dX5_go_1 : decode cX5_go 1 = .ok (.lload 4, 2) := by decide +kernel
theorem dX5_go_3 : decode cX5_go 3 = .ok (.ldc2_w 27, 3) := by decide +kernel
theorem dX5_go_6 : decode cX5_go 6 = .ok (.land, 1) := by decide +kernel
theorem dX5_go_7 : decode cX5_go 7 = .ok (.putfield 29, 3) := by decide +kernel
theorem dX5_go_10 : decode cX5_go 10 = .ok (.aload_n 0, 1) := by decide +kernel
theorem dX5_go_11 : decode cX5_go 11 = .ok (.iconst 0, 1) := by decide +kernel
theorem dX5_go_12 : decode cX5_go 12 = .ok (.putfield 33, 3) := by decide +kernel
theorem dX5_go_15 : decode cX5_go 15 = .ok (.aload_n 0, 1) := by decide +kernel
theorem dX5_go_16 : decode cX5_go 16 = .ok (.iload_n 3, 1) := by decide +kernel
theorem dX5_go_17 : decode cX5_go 17 = .ok (.putfield 15, 3) := by decide +kernel
theorem dX5_go_20 : decode cX5_go 20 = .ok (.aload_n 0, 1) := by decide +kernel
theorem dX5_go_21 : decode cX5_go 21 = .ok (.getfield 9, 3) := by decide +kernel
theorem dX5_go_24 : decode cX5_go 24 = .ok (.iconst 0, 1) := by decide +kernel
theorem dX5_go_25 : decode cX5_go 25 = .ok (.iload_n 2, 1) := by decide +kernel
theorem dX5_go_26 : decode cX5_go 26 = .ok (.iastore, 1) := by decide +kernel
theorem dX5_go_27 : decode cX5_go 27 = .ok (.iconst 0, 1) := by decide +kernel
theorem dX5_go_28 : decode cX5_go 28 = .ok (.istore 6, 2) := by decide +kernel
theorem dX5_go_30 : decode cX5_go 30 = .ok (.iload 6, 2) := by decide +kernel
theorem dX5_go_32 : decode cX5_go 32 = .ok (.iload_n 3, 1) := by decide +kernel
theorem dX5_go_33 : decode cX5_go 33 = .ok (.if_icmp .ge 31, 3) := by decide +kernel
theorem dX5_go_36 : decode cX5_go 36 = .ok (.aload_n 0, 1) := by decide +kernel
theorem dX5_go_37 : decode cX5_go 37 = .ok (.getfield 9, 3) := by decide +kernel
theorem dX5_go_40 : decode cX5_go 40 = .ok (.iload 6, 2) := by decide +kernel
theorem dX5_go_42 : decode cX5_go 42 = .ok (.iconst 1, 1) := by decide +kernel
theorem dX5_go_43 : decode cX5_go 43 = .ok (.iadd, 1) := by decide +kernel
theorem dX5_go_44 : decode cX5_go 44 = .ok (.aload_n 0, 1) := by decide +kernel
theorem dX5_go_45 : decode cX5_go 45 = .ok (.iload_n 1, 1) := by decide +kernel
theorem dX5_go_46 : decode cX5_go 46 = .ok (.aload_n 0, 1) := by decide +kernel
theorem dX5_go_47 : decode cX5_go 47 = .ok (.getfield 9, 3) := by decide +kernel
theorem dX5_go_50 : decode cX5_go 50 = .ok (.iload 6, 2) := by decide +kernel
theorem dX5_go_52 : decode cX5_go 52 = .ok (.iaload, 1) := by decide +kernel
theorem dX5_go_53 : decode cX5_go 53 = .ok (.iconst 0, 1) := by decide +kernel
theorem dX5_go_54 : decode cX5_go 54 = .ok (.invokevirtual 36, 3) := by decide +kernel
theorem dX5_go_57 : decode cX5_go 57 = .ok (.iastore, 1) := by decide +kernel
theorem dX5_go_58 : decode cX5_go 58 = .ok (.iinc 6 1, 3) := by decide +kernel
theorem dX5_go_61 : decode cX5_go 61 = .ok (.goto (-31), 3) := by decide +kernel
theorem dX5_go_64 : decode cX5_go 64 = .ok (.aload_n 0, 1) := by decide +kernel
theorem dX5_go_65 : decode cX5_go 65 = .ok (.getfield 9, 3) := by decide +kernel
theorem dX5_go_68 : decode cX5_go 68 = .ok (.iload_n 3, 1) := by decide +kernel
theorem dX5_go_69 : decode cX5_go 69 = .ok (.iaload, 1) := by decide +kernel
theorem dX5_go_70 : decode cX5_go 70 = .ok (.ireturn, 1) := by decide +kernel
theorem dX5_timesIn_0 : decode cX5_timesIn 0 = .ok (.iconst 0, 1) := by decide +kernel
theorem dX5_timesIn_1 : decode cX5_timesIn 1 = .ok (.istore_n 2, 1) := by decide +kernel
theorem dX5_timesIn_2 : decode cX5_timesIn 2 = .ok (.iconst 0, 1) := by decide +kernel
theorem dX5_timesIn_3 : decode cX5_timesIn 3 = .ok (.istore_n 3, 1) := by decide +kernel
theorem dX5_timesIn_4 : decode cX5_timesIn 4 = .ok (.iload_n 3, 1) := by decide +kernel
theorem dX5_timesIn_5 : decode cX5_timesIn 5 = .ok (.aload_n 0, 1) := by decide +kernel
theorem dX5_timesIn_6 : decode cX5_timesIn 6 = .ok (.getfield 15, 3) := by decide +kernel
theorem dX5_timesIn_9 : decode cX5_timesIn 9 = .ok (.if_icmp .gt 27, 3) := by decide +kernel
theorem dX5_timesIn_12 : decode cX5_timesIn 12 = .ok (.iload_n 2, 1) := by decide +kernel
theorem dX5_timesIn_13 : decode cX5_timesIn 13 = .ok (.aload_n 0, 1) := by decide +kernel
theorem dX5_timesIn_14 : decode cX5_timesIn 14 = .ok (.getfield 9, 3) := by decide +kernel
theorem dX5_timesIn_17 : decode cX5_timesIn 17 = .ok (.iload_n 3, 1) := by decide +kernel
theorem dX5_timesIn_18 : decode cX5_timesIn 18 = .ok (.iaload, 1) := by decide +kernel
theorem dX5_timesIn_19 : decode cX5_timesIn 19 = .ok (.iload_n 1, 1) := by decide +kernel
theorem dX5_timesIn_20 : decode cX5_timesIn 20 = .ok (.if_icmp .ne 7, 3) := by decide +kernel
theorem dX5_timesIn_23 : decode cX5_timesIn 23 = .ok (.iconst 1, 1) := by decide +kernel
theorem dX5_timesIn_24 : decode cX5_timesIn 24 = .ok (.goto 4, 3) := by decide +kernel
theorem dX5_timesIn_27 : decode cX5_timesIn 27 = .ok (.iconst 0, 1) := by decide +kernel
theorem dX5_timesIn_28 : decode cX5_timesIn 28 = .ok (.iadd, 1) := by decide +kernel
theorem dX5_timesIn_29 : decode cX5_timesIn 29 = .ok (.istore_n 2, 1) := by decide +kernel
theorem dX5_timesIn_30 : decode cX5_timesIn 30 = .ok (.iinc 3 1, 3) := by decide +kernel
theorem dX5_timesIn_33 : decode cX5_timesIn 33 = .ok (.goto (-29), 3) := by decide +kernel
theorem dX5_timesIn_36 : decode cX5_timesIn 36 = .ok (.iload_n 2, 1) := by decide +kernel
theorem dX5_timesIn_37 : decode cX5_timesIn 37 = .ok (.ireturn, 1) := by decide +kernel
theorem dX5_covary_0 : decode cX5_covary 0 = .ok (.aload_n 0, 1) := by decide +kernel
theorem dX5_covary_1 : decode cX5_covary 1 = .ok (.getfield 15, 3) := by decide +kernel
theorem dX5_covary_4 : decode cX5_covary 4 = .ok (.iconst 1, 1) := by decide +kernel
theorem dX5_covary_5 : decode cX5_covary 5 = .ok (.iadd, 1) := by decide +kernel
theorem dX5_covary_6 : decode cX5_covary 6 = .ok (.iload_n 2, 1) := by decide +kernel
theorem dX5_covary_7 : decode cX5_covary 7 = .ok (.isub, 1) := by decide +kernel
theorem dX5_covary_8 : decode cX5_covary 8 = .ok (.i2l, 1) := by decide +kernel
theorem dX5_covary_9 : decode cX5_covary 9 = .ok (.lstore_n 3, 1) := by decide +kernel
theorem dX5_covary_10 : decode cX5_covary 10 = .ok (.lconst 0, 1) := by decide +kernel
theorem dX5_covary_11 : decode cX5_covary 11 = .ok (.lstore 5, 2) := by decide +kernel
theorem dX5_covary_13 : decode cX5_covary 13 = .ok (.lconst 0, 1) := by decide +kernel
theorem dX5_covary_14 : decode cX5_covary 14 = .ok (.lstore 7, 2) := by decide +kernel
theorem dX5_covary_16 : decode cX5_covary 16 = .ok (.lconst 0, 1) := by decide +kernel
theorem dX5_covary_17 : decode cX5_covary 17 = .ok (.lstore 9, 2) := by decide +kernel
theorem dX5_covary_19 : decode cX5_covary 19 = .ok (.iconst 0, 1) := by decide +kernel
theorem dX5_covary_20 : decode cX5_covary 20 = .ok (.istore 11, 2) := by decide +kernel
theorem dX5_covary_22 : decode cX5_covary 22 = .ok (.iload 11, 2) := by decide +kernel
theorem dX5_covary_24 : decode cX5_covary 24 = .ok (.iload_n 2, 1) := by decide +kernel
theorem dX5_covary_25 : decode cX5_covary 25 = .ok (.iadd, 1) := by decide +kernel
theorem dX5_covary_26 : decode cX5_covary 26 = .ok (.aload_n 0, 1) := by decide +kernel
theorem dX5_covary_27 : decode cX5_covary 27 = .ok (.getfield 15, 3) := by decide +kernel
theorem dX5_covary_30 : decode cX5_covary 30 = .ok (.if_icmp .gt 71, 3) := by decide +kernel
theorem dX5_covary_33 : decode cX5_covary 33 = .ok (.aload_n 0, 1) := by decide +kernel
theorem dX5_covary_34 : decode cX5_covary 34 = .ok (.getfield 19, 3) := by decide +kernel
theorem dX5_covary_37 : decode cX5_covary 37 = .ok (.aload_n 0, 1) := by decide +kernel
theorem dX5_covary_38 : decode cX5_covary 38 = .ok (.getfield 9, 3) := by decide +kernel
theorem dX5_covary_41 : decode cX5_covary 41 = .ok (.iload 11, 2) := by decide +kernel
theorem dX5_covary_43 : decode cX5_covary 43 = .ok (.iaload, 1) := by decide +kernel
theorem dX5_covary_44 : decode cX5_covary 44 = .ok (.iload_n 1, 1) := by decide +kernel
theorem dX5_covary_45 : decode cX5_covary 45 = .ok (.invokevirtual 40, 3) := by decide +kernel
theorem dX5_covary_48 : decode cX5_covary 48 = .ok (.i2l, 1) := by decide +kernel
theorem dX5_covary_49 : decode cX5_covary 49 = .ok (.lstore 12, 2) := by decide +kernel
theorem dX5_covary_51 : decode cX5_covary 51 = .ok (.aload_n 0, 1) := by decide +kernel
theorem dX5_covary_52 : decode cX5_covary 52 = .ok (.getfield 19, 3) := by decide +kernel
theorem dX5_covary_55 : decode cX5_covary 55 = .ok (.aload_n 0, 1) := by decide +kernel
theorem dX5_covary_56 : decode cX5_covary 56 = .ok (.getfield 9, 3) := by decide +kernel
theorem dX5_covary_59 : decode cX5_covary 59 = .ok (.iload 11, 2) := by decide +kernel
theorem dX5_covary_61 : decode cX5_covary 61 = .ok (.iload_n 2, 1) := by decide +kernel
theorem dX5_covary_62 : decode cX5_covary 62 = .ok (.iadd, 1) := by decide +kernel
theorem dX5_covary_63 : decode cX5_covary 63 = .ok (.iaload, 1) := by decide +kernel
theorem dX5_covary_64 : decode cX5_covary 64 = .ok (.iload_n 1, 1) := by decide +kernel
theorem dX5_covary_65 : decode cX5_covary 65 = .ok (.invokevirtual 40, 3) := by decide +kernel
theorem dX5_covary_68 : decode cX5_covary 68 = .ok (.i2l, 1) := by decide +kernel
theorem dX5_covary_69 : decode cX5_covary 69 = .ok (.lstore 14, 2) := by decide +kernel
theorem dX5_covary_71 : decode cX5_covary 71 = .ok (.lload 5, 2) := by decide +kernel
theorem dX5_covary_73 : decode cX5_covary 73 = .ok (.lload 12, 2) := by decide +kernel
theorem dX5_covary_75 : decode cX5_covary 75 = .ok (.lload 14, 2) := by decide +kernel
theorem dX5_covary_77 : decode cX5_covary 77 = .ok (.lmul, 1) := by decide +kernel
theorem dX5_covary_78 : decode cX5_covary 78 = .ok (.ladd, 1) := by decide +kernel
theorem dX5_covary_79 : decode cX5_covary 79 = .ok (.lstore 5, 2) := by decide +kernel
theorem dX5_covary_81 : decode cX5_covary 81 = .ok (.lload 7, 2) := by decide +kernel
theorem dX5_covary_83 : decode cX5_covary 83 = .ok (.lload 12, 2) := by decide +kernel
theorem dX5_covary_85 : decode cX5_covary 85 = .ok (.ladd, 1) := by decide +kernel
theorem dX5_covary_86 : decode cX5_covary 86 = .ok (.lstore 7, 2) := by decide +kernel
theorem dX5_covary_88 : decode cX5_covary 88 = .ok (.lload 9, 2) := by decide +kernel
theorem dX5_covary_90 : decode cX5_covary 90 = .ok (.lload 14, 2) := by decide +kernel
theorem dX5_covary_92 : decode cX5_covary 92 = .ok (.ladd, 1) := by decide +kernel
theorem dX5_covary_93 : decode cX5_covary 93 = .ok (.lstore 9, 2) := by decide +kernel
theorem dX5_covary_95 : decode cX5_covary 95 = .ok (.iinc 11 1, 3) := by decide +kernel
theorem dX5_covary_98 : decode cX5_covary 98 = .ok (.goto (-76), 3) := by decide +kernel
theorem dX5_covary_101 : decode cX5_covary 101 = .ok (.lload_n 3, 1) := by decide +kernel
theorem dX5_covary_102 : decode cX5_covary 102 = .ok (.lload 5, 2) := by decide +kernel
theorem dX5_covary_104 : decode cX5_covary 104 = .ok (.lmul, 1) := by decide +kernel
theorem dX5_covary_105 : decode cX5_covary 105 = .ok (.lload 7, 2) := by decide +kernel
theorem dX5_covary_107 : decode cX5_covary 107 = .ok (.lload 9, 2) := by decide +kernel
theorem dX5_covary_109 : decode cX5_covary 109 = .ok (.lmul, 1) := by decide +kernel
theorem dX5_covary_110 : decode cX5_covary 110 = .ok (.lsub, 1) := by decide +kernel
theorem dX5_covary_111 : decode cX5_covary 111 = .ok (.lreturn, 1) := by decide +kernel
theorem dX5_draw_0 : decode cX5_draw 0 = .ok (.aload_n 0, 1) := by decide +kernel
theorem dX5_draw_1 : decode cX5_draw 1 = .ok (.aload_n 0, 1) := by decide +kernel
theorem dX5_draw_2 : decode cX5_draw 2 = .ok (.getfield 29, 3) := by decide +kernel
theorem dX5_draw_5 : decode cX5_draw 5 = .ok (.ldc2_w 46, 3) := by decide +kernel
theorem dX5_draw_8 : decode cX5_draw 8 = .ok (.lmul, 1) := by decide +kernel
theorem dX5_draw_9 : decode cX5_draw 9 = .ok (.ldc2_w 48, 3) := by decide +kernel
theorem dX5_draw_12 : decode cX5_draw 12 = .ok (.ladd, 1) := by decide +kernel
theorem dX5_draw_13 : decode cX5_draw 13 = .ok (.ldc2_w 27, 3) := by decide +kernel
theorem dX5_draw_16 : decode cX5_draw 16 = .ok (.land, 1) := by decide +kernel
theorem dX5_draw_17 : decode cX5_draw 17 = .ok (.putfield 29, 3) := by decide +kernel
theorem dX5_draw_20 : decode cX5_draw 20 = .ok (.lload_n 1, 1) := by decide +kernel
theorem dX5_draw_21 : decode cX5_draw 21 = .ok (.lconst 0, 1) := by decide +kernel
theorem dX5_draw_22 : decode cX5_draw 22 = .ok (.lcmp, 1) := by decide +kernel
theorem dX5_draw_23 : decode cX5_draw 23 = .ok (.ifCond .le 15, 3) := by decide +kernel
theorem dX5_draw_26 : decode cX5_draw 26 = .ok (.aload_n 0, 1) := by decide +kernel
theorem dX5_draw_27 : decode cX5_draw 27 = .ok (.getfield 29, 3) := by decide +kernel
theorem dX5_draw_30 : decode cX5_draw 30 = .ok (.bipush 17, 2) := by decide +kernel
theorem dX5_draw_32 : decode cX5_draw 32 = .ok (.lshr, 1) := by decide +kernel
theorem dX5_draw_33 : decode cX5_draw 33 = .ok (.lload_n 1, 1) := by decide +kernel
theorem dX5_draw_34 : decode cX5_draw 34 = .ok (.lrem, 1) := by decide +kernel
theorem dX5_draw_35 : decode cX5_draw 35 = .ok (.goto 4, 3) := by decide +kernel
theorem dX5_draw_38 : decode cX5_draw 38 = .ok (.lconst 0, 1) := by decide +kernel
theorem dX5_draw_39 : decode cX5_draw 39 = .ok (.lreturn, 1) := by decide +kernel
theorem dX5_lead_0 : decode cX5_lead 0 = .ok (.iload_n 3, 1) := by decide +kernel
theorem dX5_lead_1 : decode cX5_lead 1 = .ok (.iconst 2, 1) := by decide +kernel
theorem dX5_lead_2 : decode cX5_lead 2 = .ok (.if_icmp .le 5, 3) := by decide +kernel
theorem dX5_lead_5 : decode cX5_lead 5 = .ok (.iload_n 2, 1) := by decide +kernel
theorem dX5_lead_6 : decode cX5_lead 6 = .ok (.ireturn, 1) := by decide +kernel
theorem dX5_lead_7 : decode cX5_lead 7 = .ok (.aload_n 0, 1) := by decide +kernel
theorem dX5_lead_8 : decode cX5_lead 8 = .ok (.getfield 23, 3) := by decide +kernel
theorem dX5_lead_11 : decode cX5_lead 11 = .ok (.iload_n 1, 1) := by decide +kernel
theorem dX5_lead_12 : decode cX5_lead 12 = .ok (.aaload, 1) := by decide +kernel
theorem dX5_lead_13 : decode cX5_lead 13 = .ok (.astore 4, 2) := by decide +kernel
theorem dX5_lead_15 : decode cX5_lead 15 = .ok (.aload 4, 2) := by decide +kernel
theorem dX5_lead_17 : decode cX5_lead 17 = .ok (.getfield 50, 3) := by decide +kernel
theorem dX5_lead_20 : decode cX5_lead 20 = .ok (.tableswitch 189 0 5 #[40, 51, 98, 122, 130, 141], 40) := by decide +kernel
theorem dX5_lead_60 : decode cX5_lead 60 = .ok (.aload_n 0, 1) := by decide +kernel
theorem dX5_lead_61 : decode cX5_lead 61 = .ok (.aload 4, 2) := by decide +kernel
theorem dX5_lead_63 : decode cX5_lead 63 = .ok (.getfield 55, 3) := by decide +kernel
theorem dX5_lead_66 : decode cX5_lead 66 = .ok (.iload_n 2, 1) := by decide +kernel
theorem dX5_lead_67 : decode cX5_lead 67 = .ok (.invokevirtual 58, 3) := by decide +kernel
theorem dX5_lead_70 : decode cX5_lead 70 = .ok (.ireturn, 1) := by decide +kernel
theorem dX5_lead_71 : decode cX5_lead 71 = .ok (.aload_n 0, 1) := by decide +kernel
theorem dX5_lead_72 : decode cX5_lead 72 = .ok (.iload_n 2, 1) := by decide +kernel
theorem dX5_lead_73 : decode cX5_lead 73 = .ok (.aload_n 0, 1) := by decide +kernel
theorem dX5_lead_74 : decode cX5_lead 74 = .ok (.ldc2_w 61, 3) := by decide +kernel
theorem dX5_lead_77 : decode cX5_lead 77 = .ok (.invokevirtual 63, 3) := by decide +kernel
theorem dX5_lead_80 : decode cX5_lead 80 = .ok (.lconst 0, 1) := by decide +kernel
theorem dX5_lead_81 : decode cX5_lead 81 = .ok (.lcmp, 1) := by decide +kernel
theorem dX5_lead_82 : decode cX5_lead 82 = .ok (.ifCond .ne 19, 3) := by decide +kernel
theorem dX5_lead_85 : decode cX5_lead 85 = .ok (.aload_n 0, 1) := by decide +kernel
theorem dX5_lead_86 : decode cX5_lead 86 = .ok (.getfield 19, 3) := by decide +kernel
theorem dX5_lead_89 : decode cX5_lead 89 = .ok (.iload_n 2, 1) := by decide +kernel
theorem dX5_lead_90 : decode cX5_lead 90 = .ok (.aload 4, 2) := by decide +kernel
theorem dX5_lead_92 : decode cX5_lead 92 = .ok (.getfield 55, 3) := by decide +kernel
theorem dX5_lead_95 : decode cX5_lead 95 = .ok (.invokevirtual 67, 3) := by decide +kernel
theorem dX5_lead_98 : decode cX5_lead 98 = .ok (.goto 16, 3) := by decide +kernel
theorem dX5_lead_101 : decode cX5_lead 101 = .ok (.aload_n 0, 1) := by decide +kernel
theorem dX5_lead_102 : decode cX5_lead 102 = .ok (.getfield 19, 3) := by decide +kernel
theorem dX5_lead_105 : decode cX5_lead 105 = .ok (.iload_n 2, 1) := by decide +kernel
theorem dX5_lead_106 : decode cX5_lead 106 = .ok (.aload 4, 2) := by decide +kernel
theorem dX5_lead_108 : decode cX5_lead 108 = .ok (.getfield 55, 3) := by decide +kernel
theorem dX5_lead_111 : decode cX5_lead 111 = .ok (.invokevirtual 70, 3) := by decide +kernel
theorem dX5_lead_114 : decode cX5_lead 114 = .ok (.invokevirtual 73, 3) := by decide +kernel
theorem dX5_lead_117 : decode cX5_lead 117 = .ok (.ireturn, 1) := by decide +kernel
theorem dX5_lead_118 : decode cX5_lead 118 = .ok (.aload_n 0, 1) := by decide +kernel
theorem dX5_lead_119 : decode cX5_lead 119 = .ok (.iload_n 2, 1) := by decide +kernel
theorem dX5_lead_120 : decode cX5_lead 120 = .ok (.aload_n 0, 1) := by decide +kernel
theorem dX5_lead_121 : decode cX5_lead 121 = .ok (.getfield 19, 3) := by decide +kernel
theorem dX5_lead_124 : decode cX5_lead 124 = .ok (.iload_n 2, 1) := by decide +kernel
theorem dX5_lead_125 : decode cX5_lead 125 = .ok (.aload 4, 2) := by decide +kernel
theorem dX5_lead_127 : decode cX5_lead 127 = .ok (.getfield 55, 3) := by decide +kernel
theorem dX5_lead_130 : decode cX5_lead 130 = .ok (.aload 4, 2) := by decide +kernel
theorem dX5_lead_132 : decode cX5_lead 132 = .ok (.getfield 76, 3) := by decide +kernel
theorem dX5_lead_135 : decode cX5_lead 135 = .ok (.invokevirtual 79, 3) := by decide +kernel
theorem dX5_lead_138 : decode cX5_lead 138 = .ok (.invokevirtual 73, 3) := by decide +kernel
theorem dX5_lead_141 : decode cX5_lead 141 = .ok (.ireturn, 1) := by decide +kernel
theorem dX5_lead_142 : decode cX5_lead 142 = .ok (.aload_n 0, 1) := by decide +kernel
theorem dX5_lead_143 : decode cX5_lead 143 = .ok (.aload 4, 2) := by decide +kernel
theorem dX5_lead_145 : decode cX5_lead 145 = .ok (.iload_n 2, 1) := by decide +kernel
theorem dX5_lead_146 : decode cX5_lead 146 = .ok (.invokevirtual 82, 3) := by decide +kernel
theorem dX5_lead_149 : decode cX5_lead 149 = .ok (.ireturn, 1) := by decide +kernel
theorem dX5_lead_150 : decode cX5_lead 150 = .ok (.aload_n 0, 1) := by decide +kernel
theorem dX5_lead_151 : decode cX5_lead 151 = .ok (.aload 4, 2) := by decide +kernel
theorem dX5_lead_153 : decode cX5_lead 153 = .ok (.getfield 55, 3) := by decide +kernel
theorem dX5_lead_156 : decode cX5_lead 156 = .ok (.iload_n 2, 1) := by decide +kernel
theorem dX5_lead_157 : decode cX5_lead 157 = .ok (.invokevirtual 86, 3) := by decide +kernel
theorem dX5_lead_160 : decode cX5_lead 160 = .ok (.ireturn, 1) := by decide +kernel
theorem dX5_lead_161 : decode cX5_lead 161 = .ok (.aload_n 0, 1) := by decide +kernel
theorem dX5_lead_162 : decode cX5_lead 162 = .ok (.aload_n 0, 1) := by decide +kernel
theorem dX5_lead_163 : decode cX5_lead 163 = .ok (.aload 4, 2) := by decide +kernel
theorem dX5_lead_165 : decode cX5_lead 165 = .ok (.getfield 89, 3) := by decide +kernel
theorem dX5_lead_168 : decode cX5_lead 168 = .ok (.aload 4, 2) := by decide +kernel
theorem dX5_lead_170 : decode cX5_lead 170 = .ok (.getfield 92, 3) := by decide +kernel
theorem dX5_lead_173 : decode cX5_lead 173 = .ok (.iadd, 1) := by decide +kernel
theorem dX5_lead_174 : decode cX5_lead 174 = .ok (.i2l, 1) := by decide +kernel
theorem dX5_lead_175 : decode cX5_lead 175 = .ok (.invokevirtual 63, 3) := by decide +kernel
theorem dX5_lead_178 : decode cX5_lead 178 = .ok (.aload 4, 2) := by decide +kernel
theorem dX5_lead_180 : decode cX5_lead 180 = .ok (.getfield 89, 3) := by decide +kernel
theorem dX5_lead_183 : decode cX5_lead 183 = .ok (.i2l, 1) := by decide +kernel
theorem dX5_lead_184 : decode cX5_lead 184 = .ok (.lcmp, 1) := by decide +kernel
theorem dX5_lead_185 : decode cX5_lead 185 = .ok (.ifCond .ge 11, 3) := by decide +kernel
theorem dX5_lead_188 : decode cX5_lead 188 = .ok (.aload 4, 2) := by decide +kernel
theorem dX5_lead_190 : decode cX5_lead 190 = .ok (.getfield 55, 3) := by decide +kernel
theorem dX5_lead_193 : decode cX5_lead 193 = .ok (.goto 8, 3) := by decide +kernel
theorem dX5_lead_196 : decode cX5_lead 196 = .ok (.aload 4, 2) := by decide +kernel
theorem dX5_lead_198 : decode cX5_lead 198 = .ok (.getfield 76, 3) := by decide +kernel
theorem dX5_lead_201 : decode cX5_lead 201 = .ok (.iload_n 2, 1) := by decide +kernel
theorem dX5_lead_202 : decode cX5_lead 202 = .ok (.iload_n 3, 1) := by decide +kernel
theorem dX5_lead_203 : decode cX5_lead 203 = .ok (.iconst 1, 1) := by decide +kernel
theorem dX5_lead_204 : decode cX5_lead 204 = .ok (.iadd, 1) := by decide +kernel
theorem dX5_lead_205 : decode cX5_lead 205 = .ok (.invokevirtual 36, 3) := by decide +kernel
theorem dX5_lead_208 : decode cX5_lead 208 = .ok (.ireturn, 1) := by decide +kernel
theorem dX5_lead_209 : decode cX5_lead 209 = .ok (.aload_n 0, 1) := by decide +kernel
theorem dX5_lead_210 : decode cX5_lead 210 = .ok (.aload 4, 2) := by decide +kernel
theorem dX5_lead_212 : decode cX5_lead 212 = .ok (.getfield 76, 3) := by decide +kernel
theorem dX5_lead_215 : decode cX5_lead 215 = .ok (.aload_n 0, 1) := by decide +kernel
theorem dX5_lead_216 : decode cX5_lead 216 = .ok (.aload 4, 2) := by decide +kernel
theorem dX5_lead_218 : decode cX5_lead 218 = .ok (.getfield 55, 3) := by decide +kernel
theorem dX5_lead_221 : decode cX5_lead 221 = .ok (.iload_n 2, 1) := by decide +kernel
theorem dX5_lead_222 : decode cX5_lead 222 = .ok (.iload_n 3, 1) := by decide +kernel
theorem dX5_lead_223 : decode cX5_lead 223 = .ok (.iconst 1, 1) := by decide +kernel
theorem dX5_lead_224 : decode cX5_lead 224 = .ok (.iadd, 1) := by decide +kernel
theorem dX5_lead_225 : decode cX5_lead 225 = .ok (.invokevirtual 36, 3) := by decide +kernel
theorem dX5_lead_228 : decode cX5_lead 228 = .ok (.iload_n 3, 1) := by decide +kernel
theorem dX5_lead_229 : decode cX5_lead 229 = .ok (.iconst 1, 1) := by decide +kernel
theorem dX5_lead_230 : decode cX5_lead 230 = .ok (.iadd, 1) := by decide +kernel
theorem dX5_lead_231 : decode cX5_lead 231 = .ok (.invokevirtual 36, 3) := by decide +kernel
theorem dX5_lead_234 : decode cX5_lead 234 = .ok (.ireturn, 1) := by decide +kernel
theorem dX5_redraw_0 : decode cX5_redraw 0 = .ok (.aload_n 0, 1) := by decide +kernel
theorem dX5_redraw_1 : decode cX5_redraw 1 = .ok (.getfield 19, 3) := by decide +kernel
theorem dX5_redraw_4 : decode cX5_redraw 4 = .ok (.iload_n 2, 1) := by decide +kernel
theorem dX5_redraw_5 : decode cX5_redraw 5 = .ok (.iload_n 1, 1) := by decide +kernel
theorem dX5_redraw_6 : decode cX5_redraw 6 = .ok (.invokevirtual 95, 3) := by decide +kernel
theorem dX5_redraw_9 : decode cX5_redraw 9 = .ok (.istore_n 3, 1) := by decide +kernel
theorem dX5_redraw_10 : decode cX5_redraw 10 = .ok (.iload_n 3, 1) := by decide +kernel
theorem dX5_redraw_11 : decode cX5_redraw 11 = .ok (.ifCond .ne 5, 3) := by decide +kernel
theorem dX5_redraw_14 : decode cX5_redraw 14 = .ok (.iload_n 2, 1) := by decide +kernel
theorem dX5_redraw_15 : decode cX5_redraw 15 = .ok (.ireturn, 1) := by decide +kernel
theorem dX5_redraw_16 : decode cX5_redraw 16 = .ok (.aload_n 0, 1) := by decide +kernel
theorem dX5_redraw_17 : decode cX5_redraw 17 = .ok (.iload_n 3, 1) := by decide +kernel
theorem dX5_redraw_18 : decode cX5_redraw 18 = .ok (.i2l, 1) := by decide +kernel
theorem dX5_redraw_19 : decode cX5_redraw 19 = .ok (.invokevirtual 63, 3) := by decide +kernel
theorem dX5_redraw_22 : decode cX5_redraw 22 = .ok (.lstore 4, 2) := by decide +kernel
theorem dX5_redraw_24 : decode cX5_redraw 24 = .ok (.iconst 0, 1) := by decide +kernel
theorem dX5_redraw_25 : decode cX5_redraw 25 = .ok (.istore 6, 2) := by decide +kernel
theorem dX5_redraw_27 : decode cX5_redraw 27 = .ok (.iload 6, 2) := by decide +kernel
theorem dX5_redraw_29 : decode cX5_redraw 29 = .ok (.aload_n 0, 1) := by decide +kernel
theorem dX5_redraw_30 : decode cX5_redraw 30 = .ok (.getfield 19, 3) := by decide +kernel
theorem dX5_redraw_33 : decode cX5_redraw 33 = .ok (.getfield 98, 3) := by decide +kernel
theorem dX5_redraw_36 : decode cX5_redraw 36 = .ok (.iload_n 1, 1) := by decide +kernel
theorem dX5_redraw_37 : decode cX5_redraw 37 = .ok (.iaload, 1) := by decide +kernel
theorem dX5_redraw_38 : decode cX5_redraw 38 = .ok (.if_icmp .ge 48, 3) := by decide +kernel
theorem dX5_redraw_41 : decode cX5_redraw 41 = .ok (.aload_n 0, 1) := by decide +kernel
theorem dX5_redraw_42 : decode cX5_redraw 42 = .ok (.getfield 19, 3) := by decide +kernel
theorem dX5_redraw_45 : decode cX5_redraw 45 = .ok (.iload_n 2, 1) := by decide +kernel
theorem dX5_redraw_46 : decode cX5_redraw 46 = .ok (.iload_n 1, 1) := by decide +kernel
theorem dX5_redraw_47 : decode cX5_redraw 47 = .ok (.iload 6, 2) := by decide +kernel
theorem dX5_redraw_49 : decode cX5_redraw 49 = .ok (.invokevirtual 101, 3) := by decide +kernel
theorem dX5_redraw_52 : decode cX5_redraw 52 = .ok (.istore 7, 2) := by decide +kernel
theorem dX5_redraw_54 : decode cX5_redraw 54 = .ok (.lload 4, 2) := by decide +kernel
theorem dX5_redraw_56 : decode cX5_redraw 56 = .ok (.aload_n 0, 1) := by decide +kernel
theorem dX5_redraw_57 : decode cX5_redraw 57 = .ok (.getfield 19, 3) := by decide +kernel
theorem dX5_redraw_60 : decode cX5_redraw 60 = .ok (.getfield 104, 3) := by decide +kernel
theorem dX5_redraw_63 : decode cX5_redraw 63 = .ok (.iload 7, 2) := by decide +kernel
theorem dX5_redraw_65 : decode cX5_redraw 65 = .ok (.iaload, 1) := by decide +kernel
theorem dX5_redraw_66 : decode cX5_redraw 66 = .ok (.i2l, 1) := by decide +kernel
theorem dX5_redraw_67 : decode cX5_redraw 67 = .ok (.lsub, 1) := by decide +kernel
theorem dX5_redraw_68 : decode cX5_redraw 68 = .ok (.lstore 4, 2) := by decide +kernel
theorem dX5_redraw_70 : decode cX5_redraw 70 = .ok (.lload 4, 2) := by decide +kernel
theorem dX5_redraw_72 : decode cX5_redraw 72 = .ok (.lconst 0, 1) := by decide +kernel
theorem dX5_redraw_73 : decode cX5_redraw 73 = .ok (.lcmp, 1) := by decide +kernel
theorem dX5_redraw_74 : decode cX5_redraw 74 = .ok (.ifCond .ge 6, 3) := by decide +kernel
theorem dX5_redraw_77 : decode cX5_redraw 77 = .ok (.iload 7, 2) := by decide +kernel
theorem dX5_redraw_79 : decode cX5_redraw 79 = .ok (.ireturn, 1) := by decide +kernel
theorem dX5_redraw_80 : decode cX5_redraw 80 = .ok (.iinc 6 1, 3) := by decide +kernel
theorem dX5_redraw_83 : decode cX5_redraw 83 = .ok (.goto (-56), 3) := by decide +kernel
theorem dX5_redraw_86 : decode cX5_redraw 86 = .ok (.iload_n 2, 1) := by decide +kernel
theorem dX5_redraw_87 : decode cX5_redraw 87 = .ok (.ireturn, 1) := by decide +kernel
theorem dX5_accept_0 : decode cX5_accept 0 = .ok (.aload_n 0, 1) := by decide +kernel
theorem dX5_accept_1 : decode cX5_accept 1 = .ok (.aload_n 0, 1) := by decide +kernel
theorem dX5_accept_2 : decode cX5_accept 2 = .ok (.getfield 19, 3) := by decide +kernel
theorem dX5_accept_5 : decode cX5_accept 5 = .ok (.getfield 104, 3) := by decide +kernel
theorem dX5_accept_8 : decode cX5_accept 8 = .ok (.iload_n 2, 1) := by decide +kernel
theorem dX5_accept_9 : decode cX5_accept 9 = .ok (.iaload, 1) := by decide +kernel
theorem dX5_accept_10 : decode cX5_accept 10 = .ok (.i2l, 1) := by decide +kernel
theorem dX5_accept_11 : decode cX5_accept 11 = .ok (.aload_n 0, 1) := by decide +kernel
theorem dX5_accept_12 : decode cX5_accept 12 = .ok (.getfield 19, 3) := by decide +kernel
theorem dX5_accept_15 : decode cX5_accept 15 = .ok (.getfield 104, 3) := by decide +kernel
theorem dX5_accept_18 : decode cX5_accept 18 = .ok (.iload_n 1, 1) := by decide +kernel
theorem dX5_accept_19 : decode cX5_accept 19 = .ok (.iaload, 1) := by decide +kernel
theorem dX5_accept_20 : decode cX5_accept 20 = .ok (.i2l, 1) := by decide +kernel
theorem dX5_accept_21 : decode cX5_accept 21 = .ok (.invokevirtual 107, 3) := by decide +kernel
theorem dX5_accept_24 : decode cX5_accept 24 = .ok (.ifCond .eq 7, 3) := by decide +kernel
theorem dX5_accept_27 : decode cX5_accept 27 = .ok (.iload_n 2, 1) := by decide +kernel
theorem dX5_accept_28 : decode cX5_accept 28 = .ok (.goto 8, 3) := by decide +kernel
theorem dX5_accept_31 : decode cX5_accept 31 = .ok (.aload_n 0, 1) := by decide +kernel
theorem dX5_accept_32 : decode cX5_accept 32 = .ok (.iload_n 1, 1) := by decide +kernel
theorem dX5_accept_33 : decode cX5_accept 33 = .ok (.invokevirtual 111, 3) := by decide +kernel
theorem dX5_accept_36 : decode cX5_accept 36 = .ok (.ireturn, 1) := by decide +kernel
theorem dX5_decide_0 : decode cX5_decide 0 = .ok (.lload_n 1, 1) := by decide +kernel
theorem dX5_decide_1 : decode cX5_decide 1 = .ok (.lload_n 3, 1) := by decide +kernel
theorem dX5_decide_2 : decode cX5_decide 2 = .ok (.lcmp, 1) := by decide +kernel
theorem dX5_decide_3 : decode cX5_decide 3 = .ok (.ifCond .ge 13, 3) := by decide +kernel
theorem dX5_decide_6 : decode cX5_decide 6 = .ok (.aload_n 0, 1) := by decide +kernel
theorem dX5_decide_7 : decode cX5_decide 7 = .ok (.lload_n 3, 1) := by decide +kernel
theorem dX5_decide_8 : decode cX5_decide 8 = .ok (.invokevirtual 63, 3) := by decide +kernel
theorem dX5_decide_11 : decode cX5_decide 11 = .ok (.lload_n 1, 1) := by decide +kernel
theorem dX5_decide_12 : decode cX5_decide 12 = .ok (.lcmp, 1) := by decide +kernel
theorem dX5_decide_13 : decode cX5_decide 13 = .ok (.ifCond .ge 7, 3) := by decide +kernel
theorem dX5_decide_16 : decode cX5_decide 16 = .ok (.iconst 1, 1) := by decide +kernel
theorem dX5_decide_17 : decode cX5_decide 17 = .ok (.goto 4, 3) := by decide +kernel
theorem dX5_decide_20 : decode cX5_decide 20 = .ok (.iconst 0, 1) := by decide +kernel
theorem dX5_decide_21 : decode cX5_decide 21 = .ok (.ireturn, 1) := by decide +kernel
theorem dX5_refuse_0 : decode cX5_refuse 0 = .ok (.aload_n 0, 1) := by decide +kernel
theorem dX5_refuse_1 : decode cX5_refuse 1 = .ok (.dup, 1) := by decide +kernel
theorem dX5_refuse_2 : decode cX5_refuse 2 = .ok (.getfield 33, 3) := by decide +kernel
theorem dX5_refuse_5 : decode cX5_refuse 5 = .ok (.iconst 1, 1) := by decide +kernel
theorem dX5_refuse_6 : decode cX5_refuse 6 = .ok (.iadd, 1) := by decide +kernel
theorem dX5_refuse_7 : decode cX5_refuse 7 = .ok (.putfield 33, 3) := by decide +kernel
theorem dX5_refuse_10 : decode cX5_refuse 10 = .ok (.iload_n 1, 1) := by decide +kernel
theorem dX5_refuse_11 : decode cX5_refuse 11 = .ok (.ireturn, 1) := by decide +kernel
theorem dX5_followTold_0 : decode cX5_followTold 0 = .ok (.aload_n 1, 1) := by decide +kernel
theorem dX5_followTold_1 : decode cX5_followTold 1 = .ok (.getfield 115, 3) := by decide +kernel
theorem dX5_followTold_4 : decode cX5_followTold 4 = .ok (.iload_n 2, 1) := by decide +kernel
theorem dX5_followTold_5 : decode cX5_followTold 5 = .ok (.iaload, 1) := by decide +kernel
theorem dX5_followTold_6 : decode cX5_followTold 6 = .ok (.ifCond .ne 5, 3) := by decide +kernel
theorem dX5_followTold_9 : decode cX5_followTold 9 = .ok (.iload_n 2, 1) := by decide +kernel
theorem dX5_followTold_10 : decode cX5_followTold 10 = .ok (.ireturn, 1) := by decide +kernel
theorem dX5_followTold_11 : decode cX5_followTold 11 = .ok (.aload_n 0, 1) := by decide +kernel
theorem dX5_followTold_12 : decode cX5_followTold 12 = .ok (.aload_n 1, 1) := by decide +kernel
theorem dX5_followTold_13 : decode cX5_followTold 13 = .ok (.iload_n 2, 1) := by decide +kernel
theorem dX5_followTold_14 : decode cX5_followTold 14 = .ok (.invokevirtual 118, 3) := by decide +kernel
theorem dX5_followTold_17 : decode cX5_followTold 17 = .ok (.istore_n 3, 1) := by decide +kernel
theorem dX5_followTold_18 : decode cX5_followTold 18 = .ok (.aload_n 0, 1) := by decide +kernel
theorem dX5_followTold_19 : decode cX5_followTold 19 = .ok (.getfield 19, 3) := by decide +kernel
theorem dX5_followTold_22 : decode cX5_followTold 22 = .ok (.getfield 104, 3) := by decide +kernel
theorem dX5_followTold_25 : decode cX5_followTold 25 = .ok (.iload_n 2, 1) := by decide +kernel
theorem dX5_followTold_26 : decode cX5_followTold 26 = .ok (.iaload, 1) := by decide +kernel
theorem dX5_followTold_27 : decode cX5_followTold 27 = .ok (.ifCond .ne 5, 3) := by decide +kernel
theorem dX5_followTold_30 : decode cX5_followTold 30 = .ok (.iload_n 3, 1) := by decide +kernel
theorem dX5_followTold_31 : decode cX5_followTold 31 = .ok (.ireturn, 1) := by decide +kernel
theorem dX5_followTold_32 : decode cX5_followTold 32 = .ok (.aload_n 0, 1) := by decide +kernel
theorem dX5_followTold_33 : decode cX5_followTold 33 = .ok (.getfield 19, 3) := by decide +kernel
theorem dX5_followTold_36 : decode cX5_followTold 36 = .ok (.aload_n 1, 1) := by decide +kernel
theorem dX5_followTold_37 : decode cX5_followTold 37 = .ok (.iload_n 2, 1) := by decide +kernel
theorem dX5_followTold_38 : decode cX5_followTold 38 = .ok (.iload_n 3, 1) := by decide +kernel
theorem dX5_followTold_39 : decode cX5_followTold 39 = .ok (.invokevirtual 121, 3) := by decide +kernel
theorem dX5_followTold_42 : decode cX5_followTold 42 = .ok (.lstore 4, 2) := by decide +kernel
theorem dX5_followTold_44 : decode cX5_followTold 44 = .ok (.aload_n 0, 1) := by decide +kernel
theorem dX5_followTold_45 : decode cX5_followTold 45 = .ok (.getfield 19, 3) := by decide +kernel
theorem dX5_followTold_48 : decode cX5_followTold 48 = .ok (.aload_n 1, 1) := by decide +kernel
theorem dX5_followTold_49 : decode cX5_followTold 49 = .ok (.iload_n 3, 1) := by decide +kernel
theorem dX5_followTold_50 : decode cX5_followTold 50 = .ok (.iload_n 2, 1) := by decide +kernel
theorem dX5_followTold_51 : decode cX5_followTold 51 = .ok (.invokevirtual 121, 3) := by decide +kernel
theorem dX5_followTold_54 : decode cX5_followTold 54 = .ok (.lstore 6, 2) := by decide +kernel
theorem dX5_followTold_56 : decode cX5_followTold 56 = .ok (.lload 4, 2) := by decide +kernel
theorem dX5_followTold_58 : decode cX5_followTold 58 = .ok (.lconst 0, 1) := by decide +kernel
theorem dX5_followTold_59 : decode cX5_followTold 59 = .ok (.lcmp, 1) := by decide +kernel
theorem dX5_followTold_60 : decode cX5_followTold 60 = .ok (.ifCond .le 18, 3) := by decide +kernel
theorem dX5_followTold_63 : decode cX5_followTold 63 = .ok (.aload_n 0, 1) := by decide +kernel
theorem dX5_followTold_64 : decode cX5_followTold 64 = .ok (.lload 4, 2) := by decide +kernel
theorem dX5_followTold_66 : decode cX5_followTold 66 = .ok (.lload 6, 2) := by decide +kernel
theorem dX5_followTold_68 : decode cX5_followTold 68 = .ok (.invokevirtual 107, 3) := by decide +kernel
theorem dX5_followTold_71 : decode cX5_followTold 71 = .ok (.ifCond .eq 7, 3) := by decide +kernel
theorem dX5_followTold_74 : decode cX5_followTold 74 = .ok (.iload_n 3, 1) := by decide +kernel
theorem dX5_followTold_75 : decode cX5_followTold 75 = .ok (.goto 8, 3) := by decide +kernel
theorem dX5_followTold_78 : decode cX5_followTold 78 = .ok (.aload_n 0, 1) := by decide +kernel
theorem dX5_followTold_79 : decode cX5_followTold 79 = .ok (.iload_n 2, 1) := by decide +kernel
theorem dX5_followTold_80 : decode cX5_followTold 80 = .ok (.invokevirtual 111, 3) := by decide +kernel
theorem dX5_followTold_83 : decode cX5_followTold 83 = .ok (.ireturn, 1) := by decide +kernel
theorem dX5_drawTold_0 : decode cX5_drawTold 0 = .ok (.aload_n 0, 1) := by decide +kernel
theorem dX5_drawTold_1 : decode cX5_drawTold 1 = .ok (.aload_n 1, 1) := by decide +kernel
theorem dX5_drawTold_2 : decode cX5_drawTold 2 = .ok (.getfield 115, 3) := by decide +kernel
theorem dX5_drawTold_5 : decode cX5_drawTold 5 = .ok (.iload_n 2, 1) := by decide +kernel
theorem dX5_drawTold_6 : decode cX5_drawTold 6 = .ok (.iaload, 1) := by decide +kernel
theorem dX5_drawTold_7 : decode cX5_drawTold 7 = .ok (.i2l, 1) := by decide +kernel
theorem dX5_drawTold_8 : decode cX5_drawTold 8 = .ok (.invokevirtual 63, 3) := by decide +kernel
