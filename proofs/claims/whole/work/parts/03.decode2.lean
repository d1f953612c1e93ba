theorem dX5_drawTold_11 : decode cX5_drawTold 11 = .ok (.lstore_n 3, 1) := by decide +kernel
theorem dX5_drawTold_12 : decode cX5_drawTold 12 = .ok (.iconst 0, 1) := by decide +kernel
theorem dX5_drawTold_13 : decode cX5_drawTold 13 = .ok (.istore 5, 2) := by decide +kernel
theorem dX5_drawTold_15 : decode cX5_drawTold 15 = .ok (.iload 5, 2) := by decide +kernel
theorem dX5_drawTold_17 : decode cX5_drawTold 17 = .ok (.aload_n 0, 1) := by decide +kernel
theorem dX5_drawTold_18 : decode cX5_drawTold 18 = .ok (.getfield 19, 3) := by decide +kernel
theorem dX5_drawTold_21 : decode cX5_drawTold 21 = .ok (.getfield 125, 3) := by decide +kernel
theorem dX5_drawTold_24 : decode cX5_drawTold 24 = .ok (.if_icmp .ge 29, 3) := by decide +kernel
theorem dX5_drawTold_27 : decode cX5_drawTold 27 = .ok (.lload_n 3, 1) := by decide +kernel
theorem dX5_drawTold_28 : decode cX5_drawTold 28 = .ok (.aload_n 1, 1) := by decide +kernel
theorem dX5_drawTold_29 : decode cX5_drawTold 29 = .ok (.iload_n 2, 1) := by decide +kernel
theorem dX5_drawTold_30 : decode cX5_drawTold 30 = .ok (.iload 5, 2) := by decide +kernel
theorem dX5_drawTold_32 : decode cX5_drawTold 32 = .ok (.invokevirtual 128, 3) := by decide +kernel
theorem dX5_drawTold_35 : decode cX5_drawTold 35 = .ok (.i2l, 1) := by decide +kernel
theorem dX5_drawTold_36 : decode cX5_drawTold 36 = .ok (.lsub, 1) := by decide +kernel
theorem dX5_drawTold_37 : decode cX5_drawTold 37 = .ok (.lstore_n 3, 1) := by decide +kernel
theorem dX5_drawTold_38 : decode cX5_drawTold 38 = .ok (.lload_n 3, 1) := by decide +kernel
theorem dX5_drawTold_39 : decode cX5_drawTold 39 = .ok (.lconst 0, 1) := by decide +kernel
theorem dX5_drawTold_40 : decode cX5_drawTold 40 = .ok (.lcmp, 1) := by decide +kernel
theorem dX5_drawTold_41 : decode cX5_drawTold 41 = .ok (.ifCond .ge 6, 3) := by decide +kernel
theorem dX5_drawTold_44 : decode cX5_drawTold 44 = .ok (.iload 5, 2) := by decide +kernel
theorem dX5_drawTold_46 : decode cX5_drawTold 46 = .ok (.ireturn, 1) := by decide +kernel
theorem dX5_drawTold_47 : decode cX5_drawTold 47 = .ok (.iinc 5 1, 3) := by decide +kernel
theorem dX5_drawTold_50 : decode cX5_drawTold 50 = .ok (.goto (-35), 3) := by decide +kernel
theorem dX5_drawTold_53 : decode cX5_drawTold 53 = .ok (.iload_n 2, 1) := by decide +kernel
theorem dX5_drawTold_54 : decode cX5_drawTold 54 = .ok (.ireturn, 1) := by decide +kernel
theorem dX5_slice_0 : decode cX5_slice 0 = .ok (.aload_n 0, 1) := by decide +kernel
theorem dX5_slice_1 : decode cX5_slice 1 = .ok (.getfield 19, 3) := by decide +kernel
theorem dX5_slice_4 : decode cX5_slice 4 = .ok (.getfield 104, 3) := by decide +kernel
theorem dX5_slice_7 : decode cX5_slice 7 = .ok (.iload_n 2, 1) := by decide +kernel
theorem dX5_slice_8 : decode cX5_slice 8 = .ok (.iaload, 1) := by decide +kernel
theorem dX5_slice_9 : decode cX5_slice 9 = .ok (.ifCond .ne 5, 3) := by decide +kernel
theorem dX5_slice_12 : decode cX5_slice 12 = .ok (.iload_n 2, 1) := by decide +kernel
theorem dX5_slice_13 : decode cX5_slice 13 = .ok (.ireturn, 1) := by decide +kernel
theorem dX5_slice_14 : decode cX5_slice 14 = .ok (.iconst 1, 1) := by decide +kernel
theorem dX5_slice_15 : decode cX5_slice 15 = .ok (.aload_n 0, 1) := by decide +kernel
theorem dX5_slice_16 : decode cX5_slice 16 = .ok (.aload_n 0, 1) := by decide +kernel
theorem dX5_slice_17 : decode cX5_slice 17 = .ok (.getfield 19, 3) := by decide +kernel
theorem dX5_slice_20 : decode cX5_slice 20 = .ok (.getfield 104, 3) := by decide +kernel
theorem dX5_slice_23 : decode cX5_slice 23 = .ok (.iload_n 2, 1) := by decide +kernel
theorem dX5_slice_24 : decode cX5_slice 24 = .ok (.iaload, 1) := by decide +kernel
theorem dX5_slice_25 : decode cX5_slice 25 = .ok (.i2l, 1) := by decide +kernel
theorem dX5_slice_26 : decode cX5_slice 26 = .ok (.invokevirtual 63, 3) := by decide +kernel
theorem dX5_slice_29 : decode cX5_slice 29 = .ok (.l2i, 1) := by decide +kernel
theorem dX5_slice_30 : decode cX5_slice 30 = .ok (.iadd, 1) := by decide +kernel
theorem dX5_slice_31 : decode cX5_slice 31 = .ok (.istore_n 3, 1) := by decide +kernel
theorem dX5_slice_32 : decode cX5_slice 32 = .ok (.aload_n 0, 1) := by decide +kernel
theorem dX5_slice_33 : decode cX5_slice 33 = .ok (.aload_n 0, 1) := by decide +kernel
theorem dX5_slice_34 : decode cX5_slice 34 = .ok (.getfield 19, 3) := by decide +kernel
theorem dX5_slice_37 : decode cX5_slice 37 = .ok (.iload_n 2, 1) := by decide +kernel
theorem dX5_slice_38 : decode cX5_slice 38 = .ok (.iload_n 1, 1) := by decide +kernel
theorem dX5_slice_39 : decode cX5_slice 39 = .ok (.iload_n 3, 1) := by decide +kernel
theorem dX5_slice_40 : decode cX5_slice 40 = .ok (.invokevirtual 131, 3) := by decide +kernel
theorem dX5_slice_43 : decode cX5_slice 43 = .ok (.i2l, 1) := by decide +kernel
theorem dX5_slice_44 : decode cX5_slice 44 = .ok (.invokevirtual 63, 3) := by decide +kernel
theorem dX5_slice_47 : decode cX5_slice 47 = .ok (.lstore 4, 2) := by decide +kernel
theorem dX5_slice_49 : decode cX5_slice 49 = .ok (.iconst 0, 1) := by decide +kernel
theorem dX5_slice_50 : decode cX5_slice 50 = .ok (.istore 6, 2) := by decide +kernel
theorem dX5_slice_52 : decode cX5_slice 52 = .ok (.iload 6, 2) := by decide +kernel
theorem dX5_slice_54 : decode cX5_slice 54 = .ok (.aload_n 0, 1) := by decide +kernel
theorem dX5_slice_55 : decode cX5_slice 55 = .ok (.getfield 19, 3) := by decide +kernel
theorem dX5_slice_58 : decode cX5_slice 58 = .ok (.getfield 98, 3) := by decide +kernel
theorem dX5_slice_61 : decode cX5_slice 61 = .ok (.iload_n 1, 1) := by decide +kernel
theorem dX5_slice_62 : decode cX5_slice 62 = .ok (.iaload, 1) := by decide +kernel
theorem dX5_slice_63 : decode cX5_slice 63 = .ok (.if_icmp .ge 56, 3) := by decide +kernel
theorem dX5_slice_66 : decode cX5_slice 66 = .ok (.aload_n 0, 1) := by decide +kernel
theorem dX5_slice_67 : decode cX5_slice 67 = .ok (.getfield 19, 3) := by decide +kernel
theorem dX5_slice_70 : decode cX5_slice 70 = .ok (.iload_n 2, 1) := by decide +kernel
theorem dX5_slice_71 : decode cX5_slice 71 = .ok (.iload_n 1, 1) := by decide +kernel
theorem dX5_slice_72 : decode cX5_slice 72 = .ok (.iload 6, 2) := by decide +kernel
theorem dX5_slice_74 : decode cX5_slice 74 = .ok (.invokevirtual 101, 3) := by decide +kernel
theorem dX5_slice_77 : decode cX5_slice 77 = .ok (.istore 7, 2) := by decide +kernel
theorem dX5_slice_79 : decode cX5_slice 79 = .ok (.lload 4, 2) := by decide +kernel
theorem dX5_slice_81 : decode cX5_slice 81 = .ok (.aload_n 0, 1) := by decide +kernel
theorem dX5_slice_82 : decode cX5_slice 82 = .ok (.getfield 19, 3) := by decide +kernel
theorem dX5_slice_85 : decode cX5_slice 85 = .ok (.getfield 104, 3) := by decide +kernel
theorem dX5_slice_88 : decode cX5_slice 88 = .ok (.iload 7, 2) := by decide +kernel
theorem dX5_slice_90 : decode cX5_slice 90 = .ok (.iaload, 1) := by decide +kernel
theorem dX5_slice_91 : decode cX5_slice 91 = .ok (.iload_n 3, 1) := by decide +kernel
theorem dX5_slice_92 : decode cX5_slice 92 = .ok (.if_icmp .lt 7, 3) := by decide +kernel
theorem dX5_slice_95 : decode cX5_slice 95 = .ok (.lconst 1, 1) := by decide +kernel
theorem dX5_slice_96 : decode cX5_slice 96 = .ok (.goto 4, 3) := by decide +kernel
theorem dX5_slice_99 : decode cX5_slice 99 = .ok (.lconst 0, 1) := by decide +kernel
theorem dX5_slice_100 : decode cX5_slice 100 = .ok (.lsub, 1) := by decide +kernel
theorem dX5_slice_101 : decode cX5_slice 101 = .ok (.lstore 4, 2) := by decide +kernel
theorem dX5_slice_103 : decode cX5_slice 103 = .ok (.lload 4, 2) := by decide +kernel
theorem dX5_slice_105 : decode cX5_slice 105 = .ok (.lconst 0, 1) := by decide +kernel
theorem dX5_slice_106 : decode cX5_slice 106 = .ok (.lcmp, 1) := by decide +kernel
theorem dX5_slice_107 : decode cX5_slice 107 = .ok (.ifCond .ge 6, 3) := by decide +kernel
theorem dX5_slice_110 : decode cX5_slice 110 = .ok (.iload 7, 2) := by decide +kernel
theorem dX5_slice_112 : decode cX5_slice 112 = .ok (.ireturn, 1) := by decide +kernel
theorem dX5_slice_113 : decode cX5_slice 113 = .ok (.iinc 6 1, 3) := by decide +kernel
theorem dX5_slice_116 : decode cX5_slice 116 = .ok (.goto (-64), 3) := by decide +kernel
theorem dX5_slice_119 : decode cX5_slice 119 = .ok (.iload_n 2, 1) := by decide +kernel
theorem dX5_slice_120 : decode cX5_slice 120 = .ok (.ireturn, 1) := by decide +kernel
theorem dX6_init_0 : decode cX6_init 0 = .ok (.aload_n 0, 1) := by decide +kernel
theorem dX6_init_1 : decode cX6_init 1 = .ok (.invokespecial 3, 3) := by decide +kernel
theorem dX6_init_4 : decode cX6_init 4 = .ok (.new 9, 3) := by decide +kernel
theorem dX6_init_7 : decode cX6_init 7 = .ok (.dup, 1) := by decide +kernel
theorem dX6_init_8 : decode cX6_init 8 = .ok (.invokespecial 11, 3) := by decide +kernel
theorem dX6_init_11 : decode cX6_init 11 = .ok (.astore_n 1, 1) := by decide +kernel
theorem dX6_init_12 : decode cX6_init 12 = .ok (.bipush 10, 2) := by decide +kernel
theorem dX6_init_14 : decode cX6_init 14 = .ok (.anewarray 12, 3) := by decide +kernel
theorem dX6_init_17 : decode cX6_init 17 = .ok (.astore_n 2, 1) := by decide +kernel
theorem dX6_init_18 : decode cX6_init 18 = .ok (.iconst 0, 1) := by decide +kernel
theorem dX6_init_19 : decode cX6_init 19 = .ok (.istore_n 3, 1) := by decide +kernel
theorem dX6_init_20 : decode cX6_init 20 = .ok (.iload_n 3, 1) := by decide +kernel
theorem dX6_init_21 : decode cX6_init 21 = .ok (.bipush 10, 2) := by decide +kernel
theorem dX6_init_23 : decode cX6_init 23 = .ok (.if_icmp .ge 19, 3) := by decide +kernel
theorem dX6_init_26 : decode cX6_init 26 = .ok (.aload_n 2, 1) := by decide +kernel
theorem dX6_init_27 : decode cX6_init 27 = .ok (.iload_n 3, 1) := by decide +kernel
theorem dX6_init_28 : decode cX6_init 28 = .ok (.new 12, 3) := by decide +kernel
theorem dX6_init_31 : decode cX6_init 31 = .ok (.dup, 1) := by decide +kernel
theorem dX6_init_32 : decode cX6_init 32 = .ok (.invokespecial 14, 3) := by decide +kernel
theorem dX6_init_35 : decode cX6_init 35 = .ok (.aastore, 1) := by decide +kernel
theorem dX6_init_36 : decode cX6_init 36 = .ok (.iinc 3 1, 3) := by decide +kernel
theorem dX6_init_39 : decode cX6_init 39 = .ok (.goto (-19), 3) := by decide +kernel
theorem dX6_init_42 : decode cX6_init 42 = .ok (.aload_n 0, 1) := by decide +kernel
theorem dX6_init_43 : decode cX6_init 43 = .ok (.aload_n 1, 1) := by decide +kernel
theorem dX6_init_44 : decode cX6_init 44 = .ok (.putfield 15, 3) := by decide +kernel
theorem dX6_init_47 : decode cX6_init 47 = .ok (.aload_n 0, 1) := by decide +kernel
theorem dX6_init_48 : decode cX6_init 48 = .ok (.aload_n 2, 1) := by decide +kernel
theorem dX6_init_49 : decode cX6_init 49 = .ok (.putfield 19, 3) := by decide +kernel
theorem dX6_init_52 : decode cX6_init 52 = .ok (.aload_n 0, 1) := by decide +kernel
theorem dX6_init_53 : decode cX6_init 53 = .ok (.new 23, 3) := by decide +kernel
theorem dX6_init_56 : decode cX6_init 56 = .ok (.dup, 1) := by decide +kernel
theorem dX6_init_57 : decode cX6_init 57 = .ok (.aload_n 1, 1) := by decide +kernel
theorem dX6_init_58 : decode cX6_init 58 = .ok (.aload_n 2, 1) := by decide +kernel
theorem dX6_init_59 : decode cX6_init 59 = .ok (.invokespecial 25, 3) := by decide +kernel
theorem dX6_init_62 : decode cX6_init 62 = .ok (.putfield 28, 3) := by decide +kernel
theorem dX6_init_65 : decode cX6_init 65 = .ok (.aload_n 0, 1) := by decide +kernel
theorem dX6_init_66 : decode cX6_init 66 = .ok (.new 32, 3) := by decide +kernel
theorem dX6_init_69 : decode cX6_init 69 = .ok (.dup, 1) := by decide +kernel
theorem dX6_init_70 : decode cX6_init 70 = .ok (.aload_n 1, 1) := by decide +kernel
theorem dX6_init_71 : decode cX6_init 71 = .ok (.aload_n 2, 1) := by decide +kernel
theorem dX6_init_72 : decode cX6_init 72 = .ok (.invokespecial 34, 3) := by decide +kernel
theorem dX6_init_75 : decode cX6_init 75 = .ok (.putfield 35, 3) := by decide +kernel
theorem dX6_init_78 : decode cX6_init 78 = .ok (.aload_n 0, 1) := by decide +kernel
theorem dX6_init_79 : decode cX6_init 79 = .ok (.new 39, 3) := by decide +kernel
theorem dX6_init_82 : decode cX6_init 82 = .ok (.dup, 1) := by decide +kernel
theorem dX6_init_83 : decode cX6_init 83 = .ok (.aload_n 1, 1) := by decide +kernel
theorem dX6_init_84 : decode cX6_init 84 = .ok (.aload_n 2, 1) := by decide +kernel
theorem dX6_init_85 : decode cX6_init 85 = .ok (.invokespecial 41, 3) := by decide +kernel
theorem dX6_init_88 : decode cX6_init 88 = .ok (.putfield 42, 3) := by decide +kernel
theorem dX6_init_91 : decode cX6_init 91 = .ok (.return_, 1) := by decide +kernel
theorem dX6_model_0 : decode cX6_model 0 = .ok (.iload_n 1, 1) := by decide +kernel
theorem dX6_model_1 : decode cX6_model 1 = .ok (.iload_n 2, 1) := by decide +kernel
theorem dX6_model_2 : decode cX6_model 2 = .ok (.iload_n 3, 1) := by decide +kernel
theorem dX6_model_3 : decode cX6_model 3 = .ok (.iload 4, 2) := by decide +kernel
theorem dX6_model_5 : decode cX6_model 5 = .ok (.invokestatic 46, 3) := by decide +kernel
theorem dX6_model_8 : decode cX6_model 8 = .ok (.ifCond .ne 5, 3) := by decide +kernel
theorem dX6_model_11 : decode cX6_model 11 = .ok (.iconst (-1), 1) := by decide +kernel
theorem dX6_model_12 : decode cX6_model 12 = .ok (.ireturn, 1) := by decide +kernel
theorem dX6_model_13 : decode cX6_model 13 = .ok (.aload_n 0, 1) := by decide +kernel
theorem dX6_model_14 : decode cX6_model 14 = .ok (.getfield 15, 3) := by decide +kernel
theorem dX6_model_17 : decode cX6_model 17 = .ok (.iload_n 1, 1) := by decide +kernel
theorem dX6_model_18 : decode cX6_model 18 = .ok (.iload_n 2, 1) := by decide +kernel
theorem dX6_model_19 : decode cX6_model 19 = .ok (.iload_n 3, 1) := by decide +kernel
theorem dX6_model_20 : decode cX6_model 20 = .ok (.iload 4, 2) := by decide +kernel
theorem dX6_model_22 : decode cX6_model 22 = .ok (.invokevirtual 50, 3) := by decide +kernel
theorem dX6_model_25 : decode cX6_model 25 = .ok (.aload_n 0, 1) := by decide +kernel
theorem dX6_model_26 : decode cX6_model 26 = .ok (.iconst 0, 1) := by decide +kernel
theorem dX6_model_27 : decode cX6_model 27 = .ok (.putfield 54, 3) := by decide +kernel
theorem dX6_model_30 : decode cX6_model 30 = .ok (.aload_n 0, 1) := by decide +kernel
theorem dX6_model_31 : decode cX6_model 31 = .ok (.getfield 28, 3) := by decide +kernel
theorem dX6_model_34 : decode cX6_model 34 = .ok (.invokevirtual 58, 3) := by decide +kernel
theorem dX6_model_37 : decode cX6_model 37 = .ok (.aload_n 0, 1) := by decide +kernel
theorem dX6_model_38 : decode cX6_model 38 = .ok (.getfield 42, 3) := by decide +kernel
theorem dX6_model_41 : decode cX6_model 41 = .ok (.invokevirtual 61, 3) := by decide +kernel
theorem dX6_model_44 : decode cX6_model 44 = .ok (.aload_n 0, 1) := by decide +kernel
theorem dX6_model_45 : decode cX6_model 45 = .ok (.getfield 15, 3) := by decide +kernel
theorem dX6_model_48 : decode cX6_model 48 = .ok (.getfield 62, 3) := by decide +kernel
theorem dX6_model_51 : decode cX6_model 51 = .ok (.ireturn, 1) := by decide +kernel
theorem dX6_weight_0 : decode cX6_weight 0 = .ok (.aload_n 0, 1) := by decide +kernel
theorem dX6_weight_1 : decode cX6_weight 1 = .ok (.invokevirtual 65, 3) := by decide +kernel
theorem dX6_weight_4 : decode cX6_weight 4 = .ok (.ifCond .ne 6, 3) := by decide +kernel
theorem dX6_weight_7 : decode cX6_weight 7 = .ok (.bipush (-2), 2) := by decide +kernel
theorem dX6_weight_9 : decode cX6_weight 9 = .ok (.ireturn, 1) := by decide +kernel
theorem dX6_weight_10 : decode cX6_weight 10 = .ok (.aload_n 0, 1) := by decide +kernel
theorem dX6_weight_11 : decode cX6_weight 11 = .ok (.getfield 15, 3) := by decide +kernel
theorem dX6_weight_14 : decode cX6_weight 14 = .ok (.iload_n 1, 1) := by decide +kernel
theorem dX6_weight_15 : decode cX6_weight 15 = .ok (.invokevirtual 69, 3) := by decide +kernel
theorem dX6_weight_18 : decode cX6_weight 18 = .ok (.ifCond .eq 14, 3) := by decide +kernel
theorem dX6_weight_21 : decode cX6_weight 21 = .ok (.iload_n 2, 1) := by decide +kernel
theorem dX6_weight_22 : decode cX6_weight 22 = .ok (.ifCond .lt 10, 3) := by decide +kernel
theorem dX6_weight_25 : decode cX6_weight 25 = .ok (.iload_n 2, 1) := by decide +kernel
theorem dX6_weight_26 : decode cX6_weight 26 = .ok (.sipush 1000, 3) := by decide +kernel
theorem dX6_weight_29 : decode cX6_weight 29 = .ok (.if_icmp .le 5, 3) := by decide +kernel
theorem dX6_weight_32 : decode cX6_weight 32 = .ok (.iconst (-1), 1) := by decide +kernel
theorem dX6_weight_33 : decode cX6_weight 33 = .ok (.ireturn, 1) := by decide +kernel
theorem dX6_weight_34 : decode cX6_weight 34 = .ok (.aload_n 0, 1) := by decide +kernel
theorem dX6_weight_35 : decode cX6_weight 35 = .ok (.getfield 15, 3) := by decide +kernel
theorem dX6_weight_38 : decode cX6_weight 38 = .ok (.getfield 73, 3) := by decide +kernel
theorem dX6_weight_41 : decode cX6_weight 41 = .ok (.iload_n 1, 1) := by decide +kernel
theorem dX6_weight_42 : decode cX6_weight 42 = .ok (.iaload, 1) := by decide +kernel
theorem dX6_weight_43 : decode cX6_weight 43 = .ok (.istore_n 3, 1) := by decide +kernel
theorem dX6_weight_44 : decode cX6_weight 44 = .ok (.aload_n 0, 1) := by decide +kernel
theorem dX6_weight_45 : decode cX6_weight 45 = .ok (.getfield 15, 3) := by decide +kernel
theorem dX6_weight_48 : decode cX6_weight 48 = .ok (.getfield 73, 3) := by decide +kernel
theorem dX6_weight_51 : decode cX6_weight 51 = .ok (.iload_n 1, 1) := by decide +kernel
theorem dX6_weight_52 : decode cX6_weight 52 = .ok (.iload_n 2, 1) := by decide +kernel
theorem dX6_weight_53 : decode cX6_weight 53 = .ok (.iastore, 1) := by decide +kernel
theorem dX6_weight_54 : decode cX6_weight 54 = .ok (.aload_n 0, 1) := by decide +kernel
theorem dX6_weight_55 : decode cX6_weight 55 = .ok (.getfield 28, 3) := by decide +kernel
theorem dX6_weight_58 : decode cX6_weight 58 = .ok (.invokevirtual 58, 3) := by decide +kernel
theorem dX6_weight_61 : decode cX6_weight 61 = .ok (.iload_n 3, 1) := by decide +kernel
theorem dX6_weight_62 : decode cX6_weight 62 = .ok (.ireturn, 1) := by decide +kernel
theorem dX6_state_0 : decode cX6_state 0 = .ok (.aload_n 0, 1) := by decide +kernel
theorem dX6_state_1 : decode cX6_state 1 = .ok (.invokevirtual 65, 3) := by decide +kernel
theorem dX6_state_4 : decode cX6_state 4 = .ok (.ifCond .ne 6, 3) := by decide +kernel
theorem dX6_state_7 : decode cX6_state 7 = .ok (.bipush (-2), 2) := by decide +kernel
theorem dX6_state_9 : decode cX6_state 9 = .ok (.ireturn, 1) := by decide +kernel
theorem dX6_state_10 : decode cX6_state 10 = .ok (.aload_n 0, 1) := by decide +kernel
theorem dX6_state_11 : decode cX6_state 11 = .ok (.getfield 15, 3) := by decide +kernel
theorem dX6_state_14 : decode cX6_state 14 = .ok (.iconst 0, 1) := by decide +kernel
theorem dX6_state_15 : decode cX6_state 15 = .ok (.iload_n 1, 1) := by decide +kernel
theorem dX6_state_16 : decode cX6_state 16 = .ok (.invokevirtual 77, 3) := by decide +kernel
theorem dX6_state_19 : decode cX6_state 19 = .ok (.ifCond .eq 44, 3) := by decide +kernel
theorem dX6_state_22 : decode cX6_state 22 = .ok (.aload_n 0, 1) := by decide +kernel
theorem dX6_state_23 : decode cX6_state 23 = .ok (.getfield 15, 3) := by decide +kernel
theorem dX6_state_26 : decode cX6_state 26 = .ok (.iconst 1, 1) := by decide +kernel
theorem dX6_state_27 : decode cX6_state 27 = .ok (.iload_n 2, 1) := by decide +kernel
theorem dX6_state_28 : decode cX6_state 28 = .ok (.invokevirtual 77, 3) := by decide +kernel
theorem dX6_state_31 : decode cX6_state 31 = .ok (.ifCond .eq 32, 3) := by decide +kernel
theorem dX6_state_34 : decode cX6_state 34 = .ok (.aload_n 0, 1) := by decide +kernel
theorem dX6_state_35 : decode cX6_state 35 = .ok (.getfield 15, 3) := by decide +kernel
theorem dX6_state_38 : decode cX6_state 38 = .ok (.iconst 2, 1) := by decide +kernel
theorem dX6_state_39 : decode cX6_state 39 = .ok (.iload_n 3, 1) := by decide +kernel
theorem dX6_state_40 : decode cX6_state 40 = .ok (.invokevirtual 77, 3) := by decide +kernel
theorem dX6_state_43 : decode cX6_state 43 = .ok (.ifCond .eq 20, 3) := by decide +kernel
theorem dX6_state_46 : decode cX6_state 46 = .ok (.aload_n 0, 1) := by decide +kernel
theorem dX6_state_47 : decode cX6_state 47 = .ok (.getfield 15, 3) := by decide +kernel
theorem dX6_state_50 : decode cX6_state 50 = .ok (.iconst 3, 1) := by decide +kernel
theorem dX6_state_51 : decode cX6_state 51 = .ok (.iload 4, 2) := by decide +kernel
theorem dX6_state_53 : decode cX6_state 53 = .ok (.invokevirtual 77, 3) := by decide +kernel
theorem dX6_state_56 : decode cX6_state 56 = .ok (.ifCond .eq 7, 3) := by decide +kernel
theorem dX6_state_59 : decode cX6_state 59 = .ok (.iconst 1, 1) := by decide +kernel
theorem dX6_state_60 : decode cX6_state 60 = .ok (.goto 4, 3) := by decide +kernel
theorem dX6_state_63 : decode cX6_state 63 = .ok (.iconst 0, 1) := by decide +kernel
theorem dX6_state_64 : decode cX6_state 64 = .ok (.istore 5, 2) := by decide +kernel
theorem dX6_state_66 : decode cX6_state 66 = .ok (.iload 5, 2) := by decide +kernel
theorem dX6_state_68 : decode cX6_state 68 = .ok (.ifCond .ne 5, 3) := by decide +kernel
theorem dX6_state_71 : decode cX6_state 71 = .ok (.iconst (-1), 1) := by decide +kernel
theorem dX6_state_72 : decode cX6_state 72 = .ok (.ireturn, 1) := by decide +kernel
theorem dX6_state_73 : decode cX6_state 73 = .ok (.aload_n 0, 1) := by decide +kernel
theorem dX6_state_74 : decode cX6_state 74 = .ok (.getfield 15, 3) := by decide +kernel
theorem dX6_state_77 : decode cX6_state 77 = .ok (.iconst 0, 1) := by decide +kernel
theorem dX6_state_78 : decode cX6_state 78 = .ok (.iload_n 1, 1) := by decide +kernel
theorem dX6_state_79 : decode cX6_state 79 = .ok (.invokevirtual 81, 3) := by decide +kernel
theorem dX6_state_82 : decode cX6_state 82 = .ok (.aload_n 0, 1) := by decide +kernel
theorem dX6_state_83 : decode cX6_state 83 = .ok (.getfield 15, 3) := by decide +kernel
theorem dX6_state_86 : decode cX6_state 86 = .ok (.iconst 1, 1) := by decide +kernel
theorem dX6_state_87 : decode cX6_state 87 = .ok (.iload_n 2, 1) := by decide +kernel
theorem dX6_state_88 : decode cX6_state 88 = .ok (.invokevirtual 81, 3) := by decide +kernel
theorem dX6_state_91 : decode cX6_state 91 = .ok (.iadd, 1) := by decide +kernel
theorem dX6_state_92 : decode cX6_state 92 = .ok (.aload_n 0, 1) := by decide +kernel
theorem dX6_state_93 : decode cX6_state 93 = .ok (.getfield 15, 3) := by decide +kernel
theorem dX6_state_96 : decode cX6_state 96 = .ok (.iconst 2, 1) := by decide +kernel
theorem dX6_state_97 : decode cX6_state 97 = .ok (.iload_n 3, 1) := by decide +kernel
theorem dX6_state_98 : decode cX6_state 98 = .ok (.invokevirtual 81, 3) := by decide +kernel
theorem dX6_state_101 : decode cX6_state 101 = .ok (.iadd, 1) := by decide +kernel
theorem dX6_state_102 : decode cX6_state 102 = .ok (.aload_n 0, 1) := by decide +kernel
theorem dX6_state_103 : decode cX6_state 103 = .ok (.getfield 15, 3) := by decide +kernel
theorem dX6_state_106 : decode cX6_state 106 = .ok (.iconst 3, 1) := by decide +kernel
theorem dX6_state_107 : decode cX6_state 107 = .ok (.iload 4, 2) := by decide +kernel
theorem dX6_state_109 : decode cX6_state 109 = .ok (.invokevirtual 81, 3) := by decide +kernel
theorem dX6_state_112 : decode cX6_state 112 = .ok (.iadd, 1) := by decide +kernel
theorem dX6_state_113 : decode cX6_state 113 = .ok (.ireturn, 1) := by decide +kernel
theorem dX6_value_0 : decode cX6_value 0 = .ok (.aload_n 0, 1) := by decide +kernel
theorem dX6_value_1 : decode cX6_value 1 = .ok (.invokevirtual 65, 3) := by decide +kernel
theorem dX6_value_4 : decode cX6_value 4 = .ok (.ifCond .ne 6, 3) := by decide +kernel
theorem dX6_value_7 : decode cX6_value 7 = .ok (.bipush (-2), 2) := by decide +kernel
theorem dX6_value_9 : decode cX6_value 9 = .ok (.ireturn, 1) := by decide +kernel
theorem dX6_value_10 : decode cX6_value 10 = .ok (.aload_n 0, 1) := by decide +kernel
theorem dX6_value_11 : decode cX6_value 11 = .ok (.getfield 15, 3) := by decide +kernel
theorem dX6_value_14 : decode cX6_value 14 = .ok (.iload_n 1, 1) := by decide +kernel
theorem dX6_value_15 : decode cX6_value 15 = .ok (.invokevirtual 69, 3) := by decide +kernel
theorem dX6_value_18 : decode cX6_value 18 = .ok (.ifCond .eq 14, 3) := by decide +kernel
theorem dX6_value_21 : decode cX6_value 21 = .ok (.aload_n 0, 1) := by decide +kernel
theorem dX6_value_22 : decode cX6_value 22 = .ok (.getfield 15, 3) := by decide +kernel
theorem dX6_value_25 : decode cX6_value 25 = .ok (.iload_n 2, 1) := by decide +kernel
theorem dX6_value_26 : decode cX6_value 26 = .ok (.invokevirtual 85, 3) := by decide +kernel
theorem dX6_value_29 : decode cX6_value 29 = .ok (.ifCond .ne 5, 3) := by decide +kernel
theorem dX6_value_32 : decode cX6_value 32 = .ok (.iconst (-1), 1) := by decide +kernel
theorem dX6_value_33 : decode cX6_value 33 = .ok (.ireturn, 1) := by decide +kernel
theorem dX6_value_34 : decode cX6_value 34 = .ok (.aload_n 0, 1) := by decide +kernel
theorem dX6_value_35 : decode cX6_value 35 = .ok (.getfield 15, 3) := by decide +kernel
theorem dX6_value_38 : decode cX6_value 38 = .ok (.iload_n 1, 1) := by decide +kernel
theorem dX6_value_39 : decode cX6_value 39 = .ok (.iload_n 2, 1) := by decide +kernel
theorem dX6_value_40 : decode cX6_value 40 = .ok (.invokevirtual 88, 3) := by decide +kernel
theorem dX6_value_43 : decode cX6_value 43 = .ok (.ireturn, 1) := by decide +kernel
theorem dX6_move_0 : decode cX6_move 0 = .ok (.aload_n 0, 1) := by decide +kernel
theorem dX6_move_1 : decode cX6_move 1 = .ok (.invokevirtual 65, 3) := by decide +kernel
theorem dX6_move_4 : decode cX6_move 4 = .ok (.ifCond .ne 6, 3) := by decide +kernel
theorem dX6_move_7 : decode cX6_move 7 = .ok (.bipush (-2), 2) := by decide +kernel
theorem dX6_move_9 : decode cX6_move 9 = .ok (.ireturn, 1) := by decide +kernel
theorem dX6_move_10 : decode cX6_move 10 = .ok (.aload_n 0, 1) := by decide +kernel
theorem dX6_move_11 : decode cX6_move 11 = .ok (.iload_n 1, 1) := by decide +kernel
theorem dX6_move_12 : decode cX6_move 12 = .ok (.iload_n 2, 1) := by decide +kernel
theorem dX6_move_13 : decode cX6_move 13 = .ok (.iload_n 3, 1) := by decide +kernel
theorem dX6_move_14 : decode cX6_move 14 = .ok (.invokevirtual 91, 3) := by decide +kernel
theorem dX6_move_17 : decode cX6_move 17 = .ok (.ifCond .ne 5, 3) := by decide +kernel
theorem dX6_move_20 : decode cX6_move 20 = .ok (.iconst (-1), 1) := by decide +kernel
theorem dX6_move_21 : decode cX6_move 21 = .ok (.ireturn, 1) := by decide +kernel
theorem dX6_move_22 : decode cX6_move 22 = .ok (.aload_n 0, 1) := by decide +kernel
theorem dX6_move_23 : decode cX6_move 23 = .ok (.iload_n 1, 1) := by decide +kernel
theorem dX6_move_24 : decode cX6_move 24 = .ok (.iload_n 2, 1) := by decide +kernel
theorem dX6_move_25 : decode cX6_move 25 = .ok (.iload_n 3, 1) := by decide +kernel
theorem dX6_move_26 : decode cX6_move 26 = .ok (.invokevirtual 95, 3) := by decide +kernel
theorem dX6_move_29 : decode cX6_move 29 = .ok (.istore 4, 2) := by decide +kernel
theorem dX6_move_31 : decode cX6_move 31 = .ok (.iload 4, 2) := by decide +kernel
theorem dX6_move_33 : decode cX6_move 33 = .ok (.iconst 2, 1) := by decide +kernel
theorem dX6_move_34 : decode cX6_move 34 = .ok (.if_icmp .le 6, 3) := by decide +kernel
theorem dX6_move_37 : decode cX6_move 37 = .ok (.bipush (-5), 2) := by decide +kernel
theorem dX6_move_39 : decode cX6_move 39 = .ok (.ireturn, 1) := by decide +kernel
theorem dX6_move_40 : decode cX6_move 40 = .ok (.aload_n 0, 1) := by decide +kernel
theorem dX6_move_41 : decode cX6_move 41 = .ok (.getfield 54, 3) := by decide +kernel
theorem dX6_move_44 : decode cX6_move 44 = .ok (.bipush 10, 2) := by decide +kernel
theorem dX6_move_46 : decode cX6_move 46 = .ok (.if_icmp .lt 6, 3) := by decide +kernel
theorem dX6_move_49 : decode cX6_move 49 = .ok (.bipush (-3), 2) := by decide +kernel
theorem dX6_move_51 : decode cX6_move 51 = .ok (.ireturn, 1) := by decide +kernel
theorem dX6_move_52 : decode cX6_move 52 = .ok (.aload_n 0, 1) := by decide +kernel
theorem dX6_move_53 : decode cX6_move 53 = .ok (.getfield 19, 3) := by decide +kernel
theorem dX6_move_56 : decode cX6_move 56 = .ok (.aload_n 0, 1) := by decide +kernel
theorem dX6_move_57 : decode cX6_move 57 = .ok (.getfield 54, 3) := by decide +kernel
theorem dX6_move_60 : decode cX6_move 60 = .ok (.aaload, 1) := by decide +kernel
theorem dX6_move_61 : decode cX6_move 61 = .ok (.iload_n 1, 1) := by decide +kernel
theorem dX6_move_62 : decode cX6_move 62 = .ok (.iload_n 2, 1) := by decide +kernel
theorem dX6_move_63 : decode cX6_move 63 = .ok (.iload_n 3, 1) := by decide +kernel
theorem dX6_move_64 : decode cX6_move 64 = .ok (.iload 4, 2) := by decide +kernel
theorem dX6_move_66 : decode cX6_move 66 = .ok (.invokevirtual 99, 3) := by decide +kernel
theorem dX6_move_69 : decode cX6_move 69 = .ok (.aload_n 0, 1) := by decide +kernel
theorem dX6_move_70 : decode cX6_move 70 = .ok (.dup, 1) := by decide +kernel
theorem dX6_move_71 : decode cX6_move 71 = .ok (.getfield 54, 3) := by decide +kernel
theorem dX6_move_74 : decode cX6_move 74 = .ok (.iconst 1, 1) := by decide +kernel
theorem dX6_move_75 : decode cX6_move 75 = .ok (.iadd, 1) := by decide +kernel
theorem dX6_move_76 : decode cX6_move 76 = .ok (.putfield 54, 3) := by decide +kernel
theorem dX6_move_79 : decode cX6_move 79 = .ok (.aload_n 0, 1) := by decide +kernel
theorem dX6_move_80 : decode cX6_move 80 = .ok (.getfield 54, 3) := by decide +kernel
theorem dX6_move_83 : decode cX6_move 83 = .ok (.iconst 1, 1) := by decide +kernel
theorem dX6_move_84 : decode cX6_move 84 = .ok (.isub, 1) := by decide +kernel
theorem dX6_move_85 : decode cX6_move 85 = .ok (.ireturn, 1) := by decide +kernel
theorem dX6_odds_0 : decode cX6_odds 0 = .ok (.aload_n 0, 1) := by decide +kernel
theorem dX6_odds_1 : decode cX6_odds 1 = .ok (.invokevirtual 65, 3) := by decide +kernel
theorem dX6_odds_4 : decode cX6_odds 4 = .ok (.ifCond .ne 6, 3) := by decide +kernel
theorem dX6_odds_7 : decode cX6_odds 7 = .ok (.bipush (-2), 2) := by decide +kernel
theorem dX6_odds_9 : decode cX6_odds 9 = .ok (.ireturn, 1) := by decide +kernel
theorem dX6_odds_10 : decode cX6_odds 10 = .ok (.aload_n 0, 1) := by decide +kernel
theorem dX6_odds_11 : decode cX6_odds 11 = .ok (.iload_n 1, 1) := by decide +kernel
theorem dX6_odds_12 : decode cX6_odds 12 = .ok (.iconst 5, 1) := by decide +kernel
theorem dX6_odds_13 : decode cX6_odds 13 = .ok (.invokevirtual 102, 3) := by decide +kernel
theorem dX6_odds_16 : decode cX6_odds 16 = .ok (.ifCond .eq 25, 3) := by decide +kernel
theorem dX6_odds_19 : decode cX6_odds 19 = .ok (.iload_n 2, 1) := by decide +kernel
theorem dX6_odds_20 : decode cX6_odds 20 = .ok (.iconst 1, 1) := by decide +kernel
theorem dX6_odds_21 : decode cX6_odds 21 = .ok (.if_icmp .lt 20, 3) := by decide +kernel
theorem dX6_odds_24 : decode cX6_odds 24 = .ok (.iload_n 2, 1) := by decide +kernel
theorem dX6_odds_25 : decode cX6_odds 25 = .ok (.bipush 100, 2) := by decide +kernel
theorem dX6_odds_27 : decode cX6_odds 27 = .ok (.if_icmp .gt 14, 3) := by decide +kernel
theorem dX6_odds_30 : decode cX6_odds 30 = .ok (.iload_n 3, 1) := by decide +kernel
theorem dX6_odds_31 : decode cX6_odds 31 = .ok (.iconst 1, 1) := by decide +kernel
theorem dX6_odds_32 : decode cX6_odds 32 = .ok (.if_icmp .lt 9, 3) := by decide +kernel
theorem dX6_odds_35 : decode cX6_odds 35 = .ok (.iload_n 3, 1) := by decide +kernel
theorem dX6_odds_36 : decode cX6_odds 36 = .ok (.bipush 100, 2) := by decide +kernel
theorem dX6_odds_38 : decode cX6_odds 38 = .ok (.if_icmp .le 5, 3) := by decide +kernel
theorem dX6_odds_41 : decode cX6_odds 41 = .ok (.iconst (-1), 1) := by decide +kernel
theorem dX6_odds_42 : decode cX6_odds 42 = .ok (.ireturn, 1) := by decide +kernel
theorem dX6_odds_43 : decode cX6_odds 43 = .ok (.aload_n 0, 1) := by decide +kernel
theorem dX6_odds_44 : decode cX6_odds 44 = .ok (.getfield 19, 3) := by decide +kernel
theorem dX6_odds_47 : decode cX6_odds 47 = .ok (.iload_n 1, 1) := by decide +kernel
theorem dX6_odds_48 : decode cX6_odds 48 = .ok (.aaload, 1) := by decide +kernel
theorem dX6_odds_49 : decode cX6_odds 49 = .ok (.iload_n 2, 1) := by decide +kernel
theorem dX6_odds_50 : decode cX6_odds 50 = .ok (.putfield 105, 3) := by decide +kernel
theorem dX6_odds_53 : decode cX6_odds 53 = .ok (.aload_n 0, 1) := by decide +kernel
theorem dX6_odds_54 : decode cX6_odds 54 = .ok (.getfield 19, 3) := by decide +kernel
theorem dX6_odds_57 : decode cX6_odds 57 = .ok (.iload_n 1, 1) := by decide +kernel
theorem dX6_odds_58 : decode cX6_odds 58 = .ok (.aaload, 1) := by decide +kernel
theorem dX6_odds_59 : decode cX6_odds 59 = .ok (.iload_n 3, 1) := by decide +kernel
theorem dX6_odds_60 : decode cX6_odds 60 = .ok (.putfield 108, 3) := by decide +kernel
theorem dX6_odds_63 : decode cX6_odds 63 = .ok (.aload_n 0, 1) := by decide +kernel
theorem dX6_odds_64 : decode cX6_odds 64 = .ok (.getfield 28, 3) := by decide +kernel
theorem dX6_odds_67 : decode cX6_odds 67 = .ok (.invokevirtual 58, 3) := by decide +kernel
theorem dX6_odds_70 : decode cX6_odds 70 = .ok (.iconst 1, 1) := by decide +kernel
theorem dX6_odds_71 : decode cX6_odds 71 = .ok (.ireturn, 1) := by decide +kernel
theorem dX6_chance_0 : decode cX6_chance 0 = .ok (.aload_n 0, 1) := by decide +kernel
theorem dX6_chance_1 : decode cX6_chance 1 = .ok (.invokevirtual 65, 3) := by decide +kernel
theorem dX6_chance_4 : decode cX6_chance 4 = .ok (.ifCond .ne 6, 3) := by decide +kernel
theorem dX6_chance_7 : decode cX6_chance 7 = .ok (.bipush (-2), 2) := by decide +kernel
theorem dX6_chance_9 : decode cX6_chance 9 = .ok (.ireturn, 1) := by decide +kernel
theorem dX6_chance_10 : decode cX6_chance 10 = .ok (.aload_n 0, 1) := by decide +kernel
theorem dX6_chance_11 : decode cX6_chance 11 = .ok (.iload_n 1, 1) := by decide +kernel
theorem dX6_chance_12 : decode cX6_chance 12 = .ok (.iconst 3, 1) := by decide +kernel
theorem dX6_chance_13 : decode cX6_chance 13 = .ok (.invokevirtual 102, 3) := by decide +kernel
theorem dX6_chance_16 : decode cX6_chance 16 = .ok (.ifCond .eq 25, 3) := by decide +kernel
theorem dX6_chance_19 : decode cX6_chance 19 = .ok (.aload_n 0, 1) := by decide +kernel
theorem dX6_chance_20 : decode cX6_chance 20 = .ok (.getfield 15, 3) := by decide +kernel
theorem dX6_chance_23 : decode cX6_chance 23 = .ok (.iload_n 2, 1) := by decide +kernel
theorem dX6_chance_24 : decode cX6_chance 24 = .ok (.invokevirtual 69, 3) := by decide +kernel
theorem dX6_chance_27 : decode cX6_chance 27 = .ok (.ifCond .eq 14, 3) := by decide +kernel
theorem dX6_chance_30 : decode cX6_chance 30 = .ok (.aload_n 0, 1) := by decide +kernel
theorem dX6_chance_31 : decode cX6_chance 31 = .ok (.getfield 15, 3) := by decide +kernel
theorem dX6_chance_34 : decode cX6_chance 34 = .ok (.iload_n 3, 1) := by decide +kernel
theorem dX6_chance_35 : decode cX6_chance 35 = .ok (.invokevirtual 69, 3) := by decide +kernel
theorem dX6_chance_38 : decode cX6_chance 38 = .ok (.ifCond .ne 5, 3) := by decide +kernel
theorem dX6_chance_41 : decode cX6_chance 41 = .ok (.iconst (-1), 1) := by decide +kernel
theorem dX6_chance_42 : decode cX6_chance 42 = .ok (.ireturn, 1) := by decide +kernel
theorem dX6_chance_43 : decode cX6_chance 43 = .ok (.iload 4, 2) := by decide +kernel
theorem dX6_chance_45 : decode cX6_chance 45 = .ok (.ifCond .lt 10, 3) := by decide +kernel
theorem dX6_chance_48 : decode cX6_chance 48 = .ok (.iload 4, 2) := by decide +kernel
theorem dX6_chance_50 : decode cX6_chance 50 = .ok (.bipush 100, 2) := by decide +kernel
theorem dX6_chance_52 : decode cX6_chance 52 = .ok (.if_icmp .le 5, 3) := by decide +kernel
theorem dX6_chance_55 : decode cX6_chance 55 = .ok (.iconst (-1), 1) := by decide +kernel
theorem dX6_chance_56 : decode cX6_chance 56 = .ok (.ireturn, 1) := by decide +kernel
theorem dX6_chance_57 : decode cX6_chance 57 = .ok (.aload_n 0, 1) := by decide +kernel
theorem dX6_chance_58 : decode cX6_chance 58 = .ok (.getfield 28, 3) := by decide +kernel
theorem dX6_chance_61 : decode cX6_chance 61 = .ok (.invokevirtual 58, 3) := by decide +kernel
theorem dX6_chance_64 : decode cX6_chance 64 = .ok (.aload_n 0, 1) := by decide +kernel
theorem dX6_chance_65 : decode cX6_chance 65 = .ok (.getfield 19, 3) := by decide +kernel
theorem dX6_chance_68 : decode cX6_chance 68 = .ok (.iload_n 1, 1) := by decide +kernel
theorem dX6_chance_69 : decode cX6_chance 69 = .ok (.aaload, 1) := by decide +kernel
theorem dX6_chance_70 : decode cX6_chance 70 = .ok (.iload_n 2, 1) := by decide +kernel
theorem dX6_chance_71 : decode cX6_chance 71 = .ok (.iload_n 3, 1) := by decide +kernel
theorem dX6_chance_72 : decode cX6_chance 72 = .ok (.iload 4, 2) := by decide +kernel
theorem dX6_chance_74 : decode cX6_chance 74 = .ok (.invokevirtual 111, 3) := by decide +kernel
theorem dX6_chance_77 : decode cX6_chance 77 = .ok (.ireturn, 1) := by decide +kernel
theorem dX6_row_0 : decode cX6_row 0 = .ok (.aload_n 0, 1) := by decide +kernel
theorem dX6_row_1 : decode cX6_row 1 = .ok (.invokevirtual 65, 3) := by decide +kernel
theorem dX6_row_4 : decode cX6_row 4 = .ok (.ifCond .ne 7, 3) := by decide +kernel
theorem dX6_row_7 : decode cX6_row 7 = .ok (.ldc2_w 114, 3) := by decide +kernel
theorem dX6_row_10 : decode cX6_row 10 = .ok (.lreturn, 1) := by decide +kernel
theorem dX6_row_11 : decode cX6_row 11 = .ok (.aload_n 0, 1) := by decide +kernel
theorem dX6_row_12 : decode cX6_row 12 = .ok (.iload_n 1, 1) := by decide +kernel
theorem dX6_row_13 : decode cX6_row 13 = .ok (.invokevirtual 116, 3) := by decide +kernel
theorem dX6_row_16 : decode cX6_row 16 = .ok (.ifCond .eq 36, 3) := by decide +kernel
theorem dX6_row_19 : decode cX6_row 19 = .ok (.aload_n 0, 1) := by decide +kernel
theorem dX6_row_20 : decode cX6_row 20 = .ok (.getfield 15, 3) := by decide +kernel
theorem dX6_row_23 : decode cX6_row 23 = .ok (.iload_n 2, 1) := by decide +kernel
theorem dX6_row_24 : decode cX6_row 24 = .ok (.invokevirtual 69, 3) := by decide +kernel
theorem dX6_row_27 : decode cX6_row 27 = .ok (.ifCond .eq 25, 3) := by decide +kernel
theorem dX6_row_30 : decode cX6_row 30 = .ok (.aload_n 0, 1) := by decide +kernel
theorem dX6_row_31 : decode cX6_row 31 = .ok (.getfield 15, 3) := by decide +kernel
theorem dX6_row_34 : decode cX6_row 34 = .ok (.iload_n 3, 1) := by decide +kernel
theorem dX6_row_35 : decode cX6_row 35 = .ok (.invokevirtual 69, 3) := by decide +kernel
theorem dX6_row_38 : decode cX6_row 38 = .ok (.ifCond .eq 14, 3) := by decide +kernel
theorem dX6_row_41 : decode cX6_row 41 = .ok (.iload 4, 2) := by decide +kernel
theorem dX6_row_43 : decode cX6_row 43 = .ok (.ifCond .lt 9, 3) := by decide +kernel
theorem dX6_row_46 : decode cX6_row 46 = .ok (.iload 4, 2) := by decide +kernel
theorem dX6_row_48 : decode cX6_row 48 = .ok (.iconst 1, 1) := by decide +kernel
theorem dX6_row_49 : decode cX6_row 49 = .ok (.if_icmp .le 7, 3) := by decide +kernel
theorem dX6_row_52 : decode cX6_row 52 = .ok (.ldc2_w 119, 3) := by decide +kernel
theorem dX6_row_55 : decode cX6_row 55 = .ok (.lreturn, 1) := by decide +kernel
theorem dX6_row_56 : decode cX6_row 56 = .ok (.aload_n 0, 1) := by decide +kernel
theorem dX6_row_57 : decode cX6_row 57 = .ok (.getfield 28, 3) := by decide +kernel
theorem dX6_row_60 : decode cX6_row 60 = .ok (.iload_n 1, 1) := by decide +kernel
theorem dX6_row_61 : decode cX6_row 61 = .ok (.iload_n 2, 1) := by decide +kernel
theorem dX6_row_62 : decode cX6_row 62 = .ok (.iload_n 3, 1) := by decide +kernel
theorem dX6_row_63 : decode cX6_row 63 = .ok (.invokevirtual 121, 3) := by decide +kernel
theorem dX6_row_66 : decode cX6_row 66 = .ok (.astore 5, 2) := by decide +kernel
theorem dX6_row_68 : decode cX6_row 68 = .ok (.aload 5, 2) := by decide +kernel
theorem dX6_row_70 : decode cX6_row 70 = .ok (.getfield 125, 3) := by decide +kernel
theorem dX6_row_73 : decode cX6_row 73 = .ok (.ifCond .ne 7, 3) := by decide +kernel
theorem dX6_row_76 : decode cX6_row 76 = .ok (.ldc2_w 131, 3) := by decide +kernel
theorem dX6_row_79 : decode cX6_row 79 = .ok (.lreturn, 1) := by decide +kernel
theorem dX6_row_80 : decode cX6_row 80 = .ok (.iload 4, 2) := by decide +kernel
theorem dX6_row_82 : decode cX6_row 82 = .ok (.ifCond .ne 11, 3) := by decide +kernel
theorem dX6_row_85 : decode cX6_row 85 = .ok (.aload 5, 2) := by decide +kernel
theorem dX6_row_87 : decode cX6_row 87 = .ok (.getfield 133, 3) := by decide +kernel
theorem dX6_row_90 : decode cX6_row 90 = .ok (.goto 8, 3) := by decide +kernel
theorem dX6_row_93 : decode cX6_row 93 = .ok (.aload 5, 2) := by decide +kernel
theorem dX6_row_95 : decode cX6_row 95 = .ok (.getfield 137, 3) := by decide +kernel
theorem dX6_row_98 : decode cX6_row 98 = .ok (.lreturn, 1) := by decide +kernel
theorem dX6_keeps_0 : decode cX6_keeps 0 = .ok (.aload_n 0, 1) := by decide +kernel
theorem dX6_keeps_1 : decode cX6_keeps 1 = .ok (.invokevirtual 65, 3) := by decide +kernel
theorem dX6_keeps_4 : decode cX6_keeps 4 = .ok (.ifCond .ne 6, 3) := by decide +kernel
theorem dX6_keeps_7 : decode cX6_keeps 7 = .ok (.bipush (-2), 2) := by decide +kernel
theorem dX6_keeps_9 : decode cX6_keeps 9 = .ok (.ireturn, 1) := by decide +kernel
theorem dX6_keeps_10 : decode cX6_keeps 10 = .ok (.aload_n 0, 1) := by decide +kernel
theorem dX6_keeps_11 : decode cX6_keeps 11 = .ok (.iload_n 1, 1) := by decide +kernel
theorem dX6_keeps_12 : decode cX6_keeps 12 = .ok (.invokevirtual 116, 3) := by decide +kernel
theorem dX6_keeps_15 : decode cX6_keeps 15 = .ok (.ifCond .ne 5, 3) := by decide +kernel
theorem dX6_keeps_18 : decode cX6_keeps 18 = .ok (.iconst (-1), 1) := by decide +kernel
theorem dX6_keeps_19 : decode cX6_keeps 19 = .ok (.ireturn, 1) := by decide +kernel
theorem dX6_keeps_20 : decode cX6_keeps 20 = .ok (.aload_n 0, 1) := by decide +kernel
theorem dX6_keeps_21 : decode cX6_keeps 21 = .ok (.getfield 28, 3) := by decide +kernel
theorem dX6_keeps_24 : decode cX6_keeps 24 = .ok (.iload_n 1, 1) := by decide +kernel
theorem dX6_keeps_25 : decode cX6_keeps 25 = .ok (.invokevirtual 140, 3) := by decide +kernel
theorem dX6_keeps_28 : decode cX6_keeps 28 = .ok (.ireturn, 1) := by decide +kernel
theorem dX6_goesBack_0 : decode cX6_goesBack 0 = .ok (.aload_n 0, 1) := by decide +kernel
theorem dX6_goesBack_1 : decode cX6_goesBack 1 = .ok (.invokevirtual 65, 3) := by decide +kernel
theorem dX6_goesBack_4 : decode cX6_goesBack 4 = .ok (.ifCond .ne 6, 3) := by decide +kernel
theorem dX6_goesBack_7 : decode cX6_goesBack 7 = .ok (.bipush (-2), 2) := by decide +kernel
theorem dX6_goesBack_9 : decode cX6_goesBack 9 = .ok (.ireturn, 1) := by decide +kernel
theorem dX6_goesBack_10 : decode cX6_goesBack 10 = .ok (.aload_n 0, 1) := by decide +kernel
theorem dX6_goesBack_11 : decode cX6_goesBack 11 = .ok (.iload_n 1, 1) := by decide +kernel
theorem dX6_goesBack_12 : decode cX6_goesBack 12 = .ok (.invokevirtual 116, 3) := by decide +kernel
theorem dX6_goesBack_15 : decode cX6_goesBack 15 = .ok (.ifCond .ne 5, 3) := by decide +kernel
theorem dX6_goesBack_18 : decode cX6_goesBack 18 = .ok (.iconst (-1), 1) := by decide +kernel
theorem dX6_goesBack_19 : decode cX6_goesBack 19 = .ok (.ireturn, 1) := by decide +kernel
theorem dX6_goesBack_20 : decode cX6_goesBack 20 = .ok (.aload_n 0, 1) := by decide +kernel
theorem dX6_goesBack_21 : decode cX6_goesBack 21 = .ok (.getfield 28, 3) := by decide +kernel
theorem dX6_goesBack_24 : decode cX6_goesBack 24 = .ok (.iload_n 1, 1) := by decide +kernel
theorem dX6_goesBack_25 : decode cX6_goesBack 25 = .ok (.invokevirtual 144, 3) := by decide +kernel
theorem dX6_goesBack_28 : decode cX6_goesBack 28 = .ok (.ireturn, 1) := by decide +kernel
theorem dX6_reach_0 : decode cX6_reach 0 = .ok (.aload_n 0, 1) := by decide +kernel
theorem dX6_reach_1 : decode cX6_reach 1 = .ok (.invokevirtual 65, 3) := by decide +kernel
theorem dX6_reach_4 : decode cX6_reach 4 = .ok (.ifCond .ne 6, 3) := by decide +kernel
theorem dX6_reach_7 : decode cX6_reach 7 = .ok (.bipush (-2), 2) := by decide +kernel
theorem dX6_reach_9 : decode cX6_reach 9 = .ok (.ireturn, 1) := by decide +kernel
theorem dX6_reach_10 : decode cX6_reach 10 = .ok (.aload_n 0, 1) := by decide +kernel
theorem dX6_reach_11 : decode cX6_reach 11 = .ok (.iload_n 1, 1) := by decide +kernel
theorem dX6_reach_12 : decode cX6_reach 12 = .ok (.invokevirtual 116, 3) := by decide +kernel
theorem dX6_reach_15 : decode cX6_reach 15 = .ok (.ifCond .eq 14, 3) := by decide +kernel
theorem dX6_reach_18 : decode cX6_reach 18 = .ok (.aload_n 0, 1) := by decide +kernel
theorem dX6_reach_19 : decode cX6_reach 19 = .ok (.getfield 15, 3) := by decide +kernel
theorem dX6_reach_22 : decode cX6_reach 22 = .ok (.iload_n 2, 1) := by decide +kernel
theorem dX6_reach_23 : decode cX6_reach 23 = .ok (.invokevirtual 69, 3) := by decide +kernel
theorem dX6_reach_26 : decode cX6_reach 26 = .ok (.ifCond .ne 5, 3) := by decide +kernel
theorem dX6_reach_29 : decode cX6_reach 29 = .ok (.iconst (-1), 1) := by decide +kernel
theorem dX6_reach_30 : decode cX6_reach 30 = .ok (.ireturn, 1) := by decide +kernel
theorem dX6_reach_31 : decode cX6_reach 31 = .ok (.aload_n 0, 1) := by decide +kernel
theorem dX6_reach_32 : decode cX6_reach 32 = .ok (.getfield 35, 3) := by decide +kernel
theorem dX6_reach_35 : decode cX6_reach 35 = .ok (.iload_n 1, 1) := by decide +kernel
theorem dX6_reach_36 : decode cX6_reach 36 = .ok (.iload_n 2, 1) := by decide +kernel
theorem dX6_reach_37 : decode cX6_reach 37 = .ok (.invokevirtual 147, 3) := by decide +kernel
theorem dX6_reach_40 : decode cX6_reach 40 = .ok (.invokestatic 150, 3) := by decide +kernel
theorem dX6_reach_43 : decode cX6_reach 43 = .ok (.ireturn, 1) := by decide +kernel
theorem dX6_run_0 : decode cX6_run 0 = .ok (.aload_n 0, 1) := by decide +kernel
theorem dX6_run_1 : decode cX6_run 1 = .ok (.invokevirtual 65, 3) := by decide +kernel
theorem dX6_run_4 : decode cX6_run 4 = .ok (.ifCond .ne 6, 3) := by decide +kernel
theorem dX6_run_7 : decode cX6_run 7 = .ok (.bipush (-2), 2) := by decide +kernel
theorem dX6_run_9 : decode cX6_run 9 = .ok (.ireturn, 1) := by decide +kernel
theorem dX6_run_10 : decode cX6_run 10 = .ok (.aload_n 0, 1) := by decide +kernel
theorem dX6_run_11 : decode cX6_run 11 = .ok (.iload_n 1, 1) := by decide +kernel
theorem dX6_run_12 : decode cX6_run 12 = .ok (.invokevirtual 116, 3) := by decide +kernel
theorem dX6_run_15 : decode cX6_run 15 = .ok (.ifCond .eq 25, 3) := by decide +kernel
theorem dX6_run_18 : decode cX6_run 18 = .ok (.aload_n 0, 1) := by decide +kernel
theorem dX6_run_19 : decode cX6_run 19 = .ok (.getfield 15, 3) := by decide +kernel
theorem dX6_run_22 : decode cX6_run 22 = .ok (.iload_n 2, 1) := by decide +kernel
theorem dX6_run_23 : decode cX6_run 23 = .ok (.invokevirtual 69, 3) := by decide +kernel
theorem dX6_run_26 : decode cX6_run 26 = .ok (.ifCond .eq 14, 3) := by decide +kernel
theorem dX6_run_29 : decode cX6_run 29 = .ok (.iload_n 3, 1) := by decide +kernel
theorem dX6_run_30 : decode cX6_run 30 = .ok (.ifCond .lt 10, 3) := by decide +kernel
theorem dX6_run_33 : decode cX6_run 33 = .ok (.iload_n 3, 1) := by decide +kernel
theorem dX6_run_34 : decode cX6_run 34 = .ok (.sipush 200, 3) := by decide +kernel
theorem dX6_run_37 : decode cX6_run 37 = .ok (.if_icmp .le 5, 3) := by decide +kernel
theorem dX6_run_40 : decode cX6_run 40 = .ok (.iconst (-1), 1) := by decide +kernel
theorem dX6_run_41 : decode cX6_run 41 = .ok (.ireturn, 1) := by decide +kernel
theorem dX6_run_42 : decode cX6_run 42 = .ok (.aload_n 0, 1) := by decide +kernel
theorem dX6_run_43 : decode cX6_run 43 = .ok (.getfield 42, 3) := by decide +kernel
theorem dX6_run_46 : decode cX6_run 46 = .ok (.iload_n 1, 1) := by decide +kernel
theorem dX6_run_47 : decode cX6_run 47 = .ok (.iload_n 2, 1) := by decide +kernel
theorem dX6_run_48 : decode cX6_run 48 = .ok (.iload_n 3, 1) := by decide +kernel
theorem dX6_run_49 : decode cX6_run 49 = .ok (.lload 4, 2) := by decide +kernel
theorem dX6_run_51 : decode cX6_run 51 = .ok (.invokevirtual 155, 3) := by decide +kernel
theorem dX6_run_54 : decode cX6_run 54 = .ok (.ireturn, 1) := by decide +kernel
theorem dX6_trace_0 : decode cX6_trace 0 = .ok (.aload_n 0, 1) := by decide +kernel
theorem dX6_trace_1 : decode cX6_trace 1 = .ok (.getfield 42, 3) := by decide +kernel
theorem dX6_trace_4 : decode cX6_trace 4 = .ok (.invokevirtual 159, 3) := by decide +kernel
theorem dX6_trace_7 : decode cX6_trace 7 = .ok (.ifCond .ne 6, 3) := by decide +kernel
theorem dX6_trace_10 : decode cX6_trace 10 = .ok (.bipush (-2), 2) := by decide +kernel
theorem dX6_trace_12 : decode cX6_trace 12 = .ok (.ireturn, 1) := by decide +kernel
theorem dX6_trace_13 : decode cX6_trace 13 = .ok (.iload_n 1, 1) := by decide +kernel
theorem dX6_trace_14 : decode cX6_trace 14 = .ok (.ifCond .lt 14, 3) := by decide +kernel
theorem dX6_trace_17 : decode cX6_trace 17 = .ok (.iload_n 1, 1) := by decide +kernel
theorem dX6_trace_18 : decode cX6_trace 18 = .ok (.aload_n 0, 1) := by decide +kernel
theorem dX6_trace_19 : decode cX6_trace 19 = .ok (.getfield 42, 3) := by decide +kernel
theorem dX6_trace_22 : decode cX6_trace 22 = .ok (.getfield 162, 3) := by decide +kernel
theorem dX6_trace_25 : decode cX6_trace 25 = .ok (.if_icmp .le 5, 3) := by decide +kernel
theorem dX6_trace_28 : decode cX6_trace 28 = .ok (.iconst (-1), 1) := by decide +kernel
theorem dX6_trace_29 : decode cX6_trace 29 = .ok (.ireturn, 1) := by decide +kernel
theorem dX6_trace_30 : decode cX6_trace 30 = .ok (.aload_n 0, 1) := by decide +kernel
theorem dX6_trace_31 : decode cX6_trace 31 = .ok (.getfield 42, 3) := by decide +kernel
theorem dX6_trace_34 : decode cX6_trace 34 = .ok (.getfield 165, 3) := by decide +kernel
theorem dX6_trace_37 : decode cX6_trace 37 = .ok (.iload_n 1, 1) := by decide +kernel
theorem dX6_trace_38 : decode cX6_trace 38 = .ok (.iaload, 1) := by decide +kernel
theorem dX6_trace_39 : decode cX6_trace 39 = .ok (.ireturn, 1) := by decide +kernel
theorem dX6_visits_0 : decode cX6_visits 0 = .ok (.aload_n 0, 1) := by decide +kernel
theorem dX6_visits_1 : decode cX6_visits 1 = .ok (.getfield 42, 3) := by decide +kernel
theorem dX6_visits_4 : decode cX6_visits 4 = .ok (.invokevirtual 159, 3) := by decide +kernel
theorem dX6_visits_7 : decode cX6_visits 7 = .ok (.ifCond .ne 6, 3) := by decide +kernel
theorem dX6_visits_10 : decode cX6_visits 10 = .ok (.bipush (-2), 2) := by decide +kernel
theorem dX6_visits_12 : decode cX6_visits 12 = .ok (.ireturn, 1) := by decide +kernel
theorem dX6_visits_13 : decode cX6_visits 13 = .ok (.aload_n 0, 1) := by decide +kernel
theorem dX6_visits_14 : decode cX6_visits 14 = .ok (.getfield 15, 3) := by decide +kernel
theorem dX6_visits_17 : decode cX6_visits 17 = .ok (.iload_n 1, 1) := by decide +kernel
theorem dX6_visits_18 : decode cX6_visits 18 = .ok (.invokevirtual 69, 3) := by decide +kernel
theorem dX6_visits_21 : decode cX6_visits 21 = .ok (.ifCond .ne 5, 3) := by decide +kernel
theorem dX6_visits_24 : decode cX6_visits 24 = .ok (.iconst (-1), 1) := by decide +kernel
theorem dX6_visits_25 : decode cX6_visits 25 = .ok (.ireturn, 1) := by decide +kernel
theorem dX6_visits_26 : decode cX6_visits 26 = .ok (.aload_n 0, 1) := by decide +kernel
theorem dX6_visits_27 : decode cX6_visits 27 = .ok (.getfield 42, 3) := by decide +kernel
theorem dX6_visits_30 : decode cX6_visits 30 = .ok (.iload_n 1, 1) := by decide +kernel
theorem dX6_visits_31 : decode cX6_visits 31 = .ok (.invokevirtual 168, 3) := by decide +kernel
theorem dX6_visits_34 : decode cX6_visits 34 = .ok (.ireturn, 1) := by decide +kernel
theorem dX6_refused_0 : decode cX6_refused 0 = .ok (.aload_n 0, 1) := by decide +kernel
theorem dX6_refused_1 : decode cX6_refused 1 = .ok (.getfield 42, 3) := by decide +kernel
theorem dX6_refused_4 : decode cX6_refused 4 = .ok (.invokevirtual 159, 3) := by decide +kernel
theorem dX6_refused_7 : decode cX6_refused 7 = .ok (.ifCond .eq 13, 3) := by decide +kernel
theorem dX6_refused_10 : decode cX6_refused 10 = .ok (.aload_n 0, 1) := by decide +kernel
theorem dX6_refused_11 : decode cX6_refused 11 = .ok (.getfield 42, 3) := by decide +kernel
theorem dX6_refused_14 : decode cX6_refused 14 = .ok (.getfield 171, 3) := by decide +kernel
theorem dX6_refused_17 : decode cX6_refused 17 = .ok (.goto 5, 3) := by decide +kernel
theorem dX6_refused_20 : decode cX6_refused 20 = .ok (.bipush (-2), 2) := by decide +kernel
theorem dX6_refused_22 : decode cX6_refused 22 = .ok (.ireturn, 1) := by decide +kernel
theorem dX6_together_0 : decode cX6_together 0 = .ok (.aload_n 0, 1) := by decide +kernel
theorem dX6_together_1 : decode cX6_together 1 = .ok (.getfield 42, 3) := by decide +kernel
theorem dX6_together_4 : decode cX6_together 4 = .ok (.invokevirtual 159, 3) := by decide +kernel
theorem dX6_together_7 : decode cX6_together 7 = .ok (.ifCond .ne 7, 3) := by decide +kernel
theorem dX6_together_10 : decode cX6_together 10 = .ok (.ldc2_w 114, 3) := by decide +kernel
theorem dX6_together_13 : decode cX6_together 13 = .ok (.lreturn, 1) := by decide +kernel
theorem dX6_together_14 : decode cX6_together 14 = .ok (.aload_n 0, 1) := by decide +kernel
theorem dX6_together_15 : decode cX6_together 15 = .ok (.getfield 15, 3) := by decide +kernel
theorem dX6_together_18 : decode cX6_together 18 = .ok (.iload_n 1, 1) := by decide +kernel
theorem dX6_together_19 : decode cX6_together 19 = .ok (.invokevirtual 85, 3) := by decide +kernel
theorem dX6_together_22 : decode cX6_together 22 = .ok (.ifCond .eq 18, 3) := by decide +kernel
theorem dX6_together_25 : decode cX6_together 25 = .ok (.iload_n 2, 1) := by decide +kernel
theorem dX6_together_26 : decode cX6_together 26 = .ok (.ifCond .lt 14, 3) := by decide +kernel
theorem dX6_together_29 : decode cX6_together 29 = .ok (.iload_n 2, 1) := by decide +kernel
theorem dX6_together_30 : decode cX6_together 30 = .ok (.aload_n 0, 1) := by decide +kernel
theorem dX6_together_31 : decode cX6_together 31 = .ok (.getfield 42, 3) := by decide +kernel
theorem dX6_together_34 : decode cX6_together 34 = .ok (.getfield 162, 3) := by decide +kernel
theorem dX6_together_37 : decode cX6_together 37 = .ok (.if_icmp .le 7, 3) := by decide +kernel
theorem dX6_together_40 : decode cX6_together 40 = .ok (.ldc2_w 119, 3) := by decide +kernel
theorem dX6_together_43 : decode cX6_together 43 = .ok (.lreturn, 1) := by decide +kernel
theorem dX6_together_44 : decode cX6_together 44 = .ok (.aload_n 0, 1) := by decide +kernel
theorem dX6_together_45 : decode cX6_together 45 = .ok (.getfield 42, 3) := by decide +kernel
theorem dX6_together_48 : decode cX6_together 48 = .ok (.iload_n 1, 1) := by decide +kernel
theorem dX6_together_49 : decode cX6_together 49 = .ok (.iload_n 2, 1) := by decide +kernel
theorem dX6_together_50 : decode cX6_together 50 = .ok (.invokevirtual 174, 3) := by decide +kernel
theorem dX6_together_53 : decode cX6_together 53 = .ok (.lreturn, 1) := by decide +kernel
theorem dX6_count_0 : decode cX6_count 0 = .ok (.iload_n 1, 1) := by decide +kernel
theorem dX6_count_1 : decode cX6_count 1 = .ok (.tableswitch 60 0 3 #[31, 39, 47, 52], 31) := by decide +kernel
theorem dX6_count_32 : decode cX6_count 32 = .ok (.aload_n 0, 1) := by decide +kernel
theorem dX6_count_33 : decode cX6_count 33 = .ok (.getfield 15, 3) := by decide +kernel
theorem dX6_count_36 : decode cX6_count 36 = .ok (.getfield 178, 3) := by decide +kernel
theorem dX6_count_39 : decode cX6_count 39 = .ok (.ireturn, 1) := by decide +kernel
theorem dX6_count_40 : decode cX6_count 40 = .ok (.aload_n 0, 1) := by decide +kernel
theorem dX6_count_41 : decode cX6_count 41 = .ok (.getfield 15, 3) := by decide +kernel
theorem dX6_count_44 : decode cX6_count 44 = .ok (.getfield 62, 3) := by decide +kernel
theorem dX6_count_47 : decode cX6_count 47 = .ok (.ireturn, 1) := by decide +kernel
theorem dX6_count_48 : decode cX6_count 48 = .ok (.aload_n 0, 1) := by decide +kernel
theorem dX6_count_49 : decode cX6_count 49 = .ok (.getfield 54, 3) := by decide +kernel
theorem dX6_count_52 : decode cX6_count 52 = .ok (.ireturn, 1) := by decide +kernel
theorem dX6_count_53 : decode cX6_count 53 = .ok (.aload_n 0, 1) := by decide +kernel
theorem dX6_count_54 : decode cX6_count 54 = .ok (.getfield 42, 3) := by decide +kernel
theorem dX6_count_57 : decode cX6_count 57 = .ok (.getfield 162, 3) := by decide +kernel
theorem dX6_count_60 : decode cX6_count 60 = .ok (.ireturn, 1) := by decide +kernel
theorem dX6_count_61 : decode cX6_count 61 = .ok (.iconst (-1), 1) := by decide +kernel
theorem dX6_count_62 : decode cX6_count 62 = .ok (.ireturn, 1) := by decide +kernel
theorem dX6_hasModel_0 : decode cX6_hasModel 0 = .ok (.aload_n 0, 1) := by decide +kernel
theorem dX6_hasModel_1 : decode cX6_hasModel 1 = .ok (.getfield 15, 3) := by decide +kernel
theorem dX6_hasModel_4 : decode cX6_hasModel 4 = .ok (.getfield 62, 3) := by decide +kernel
theorem dX6_hasModel_7 : decode cX6_hasModel 7 = .ok (.ifCond .le 7, 3) := by decide +kernel
theorem dX6_hasModel_10 : decode cX6_hasModel 10 = .ok (.iconst 1, 1) := by decide +kernel
theorem dX6_hasModel_11 : decode cX6_hasModel 11 = .ok (.goto 4, 3) := by decide +kernel
theorem dX6_hasModel_14 : decode cX6_hasModel 14 = .ok (.iconst 0, 1) := by decide +kernel
theorem dX6_hasModel_15 : decode cX6_hasModel 15 = .ok (.ireturn, 1) := by decide +kernel
theorem dX6_isMove_0 : decode cX6_isMove 0 = .ok (.iload_n 1, 1) := by decide +kernel
theorem dX6_isMove_1 : decode cX6_isMove 1 = .ok (.ifCond .lt 15, 3) := by decide +kernel
theorem dX6_isMove_4 : decode cX6_isMove 4 = .ok (.iload_n 1, 1) := by decide +kernel
theorem dX6_isMove_5 : decode cX6_isMove 5 = .ok (.aload_n 0, 1) := by decide +kernel
theorem dX6_isMove_6 : decode cX6_isMove 6 = .ok (.getfield 54, 3) := by decide +kernel
theorem dX6_isMove_9 : decode cX6_isMove 9 = .ok (.if_icmp .ge 7, 3) := by decide +kernel
theorem dX6_isMove_12 : decode cX6_isMove 12 = .ok (.iconst 1, 1) := by decide +kernel
theorem dX6_isMove_13 : decode cX6_isMove 13 = .ok (.goto 4, 3) := by decide +kernel
theorem dX6_isMove_16 : decode cX6_isMove 16 = .ok (.iconst 0, 1) := by decide +kernel
theorem dX6_isMove_17 : decode cX6_isMove 17 = .ok (.ireturn, 1) := by decide +kernel
theorem dX6_isMoveOf_0 : decode cX6_isMoveOf 0 = .ok (.aload_n 0, 1) := by decide +kernel
theorem dX6_isMoveOf_1 : decode cX6_isMoveOf 1 = .ok (.iload_n 1, 1) := by decide +kernel
theorem dX6_isMoveOf_2 : decode cX6_isMoveOf 2 = .ok (.invokevirtual 116, 3) := by decide +kernel
theorem dX6_isMoveOf_5 : decode cX6_isMoveOf 5 = .ok (.ifCond .eq 20, 3) := by decide +kernel
theorem dX6_isMoveOf_8 : decode cX6_isMoveOf 8 = .ok (.aload_n 0, 1) := by decide +kernel
theorem dX6_isMoveOf_9 : decode cX6_isMoveOf 9 = .ok (.getfield 19, 3) := by decide +kernel
theorem dX6_isMoveOf_12 : decode cX6_isMoveOf 12 = .ok (.iload_n 1, 1) := by decide +kernel
theorem dX6_isMoveOf_13 : decode cX6_isMoveOf 13 = .ok (.aaload, 1) := by decide +kernel
theorem dX6_isMoveOf_14 : decode cX6_isMoveOf 14 = .ok (.getfield 181, 3) := by decide +kernel
theorem dX6_isMoveOf_17 : decode cX6_isMoveOf 17 = .ok (.iload_n 2, 1) := by decide +kernel
theorem dX6_isMoveOf_18 : decode cX6_isMoveOf 18 = .ok (.if_icmp .ne 7, 3) := by decide +kernel
theorem dX6_isMoveOf_21 : decode cX6_isMoveOf 21 = .ok (.iconst 1, 1) := by decide +kernel
theorem dX6_isMoveOf_22 : decode cX6_isMoveOf 22 = .ok (.goto 4, 3) := by decide +kernel
theorem dX6_isMoveOf_25 : decode cX6_isMoveOf 25 = .ok (.iconst 0, 1) := by decide +kernel
theorem dX6_isMoveOf_26 : decode cX6_isMoveOf 26 = .ok (.ireturn, 1) := by decide +kernel
theorem dX6_canName_0 : decode cX6_canName 0 = .ok (.iload_n 1, 1) := by decide +kernel
theorem dX6_canName_1 : decode cX6_canName 1 = .ok (.tableswitch 130 0 6 #[43, 43, 52, 106, 43, 108, 108], 43) := by decide +kernel
theorem dX6_canName_44 : decode cX6_canName 44 = .ok (.aload_n 0, 1) := by decide +kernel
theorem dX6_canName_45 : decode cX6_canName 45 = .ok (.getfield 15, 3) := by decide +kernel
theorem dX6_canName_48 : decode cX6_canName 48 = .ok (.iload_n 2, 1) := by decide +kernel
theorem dX6_canName_49 : decode cX6_canName 49 = .ok (.invokevirtual 85, 3) := by decide +kernel
theorem dX6_canName_52 : decode cX6_canName 52 = .ok (.ireturn, 1) := by decide +kernel
theorem dX6_canName_53 : decode cX6_canName 53 = .ok (.aload_n 0, 1) := by decide +kernel
theorem dX6_canName_54 : decode cX6_canName 54 = .ok (.getfield 15, 3) := by decide +kernel
theorem dX6_canName_57 : decode cX6_canName 57 = .ok (.iload_n 2, 1) := by decide +kernel
theorem dX6_canName_58 : decode cX6_canName 58 = .ok (.invokevirtual 85, 3) := by decide +kernel
theorem dX6_canName_61 : decode cX6_canName 61 = .ok (.ifCond .eq 44, 3) := by decide +kernel
theorem dX6_canName_64 : decode cX6_canName 64 = .ok (.aload_n 0, 1) := by decide +kernel
theorem dX6_canName_65 : decode cX6_canName 65 = .ok (.getfield 15, 3) := by decide +kernel
theorem dX6_canName_68 : decode cX6_canName 68 = .ok (.iload_n 3, 1) := by decide +kernel
theorem dX6_canName_69 : decode cX6_canName 69 = .ok (.invokevirtual 85, 3) := by decide +kernel
theorem dX6_canName_72 : decode cX6_canName 72 = .ok (.ifCond .eq 33, 3) := by decide +kernel
theorem dX6_canName_75 : decode cX6_canName 75 = .ok (.iload_n 2, 1) := by decide +kernel
theorem dX6_canName_76 : decode cX6_canName 76 = .ok (.iload_n 3, 1) := by decide +kernel
theorem dX6_canName_77 : decode cX6_canName 77 = .ok (.if_icmp .eq 28, 3) := by decide +kernel
theorem dX6_canName_80 : decode cX6_canName 80 = .ok (.aload_n 0, 1) := by decide +kernel
theorem dX6_canName_81 : decode cX6_canName 81 = .ok (.getfield 15, 3) := by decide +kernel
theorem dX6_canName_84 : decode cX6_canName 84 = .ok (.getfield 184, 3) := by decide +kernel
theorem dX6_canName_87 : decode cX6_canName 87 = .ok (.iload_n 2, 1) := by decide +kernel
theorem dX6_canName_88 : decode cX6_canName 88 = .ok (.iaload, 1) := by decide +kernel
theorem dX6_canName_89 : decode cX6_canName 89 = .ok (.aload_n 0, 1) := by decide +kernel
theorem dX6_canName_90 : decode cX6_canName 90 = .ok (.getfield 15, 3) := by decide +kernel
theorem dX6_canName_93 : decode cX6_canName 93 = .ok (.getfield 184, 3) := by decide +kernel
theorem dX6_canName_96 : decode cX6_canName 96 = .ok (.iload_n 3, 1) := by decide +kernel
theorem dX6_canName_97 : decode cX6_canName 97 = .ok (.iaload, 1) := by decide +kernel
theorem dX6_canName_98 : decode cX6_canName 98 = .ok (.if_icmp .ne 7, 3) := by decide +kernel
theorem dX6_canName_101 : decode cX6_canName 101 = .ok (.iconst 1, 1) := by decide +kernel
theorem dX6_canName_102 : decode cX6_canName 102 = .ok (.goto 4, 3) := by decide +kernel
theorem dX6_canName_105 : decode cX6_canName 105 = .ok (.iconst 0, 1) := by decide +kernel
theorem dX6_canName_106 : decode cX6_canName 106 = .ok (.ireturn, 1) := by decide +kernel
theorem dX6_canName_107 : decode cX6_canName 107 = .ok (.iconst 1, 1) := by decide +kernel
theorem dX6_canName_108 : decode cX6_canName 108 = .ok (.ireturn, 1) := by decide +kernel
theorem dX6_canName_109 : decode cX6_canName 109 = .ok (.aload_n 0, 1) := by decide +kernel
theorem dX6_canName_110 : decode cX6_canName 110 = .ok (.iload_n 2, 1) := by decide +kernel
theorem dX6_canName_111 : decode cX6_canName 111 = .ok (.invokevirtual 116, 3) := by decide +kernel
theorem dX6_canName_114 : decode cX6_canName 114 = .ok (.ifCond .eq 15, 3) := by decide +kernel
theorem dX6_canName_117 : decode cX6_canName 117 = .ok (.aload_n 0, 1) := by decide +kernel
theorem dX6_canName_118 : decode cX6_canName 118 = .ok (.iload_n 3, 1) := by decide +kernel
theorem dX6_canName_119 : decode cX6_canName 119 = .ok (.invokevirtual 116, 3) := by decide +kernel
theorem dX6_canName_122 : decode cX6_canName 122 = .ok (.ifCond .eq 7, 3) := by decide +kernel
theorem dX6_canName_125 : decode cX6_canName 125 = .ok (.iconst 1, 1) := by decide +kernel
theorem dX6_canName_126 : decode cX6_canName 126 = .ok (.goto 4, 3) := by decide +kernel
theorem dX6_canName_129 : decode cX6_canName 129 = .ok (.iconst 0, 1) := by decide +kernel
theorem dX6_canName_130 : decode cX6_canName 130 = .ok (.ireturn, 1) := by decide +kernel
theorem dX6_canName_131 : decode cX6_canName 131 = .ok (.iconst 0, 1) := by decide +kernel
theorem dX6_canName_132 : decode cX6_canName 132 = .ok (.ireturn, 1) := by decide +kernel
theorem dX6_depthOf_0 : decode cX6_depthOf 0 = .ok (.iload_n 1, 1) := by decide +kernel
theorem dX6_depthOf_1 : decode cX6_depthOf 1 = .ok (.iconst 5, 1) := by decide +kernel
theorem dX6_depthOf_2 : decode cX6_depthOf 2 = .ok (.if_icmp .eq 9, 3) := by decide +kernel
theorem dX6_depthOf_5 : decode cX6_depthOf 5 = .ok (.iload_n 1, 1) := by decide +kernel
theorem dX6_depthOf_6 : decode cX6_depthOf 6 = .ok (.bipush 6, 2) := by decide +kernel
theorem dX6_depthOf_8 : decode cX6_depthOf 8 = .ok (.if_icmp .ne 7, 3) := by decide +kernel
theorem dX6_depthOf_11 : decode cX6_depthOf 11 = .ok (.iconst 1, 1) := by decide +kernel
theorem dX6_depthOf_12 : decode cX6_depthOf 12 = .ok (.goto 4, 3) := by decide +kernel
theorem dX6_depthOf_15 : decode cX6_depthOf 15 = .ok (.iconst 0, 1) := by decide +kernel
theorem dX6_depthOf_16 : decode cX6_depthOf 16 = .ok (.istore 4, 2) := by decide +kernel
theorem dX6_depthOf_18 : decode cX6_depthOf 18 = .ok (.iload 4, 2) := by decide +kernel
theorem dX6_depthOf_20 : decode cX6_depthOf 20 = .ok (.ifCond .eq 19, 3) := by decide +kernel
theorem dX6_depthOf_23 : decode cX6_depthOf 23 = .ok (.aload_n 0, 1) := by decide +kernel
theorem dX6_depthOf_24 : decode cX6_depthOf 24 = .ok (.iload_n 2, 1) := by decide +kernel
theorem dX6_depthOf_25 : decode cX6_depthOf 25 = .ok (.invokevirtual 116, 3) := by decide +kernel
theorem dX6_depthOf_28 : decode cX6_depthOf 28 = .ok (.ifCond .eq 11, 3) := by decide +kernel
theorem dX6_depthOf_31 : decode cX6_depthOf 31 = .ok (.aload_n 0, 1) := by decide +kernel
theorem dX6_depthOf_32 : decode cX6_depthOf 32 = .ok (.iload_n 3, 1) := by decide +kernel
theorem dX6_depthOf_33 : decode cX6_depthOf 33 = .ok (.invokevirtual 116, 3) := by decide +kernel
theorem dX6_depthOf_36 : decode cX6_depthOf 36 = .ok (.ifCond .ne 5, 3) := by decide +kernel
theorem dX6_depthOf_39 : decode cX6_depthOf 39 = .ok (.iconst 0, 1) := by decide +kernel
theorem dX6_depthOf_40 : decode cX6_depthOf 40 = .ok (.ireturn, 1) := by decide +kernel
theorem dX6_depthOf_41 : decode cX6_depthOf 41 = .ok (.iconst 1, 1) := by decide +kernel
theorem dX6_depthOf_42 : decode cX6_depthOf 42 = .ok (.aload_n 0, 1) := by decide +kernel
theorem dX6_depthOf_43 : decode cX6_depthOf 43 = .ok (.getfield 19, 3) := by decide +kernel
theorem dX6_depthOf_46 : decode cX6_depthOf 46 = .ok (.iload_n 2, 1) := by decide +kernel
theorem dX6_depthOf_47 : decode cX6_depthOf 47 = .ok (.aaload, 1) := by decide +kernel
theorem dX6_depthOf_48 : decode cX6_depthOf 48 = .ok (.getfield 187, 3) := by decide +kernel
theorem dX6_depthOf_51 : decode cX6_depthOf 51 = .ok (.aload_n 0, 1) := by decide +kernel
theorem dX6_depthOf_52 : decode cX6_depthOf 52 = .ok (.getfield 19, 3) := by decide +kernel
theorem dX6_depthOf_55 : decode cX6_depthOf 55 = .ok (.iload_n 3, 1) := by decide +kernel
theorem dX6_depthOf_56 : decode cX6_depthOf 56 = .ok (.aaload, 1) := by decide +kernel
theorem dX6_depthOf_57 : decode cX6_depthOf 57 = .ok (.getfield 187, 3) := by decide +kernel
theorem dX6_depthOf_60 : decode cX6_depthOf 60 = .ok (.invokestatic 190, 3) := by decide +kernel
theorem dX6_depthOf_63 : decode cX6_depthOf 63 = .ok (.iadd, 1) := by decide +kernel
theorem dX6_depthOf_64 : decode cX6_depthOf 64 = .ok (.ireturn, 1) := by decide +kernel
theorem dX7_init_0 : decode cX7_init 0 = .ok (.aload_n 0, 1) := by decide +kernel
theorem dX7_init_1 : decode cX7_init 1 = .ok (.invokespecial 1, 3) := by decide +kernel
theorem dX7_init_4 : decode cX7_init 4 = .ok (.aload_n 0, 1) := by decide +kernel
theorem dX7_init_5 : decode cX7_init 5 = .ok (.iconst 4, 1) := by decide +kernel
theorem dX7_init_6 : decode cX7_init 6 = .ok (.newarray .int, 2) := by decide +kernel
theorem dX7_init_8 : decode cX7_init 8 = .ok (.putfield 7, 3) := by decide +kernel
theorem dX7_init_11 : decode cX7_init 11 = .ok (.aload_n 0, 1) := by decide +kernel
theorem dX7_init_12 : decode cX7_init 12 = .ok (.bipush 16, 2) := by decide +kernel
theorem dX7_init_14 : decode cX7_init 14 = .ok (.newarray .int, 2) := by decide +kernel
theorem dX7_init_16 : decode cX7_init 16 = .ok (.putfield 13, 3) := by decide +kernel
theorem dX7_init_19 : decode cX7_init 19 = .ok (.aload_n 0, 1) := by decide +kernel
theorem dX7_init_20 : decode cX7_init 20 = .ok (.bipush 10, 2) := by decide +kernel
theorem dX7_init_22 : decode cX7_init 22 = .ok (.newarray .int, 2) := by decide +kernel
theorem dX7_init_24 : decode cX7_init 24 = .ok (.putfield 16, 3) := by decide +kernel
theorem dX7_init_27 : decode cX7_init 27 = .ok (.aload_n 0, 1) := by decide +kernel
theorem dX7_init_28 : decode cX7_init 28 = .ok (.bipush 10, 2) := by decide +kernel
theorem dX7_init_30 : decode cX7_init 30 = .ok (.newarray .int, 2) := by decide +kernel
theorem dX7_init_32 : decode cX7_init 32 = .ok (.putfield 19, 3) := by decide +kernel
theorem dX7_init_35 : decode cX7_init 35 = .ok (.aload_n 0, 1) := by decide +kernel
theorem dX7_init_36 : decode cX7_init 36 = .ok (.bipush 10, 2) := by decide +kernel
theorem dX7_init_38 : decode cX7_init 38 = .ok (.newarray .int, 2) := by decide +kernel
theorem dX7_init_40 : decode cX7_init 40 = .ok (.putfield 22, 3) := by decide +kernel
theorem dX7_init_43 : decode cX7_init 43 = .ok (.aload_n 0, 1) := by decide +kernel
theorem dX7_init_44 : decode cX7_init 44 = .ok (.bipush 10, 2) := by decide +kernel
theorem dX7_init_46 : decode cX7_init 46 = .ok (.newarray .int, 2) := by decide +kernel
theorem dX7_init_48 : decode cX7_init 48 = .ok (.putfield 25, 3) := by decide +kernel
theorem dX7_init_51 : decode cX7_init 51 = .ok (.aload_n 0, 1) := by decide +kernel
theorem dX7_init_52 : decode cX7_init 52 = .ok (.bipush 10, 2) := by decide +kernel
theorem dX7_init_54 : decode cX7_init 54 = .ok (.newarray .int, 2) := by decide +kernel
theorem dX7_init_56 : decode cX7_init 56 = .ok (.putfield 28, 3) := by decide +kernel
theorem dX7_init_59 : decode cX7_init 59 = .ok (.aload_n 0, 1) := by decide +kernel
theorem dX7_init_60 : decode cX7_init 60 = .ok (.bipush 10, 2) := by decide +kernel
theorem dX7_init_62 : decode cX7_init 62 = .ok (.newarray .int, 2) := by decide +kernel
theorem dX7_init_64 : decode cX7_init 64 = .ok (.putfield 31, 3) := by decide +kernel
theorem dX7_init_67 : decode cX7_init 67 = .ok (.aload_n 0, 1) := by decide +kernel
theorem dX7_init_68 : decode cX7_init 68 = .ok (.sipush 2560, 3) := by decide +kernel
theorem dX7_init_71 : decode cX7_init 71 = .ok (.newarray .int, 2) := by decide +kernel
theorem dX7_init_73 : decode cX7_init 73 = .ok (.putfield 34, 3) := by decide +kernel
theorem dX7_init_76 : decode cX7_init 76 = .ok (.aload_n 0, 1) := by decide +kernel
theorem dX7_init_77 : decode cX7_init 77 = .ok (.sipush 2560, 3) := by decide +kernel
theorem dX7_init_80 : decode cX7_init 80 = .ok (.newarray .long, 2) := by decide +kernel
theorem dX7_init_82 : decode cX7_init 82 = .ok (.putfield 37, 3) := by decide +kernel
theorem dX7_init_85 : decode cX7_init 85 = .ok (.aload_n 0, 1) := by decide +kernel
theorem dX7_init_86 : decode cX7_init 86 = .ok (.sipush 2560, 3) := by decide +kernel
theorem dX7_init_89 : decode cX7_init 89 = .ok (.newarray .long, 2) := by decide +kernel
theorem dX7_init_91 : decode cX7_init 91 = .ok (.putfield 41, 3) := by decide +kernel
theorem dX7_init_94 : decode cX7_init 94 = .ok (.aload_n 0, 1) := by decide +kernel
theorem dX7_init_95 : decode cX7_init 95 = .ok (.bipush 10, 2) := by decide +kernel
theorem dX7_init_97 : decode cX7_init 97 = .ok (.newarray .boolean, 2) := by decide +kernel
theorem dX7_init_99 : decode cX7_init 99 = .ok (.putfield 44, 3) := by decide +kernel
theorem dX7_init_102 : decode cX7_init 102 = .ok (.aload_n 0, 1) := by decide +kernel
theorem dX7_init_103 : decode cX7_init 103 = .ok (.sipush 2560, 3) := by decide +kernel
theorem dX7_init_106 : decode cX7_init 106 = .ok (.newarray .boolean, 2) := by decide +kernel
theorem dX7_init_108 : decode cX7_init 108 = .ok (.putfield 48, 3) := by decide +kernel
theorem dX7_init_111 : decode cX7_init 111 = .ok (.aload_n 0, 1) := by decide +kernel
theorem dX7_init_112 : decode cX7_init 112 = .ok (.bipush 10, 2) := by decide +kernel
theorem dX7_init_114 : decode cX7_init 114 = .ok (.newarray .boolean, 2) := by decide +kernel
theorem dX7_init_116 : decode cX7_init 116 = .ok (.putfield 51, 3) := by decide +kernel
theorem dX7_init_119 : decode cX7_init 119 = .ok (.aload_n 0, 1) := by decide +kernel
theorem dX7_init_120 : decode cX7_init 120 = .ok (.sipush 201, 3) := by decide +kernel
theorem dX7_init_123 : decode cX7_init 123 = .ok (.newarray .int, 2) := by decide +kernel
theorem dX7_init_125 : decode cX7_init 125 = .ok (.putfield 54, 3) := by decide +kernel
theorem dX7_init_128 : decode cX7_init 128 = .ok (.aload_n 0, 1) := by decide +kernel
theorem dX7_init_129 : decode cX7_init 129 = .ok (.bipush 8, 2) := by decide +kernel
theorem dX7_init_131 : decode cX7_init 131 = .ok (.newarray .int, 2) := by decide +kernel
theorem dX7_init_133 : decode cX7_init 133 = .ok (.putfield 57, 3) := by decide +kernel
theorem dX7_init_136 : decode cX7_init 136 = .ok (.aload_n 0, 1) := by decide +kernel
theorem dX7_init_137 : decode cX7_init 137 = .ok (.iconst (-1), 1) := by decide +kernel
theorem dX7_init_138 : decode cX7_init 138 = .ok (.putfield 60, 3) := by decide +kernel
theorem dX7_init_141 : decode cX7_init 141 = .ok (.return_, 1) := by decide +kernel
theorem dX7_isIn_0 : decode cX7_isIn 0 = .ok (.iload_n 0, 1) := by decide +kernel
theorem dX7_isIn_1 : decode cX7_isIn 1 = .ok (.iload_n 1, 1) := by decide +kernel
theorem dX7_isIn_2 : decode cX7_isIn 2 = .ok (.if_icmp .lt 12, 3) := by decide +kernel
theorem dX7_isIn_5 : decode cX7_isIn 5 = .ok (.iload_n 0, 1) := by decide +kernel
theorem dX7_isIn_6 : decode cX7_isIn 6 = .ok (.iload_n 2, 1) := by decide +kernel
theorem dX7_isIn_7 : decode cX7_isIn 7 = .ok (.if_icmp .gt 7, 3) := by decide +kernel
theorem dX7_isIn_10 : decode cX7_isIn 10 = .ok (.iconst 1, 1) := by decide +kernel
theorem dX7_isIn_11 : decode cX7_isIn 11 = .ok (.goto 4, 3) := by decide +kernel
theorem dX7_isIn_14 : decode cX7_isIn 14 = .ok (.iconst 0, 1) := by decide +kernel
theorem dX7_isIn_15 : decode cX7_isIn 15 = .ok (.ireturn, 1) := by decide +kernel
theorem dX7_isState_0 : decode cX7_isState 0 = .ok (.iload_n 1, 1) := by decide +kernel
theorem dX7_isState_1 : decode cX7_isState 1 = .ok (.iconst 0, 1) := by decide +kernel
theorem dX7_isState_2 : decode cX7_isState 2 = .ok (.aload_n 0, 1) := by decide +kernel
theorem dX7_isState_3 : decode cX7_isState 3 = .ok (.getfield 64, 3) := by decide +kernel
theorem dX7_isState_6 : decode cX7_isState 6 = .ok (.iconst 1, 1) := by decide +kernel
theorem dX7_isState_7 : decode cX7_isState 7 = .ok (.isub, 1) := by decide +kernel
theorem dX7_isState_8 : decode cX7_isState 8 = .ok (.invokestatic 67, 3) := by decide +kernel
theorem dX7_isState_11 : decode cX7_isState 11 = .ok (.ireturn, 1) := by decide +kernel
theorem dX7_isPlace_0 : decode cX7_isPlace 0 = .ok (.iload_n 1, 1) := by decide +kernel
theorem dX7_isPlace_1 : decode cX7_isPlace 1 = .ok (.iconst 0, 1) := by decide +kernel
theorem dX7_isPlace_2 : decode cX7_isPlace 2 = .ok (.aload_n 0, 1) := by decide +kernel
theorem dX7_isPlace_3 : decode cX7_isPlace 3 = .ok (.getfield 71, 3) := by decide +kernel
theorem dX7_isPlace_6 : decode cX7_isPlace 6 = .ok (.iconst 1, 1) := by decide +kernel
theorem dX7_isPlace_7 : decode cX7_isPlace 7 = .ok (.isub, 1) := by decide +kernel
theorem dX7_isPlace_8 : decode cX7_isPlace 8 = .ok (.invokestatic 67, 3) := by decide +kernel
theorem dX7_isPlace_11 : decode cX7_isPlace 11 = .ok (.ireturn, 1) := by decide +kernel
theorem dX7_isMove_0 : decode cX7_isMove 0 = .ok (.iload_n 1, 1) := by decide +kernel
theorem dX7_isMove_1 : decode cX7_isMove 1 = .ok (.iconst 0, 1) := by decide +kernel
theorem dX7_isMove_2 : decode cX7_isMove 2 = .ok (.aload_n 0, 1) := by decide +kernel
theorem dX7_isMove_3 : decode cX7_isMove 3 = .ok (.getfield 74, 3) := by decide +kernel
theorem dX7_isMove_6 : decode cX7_isMove 6 = .ok (.iconst 1, 1) := by decide +kernel
theorem dX7_isMove_7 : decode cX7_isMove 7 = .ok (.isub, 1) := by decide +kernel
theorem dX7_isMove_8 : decode cX7_isMove 8 = .ok (.invokestatic 67, 3) := by decide +kernel
theorem dX7_isMove_11 : decode cX7_isMove 11 = .ok (.ireturn, 1) := by decide +kernel
theorem dX7_changed_0 : decode cX7_changed 0 = .ok (.iconst 0, 1) := by decide +kernel
theorem dX7_changed_1 : decode cX7_changed 1 = .ok (.istore_n 1, 1) := by decide +kernel
theorem dX7_changed_2 : decode cX7_changed 2 = .ok (.iload_n 1, 1) := by decide +kernel
theorem dX7_changed_3 : decode cX7_changed 3 = .ok (.bipush 10, 2) := by decide +kernel
theorem dX7_changed_5 : decode cX7_changed 5 = .ok (.if_icmp .ge 16, 3) := by decide +kernel
theorem dX7_changed_8 : decode cX7_changed 8 = .ok (.aload_n 0, 1) := by decide +kernel
theorem dX7_changed_9 : decode cX7_changed 9 = .ok (.getfield 44, 3) := by decide +kernel
theorem dX7_changed_12 : decode cX7_changed 12 = .ok (.iload_n 1, 1) := by decide +kernel
theorem dX7_changed_13 : decode cX7_changed 13 = .ok (.iconst 0, 1) := by decide +kernel
theorem dX7_changed_14 : decode cX7_changed 14 = .ok (.bastore, 1) := by decide +kernel
theorem dX7_changed_15 : decode cX7_changed 15 = .ok (.iinc 1 1, 3) := by decide +kernel
theorem dX7_changed_18 : decode cX7_changed 18 = .ok (.goto (-16), 3) := by decide +kernel
theorem dX7_changed_21 : decode cX7_changed 21 = .ok (.return_, 1) := by decide +kernel
theorem dX7_model_0 : decode cX7_model 0 = .ok (.iload_n 1, 1) := by decide +kernel
theorem dX7_model_1 : decode cX7_model 1 = .ok (.iconst 2, 1) := by decide +kernel
theorem dX7_model_2 : decode cX7_model 2 = .ok (.bipush 6, 2) := by decide +kernel
theorem dX7_model_4 : decode cX7_model 4 = .ok (.invokestatic 67, 3) := by decide +kernel
theorem dX7_model_7 : decode cX7_model 7 = .ok (.ifCond .eq 68, 3) := by decide +kernel
theorem dX7_model_10 : decode cX7_model 10 = .ok (.iload_n 2, 1) := by decide +kernel
theorem dX7_model_11 : decode cX7_model 11 = .ok (.ifCond .eq 13, 3) := by decide +kernel
theorem dX7_model_14 : decode cX7_model 14 = .ok (.iload_n 2, 1) := by decide +kernel
theorem dX7_model_15 : decode cX7_model 15 = .ok (.iconst 2, 1) := by decide +kernel
theorem dX7_model_16 : decode cX7_model 16 = .ok (.bipush 6, 2) := by decide +kernel
theorem dX7_model_18 : decode cX7_model 18 = .ok (.invokestatic 67, 3) := by decide +kernel
theorem dX7_model_21 : decode cX7_model 21 = .ok (.ifCond .eq 54, 3) := by decide +kernel
theorem dX7_model_24 : decode cX7_model 24 = .ok (.iload_n 3, 1) := by decide +kernel
theorem dX7_model_25 : decode cX7_model 25 = .ok (.ifCond .eq 13, 3) := by decide +kernel
theorem dX7_model_28 : decode cX7_model 28 = .ok (.iload_n 3, 1) := by decide +kernel
theorem dX7_model_29 : decode cX7_model 29 = .ok (.iconst 2, 1) := by decide +kernel
theorem dX7_model_30 : decode cX7_model 30 = .ok (.bipush 6, 2) := by decide +kernel
theorem dX7_model_32 : decode cX7_model 32 = .ok (.invokestatic 67, 3) := by decide +kernel
theorem dX7_model_35 : decode cX7_model 35 = .ok (.ifCond .eq 40, 3) := by decide +kernel
theorem dX7_model_38 : decode cX7_model 38 = .ok (.iload 4, 2) := by decide +kernel
theorem dX7_model_40 : decode cX7_model 40 = .ok (.ifCond .eq 14, 3) := by decide +kernel
theorem dX7_model_43 : decode cX7_model 43 = .ok (.iload 4, 2) := by decide +kernel
theorem dX7_model_45 : decode cX7_model 45 = .ok (.iconst 2, 1) := by decide +kernel
theorem dX7_model_46 : decode cX7_model 46 = .ok (.bipush 6, 2) := by decide +kernel
theorem dX7_model_48 : decode cX7_model 48 = .ok (.invokestatic 67, 3) := by decide +kernel
theorem dX7_model_51 : decode cX7_model 51 = .ok (.ifCond .eq 24, 3) := by decide +kernel
theorem dX7_model_54 : decode cX7_model 54 = .ok (.iload_n 2, 1) := by decide +kernel
theorem dX7_model_55 : decode cX7_model 55 = .ok (.ifCond .ne 7, 3) := by decide +kernel
theorem dX7_model_58 : decode cX7_model 58 = .ok (.iload_n 3, 1) := by decide +kernel
theorem dX7_model_59 : decode cX7_model 59 = .ok (.ifCond .ne 16, 3) := by decide +kernel
theorem dX7_model_62 : decode cX7_model 62 = .ok (.iload_n 3, 1) := by decide +kernel
theorem dX7_model_63 : decode cX7_model 63 = .ok (.ifCond .ne 8, 3) := by decide +kernel
theorem dX7_model_66 : decode cX7_model 66 = .ok (.iload 4, 2) := by decide +kernel
theorem dX7_model_68 : decode cX7_model 68 = .ok (.ifCond .ne 7, 3) := by decide +kernel
theorem dX7_model_71 : decode cX7_model 71 = .ok (.iconst 1, 1) := by decide +kernel
theorem dX7_model_72 : decode cX7_model 72 = .ok (.goto 4, 3) := by decide +kernel
theorem dX7_model_75 : decode cX7_model 75 = .ok (.iconst 0, 1) := by decide +kernel
theorem dX7_model_76 : decode cX7_model 76 = .ok (.istore 5, 2) := by decide +kernel
theorem dX7_model_78 : decode cX7_model 78 = .ok (.iload 5, 2) := by decide +kernel
theorem dX7_model_80 : decode cX7_model 80 = .ok (.ifCond .ne 7, 3) := by decide +kernel
theorem dX7_model_83 : decode cX7_model 83 = .ok (.iconst 0, 1) := by decide +kernel
theorem dX7_model_84 : decode cX7_model 84 = .ok (.goto 36, 3) := by decide +kernel
theorem dX7_model_87 : decode cX7_model 87 = .ok (.iload_n 1, 1) := by decide +kernel
theorem dX7_model_88 : decode cX7_model 88 = .ok (.iload_n 2, 1) := by decide +kernel
theorem dX7_model_89 : decode cX7_model 89 = .ok (.ifCond .ne 7, 3) := by decide +kernel
theorem dX7_model_92 : decode cX7_model 92 = .ok (.iconst 1, 1) := by decide +kernel
theorem dX7_model_93 : decode cX7_model 93 = .ok (.goto 4, 3) := by decide +kernel
theorem dX7_model_96 : decode cX7_model 96 = .ok (.iload_n 2, 1) := by decide +kernel
theorem dX7_model_97 : decode cX7_model 97 = .ok (.imul, 1) := by decide +kernel
theorem dX7_model_98 : decode cX7_model 98 = .ok (.iload_n 3, 1) := by decide +kernel
theorem dX7_model_99 : decode cX7_model 99 = .ok (.ifCond .ne 7, 3) := by decide +kernel
theorem dX7_model_102 : decode cX7_model 102 = .ok (.iconst 1, 1) := by decide +kernel
theorem dX7_model_103 : decode cX7_model 103 = .ok (.goto 4, 3) := by decide +kernel
theorem dX7_model_106 : decode cX7_model 106 = .ok (.iload_n 3, 1) := by decide +kernel
theorem dX7_model_107 : decode cX7_model 107 = .ok (.imul, 1) := by decide +kernel
theorem dX7_model_108 : decode cX7_model 108 = .ok (.iload 4, 2) := by decide +kernel
theorem dX7_model_110 : decode cX7_model 110 = .ok (.ifCond .ne 7, 3) := by decide +kernel
theorem dX7_model_113 : decode cX7_model 113 = .ok (.iconst 1, 1) := by decide +kernel
theorem dX7_model_114 : decode cX7_model 114 = .ok (.goto 5, 3) := by decide +kernel
theorem dX7_model_117 : decode cX7_model 117 = .ok (.iload 4, 2) := by decide +kernel
theorem dX7_model_119 : decode cX7_model 119 = .ok (.imul, 1) := by decide +kernel
theorem dX7_model_120 : decode cX7_model 120 = .ok (.istore 6, 2) := by decide +kernel
theorem dX7_model_122 : decode cX7_model 122 = .ok (.iload 5, 2) := by decide +kernel
theorem dX7_model_124 : decode cX7_model 124 = .ok (.ifCond .eq 10, 3) := by decide +kernel
theorem dX7_model_127 : decode cX7_model 127 = .ok (.iload 6, 2) := by decide +kernel
theorem dX7_model_129 : decode cX7_model 129 = .ok (.bipush 16, 2) := by decide +kernel
theorem dX7_model_131 : decode cX7_model 131 = .ok (.if_icmp .le 5, 3) := by decide +kernel
theorem dX7_model_134 : decode cX7_model 134 = .ok (.iconst (-1), 1) := by decide +kernel
theorem dX7_model_135 : decode cX7_model 135 = .ok (.ireturn, 1) := by decide +kernel
theorem dX7_model_136 : decode cX7_model 136 = .ok (.aload_n 0, 1) := by decide +kernel
theorem dX7_model_137 : decode cX7_model 137 = .ok (.getfield 7, 3) := by decide +kernel
theorem dX7_model_140 : decode cX7_model 140 = .ok (.iconst 0, 1) := by decide +kernel
theorem dX7_model_141 : decode cX7_model 141 = .ok (.iload_n 1, 1) := by decide +kernel
theorem dX7_model_142 : decode cX7_model 142 = .ok (.iastore, 1) := by decide +kernel
theorem dX7_model_143 : decode cX7_model 143 = .ok (.aload_n 0, 1) := by decide +kernel
theorem dX7_model_144 : decode cX7_model 144 = .ok (.getfield 7, 3) := by decide +kernel
theorem dX7_model_147 : decode cX7_model 147 = .ok (.iconst 1, 1) := by decide +kernel
theorem dX7_model_148 : decode cX7_model 148 = .ok (.iload_n 2, 1) := by decide +kernel
theorem dX7_model_149 : decode cX7_model 149 = .ok (.iastore, 1) := by decide +kernel
theorem dX7_model_150 : decode cX7_model 150 = .ok (.aload_n 0, 1) := by decide +kernel
theorem dX7_model_151 : decode cX7_model 151 = .ok (.getfield 7, 3) := by decide +kernel
theorem dX7_model_154 : decode cX7_model 154 = .ok (.iconst 2, 1) := by decide +kernel
theorem dX7_model_155 : decode cX7_model 155 = .ok (.iload_n 3, 1) := by decide +kernel
theorem dX7_model_156 : decode cX7_model 156 = .ok (.iastore, 1) := by decide +kernel
theorem dX7_model_157 : decode cX7_model 157 = .ok (.aload_n 0, 1) := by decide +kernel
theorem dX7_model_158 : decode cX7_model 158 = .ok (.getfield 7, 3) := by decide +kernel
theorem dX7_model_161 : decode cX7_model 161 = .ok (.iconst 3, 1) := by decide +kernel
theorem dX7_model_162 : decode cX7_model 162 = .ok (.iload 4, 2) := by decide +kernel
theorem dX7_model_164 : decode cX7_model 164 = .ok (.iastore, 1) := by decide +kernel
theorem dX7_model_165 : decode cX7_model 165 = .ok (.aload_n 0, 1) := by decide +kernel
theorem dX7_model_166 : decode cX7_model 166 = .ok (.iload_n 2, 1) := by decide +kernel
theorem dX7_model_167 : decode cX7_model 167 = .ok (.ifCond .ne 7, 3) := by decide +kernel
theorem dX7_model_170 : decode cX7_model 170 = .ok (.iconst 1, 1) := by decide +kernel
theorem dX7_model_171 : decode cX7_model 171 = .ok (.goto 21, 3) := by decide +kernel
theorem dX7_model_174 : decode cX7_model 174 = .ok (.iload_n 3, 1) := by decide +kernel
theorem dX7_model_175 : decode cX7_model 175 = .ok (.ifCond .ne 7, 3) := by decide +kernel
theorem dX7_model_178 : decode cX7_model 178 = .ok (.iconst 2, 1) := by decide +kernel
theorem dX7_model_179 : decode cX7_model 179 = .ok (.goto 13, 3) := by decide +kernel
theorem dX7_model_182 : decode cX7_model 182 = .ok (.iload 4, 2) := by decide +kernel
theorem dX7_model_184 : decode cX7_model 184 = .ok (.ifCond .ne 7, 3) := by decide +kernel
theorem dX7_model_187 : decode cX7_model 187 = .ok (.iconst 3, 1) := by decide +kernel
theorem dX7_model_188 : decode cX7_model 188 = .ok (.goto 4, 3) := by decide +kernel
theorem dX7_model_191 : decode cX7_model 191 = .ok (.iconst 4, 1) := by decide +kernel
theorem dX7_model_192 : decode cX7_model 192 = .ok (.putfield 71, 3) := by decide +kernel
theorem dX7_model_195 : decode cX7_model 195 = .ok (.aload_n 0, 1) := by decide +kernel
theorem dX7_model_196 : decode cX7_model 196 = .ok (.iload 6, 2) := by decide +kernel
theorem dX7_model_198 : decode cX7_model 198 = .ok (.putfield 64, 3) := by decide +kernel
theorem dX7_model_201 : decode cX7_model 201 = .ok (.iconst 0, 1) := by decide +kernel
theorem dX7_model_202 : decode cX7_model 202 = .ok (.istore 7, 2) := by decide +kernel
theorem dX7_model_204 : decode cX7_model 204 = .ok (.iload 7, 2) := by decide +kernel
theorem dX7_model_206 : decode cX7_model 206 = .ok (.bipush 16, 2) := by decide +kernel
theorem dX7_model_208 : decode cX7_model 208 = .ok (.if_icmp .ge 17, 3) := by decide +kernel
theorem dX7_model_211 : decode cX7_model 211 = .ok (.aload_n 0, 1) := by decide +kernel
theorem dX7_model_212 : decode cX7_model 212 = .ok (.getfield 13, 3) := by decide +kernel
theorem dX7_model_215 : decode cX7_model 215 = .ok (.iload 7, 2) := by decide +kernel
theorem dX7_model_217 : decode cX7_model 217 = .ok (.iconst 1, 1) := by decide +kernel
theorem dX7_model_218 : decode cX7_model 218 = .ok (.iastore, 1) := by decide +kernel
theorem dX7_model_219 : decode cX7_model 219 = .ok (.iinc 7 1, 3) := by decide +kernel
theorem dX7_model_222 : decode cX7_model 222 = .ok (.goto (-18), 3) := by decide +kernel
theorem dX7_model_225 : decode cX7_model 225 = .ok (.aload_n 0, 1) := by decide +kernel
theorem dX7_model_226 : decode cX7_model 226 = .ok (.iconst 0, 1) := by decide +kernel
theorem dX7_model_227 : decode cX7_model 227 = .ok (.putfield 74, 3) := by decide +kernel
theorem dX7_model_230 : decode cX7_model 230 = .ok (.aload_n 0, 1) := by decide +kernel
theorem dX7_model_231 : decode cX7_model 231 = .ok (.iconst (-1), 1) := by decide +kernel
theorem dX7_model_232 : decode cX7_model 232 = .ok (.putfield 60, 3) := by decide +kernel
theorem dX7_model_235 : decode cX7_model 235 = .ok (.aload_n 0, 1) := by decide +kernel
theorem dX7_model_236 : decode cX7_model 236 = .ok (.iconst 0, 1) := by decide +kernel
theorem dX7_model_237 : decode cX7_model 237 = .ok (.putfield 77, 3) := by decide +kernel
theorem dX7_model_240 : decode cX7_model 240 = .ok (.aload_n 0, 1) := by decide +kernel
theorem dX7_model_241 : decode cX7_model 241 = .ok (.invokevirtual 80, 3) := by decide +kernel
theorem dX7_model_244 : decode cX7_model 244 = .ok (.aload_n 0, 1) := by decide +kernel
theorem dX7_model_245 : decode cX7_model 245 = .ok (.getfield 64, 3) := by decide +kernel
theorem dX7_model_248 : decode cX7_model 248 = .ok (.ireturn, 1) := by decide +kernel
theorem dX7_weight_0 : decode cX7_weight 0 = .ok (.aload_n 0, 1) := by decide +kernel
theorem dX7_weight_1 : decode cX7_weight 1 = .ok (.getfield 64, 3) := by decide +kernel
theorem dX7_weight_4 : decode cX7_weight 4 = .ok (.ifCond .ne 6, 3) := by decide +kernel
theorem dX7_weight_7 : decode cX7_weight 7 = .ok (.bipush (-2), 2) := by decide +kernel
theorem dX7_weight_9 : decode cX7_weight 9 = .ok (.ireturn, 1) := by decide +kernel
theorem dX7_weight_10 : decode cX7_weight 10 = .ok (.aload_n 0, 1) := by decide +kernel
theorem dX7_weight_11 : decode cX7_weight 11 = .ok (.iload_n 1, 1) := by decide +kernel
theorem dX7_weight_12 : decode cX7_weight 12 = .ok (.invokevirtual 83, 3) := by decide +kernel
theorem dX7_weight_15 : decode cX7_weight 15 = .ok (.ifCond .eq 14, 3) := by decide +kernel
theorem dX7_weight_18 : decode cX7_weight 18 = .ok (.iload_n 2, 1) := by decide +kernel
theorem dX7_weight_19 : decode cX7_weight 19 = .ok (.iconst 0, 1) := by decide +kernel
theorem dX7_weight_20 : decode cX7_weight 20 = .ok (.sipush 1000, 3) := by decide +kernel
theorem dX7_weight_23 : decode cX7_weight 23 = .ok (.invokestatic 67, 3) := by decide +kernel
theorem dX7_weight_26 : decode cX7_weight 26 = .ok (.ifCond .ne 5, 3) := by decide +kernel
theorem dX7_weight_29 : decode cX7_weight 29 = .ok (.iconst (-1), 1) := by decide +kernel
theorem dX7_weight_30 : decode cX7_weight 30 = .ok (.ireturn, 1) := by decide +kernel
theorem dX7_weight_31 : decode cX7_weight 31 = .ok (.aload_n 0, 1) := by decide +kernel
theorem dX7_weight_32 : decode cX7_weight 32 = .ok (.getfield 13, 3) := by decide +kernel
theorem dX7_weight_35 : decode cX7_weight 35 = .ok (.iload_n 1, 1) := by decide +kernel
theorem dX7_weight_36 : decode cX7_weight 36 = .ok (.iaload, 1) := by decide +kernel
theorem dX7_weight_37 : decode cX7_weight 37 = .ok (.istore_n 3, 1) := by decide +kernel
theorem dX7_weight_38 : decode cX7_weight 38 = .ok (.aload_n 0, 1) := by decide +kernel
theorem dX7_weight_39 : decode cX7_weight 39 = .ok (.getfield 13, 3) := by decide +kernel
theorem dX7_weight_42 : decode cX7_weight 42 = .ok (.iload_n 1, 1) := by decide +kernel
theorem dX7_weight_43 : decode cX7_weight 43 = .ok (.iload_n 2, 1) := by decide +kernel
theorem dX7_weight_44 : decode cX7_weight 44 = .ok (.iastore, 1) := by decide +kernel
theorem dX7_weight_45 : decode cX7_weight 45 = .ok (.aload_n 0, 1) := by decide +kernel
theorem dX7_weight_46 : decode cX7_weight 46 = .ok (.invokevirtual 80, 3) := by decide +kernel
theorem dX7_weight_49 : decode cX7_weight 49 = .ok (.iload_n 3, 1) := by decide +kernel
theorem dX7_weight_50 : decode cX7_weight 50 = .ok (.ireturn, 1) := by decide +kernel
theorem dX7_strideOf_0 : decode cX7_strideOf 0 = .ok (.iconst 1, 1) := by decide +kernel
theorem dX7_strideOf_1 : decode cX7_strideOf 1 = .ok (.istore_n 2, 1) := by decide +kernel
theorem dX7_strideOf_2 : decode cX7_strideOf 2 = .ok (.aload_n 0, 1) := by decide +kernel
theorem dX7_strideOf_3 : decode cX7_strideOf 3 = .ok (.getfield 71, 3) := by decide +kernel
theorem dX7_strideOf_6 : decode cX7_strideOf 6 = .ok (.iconst 1, 1) := by decide +kernel
theorem dX7_strideOf_7 : decode cX7_strideOf 7 = .ok (.isub, 1) := by decide +kernel
theorem dX7_strideOf_8 : decode cX7_strideOf 8 = .ok (.istore_n 3, 1) := by decide +kernel
theorem dX7_strideOf_9 : decode cX7_strideOf 9 = .ok (.iload_n 3, 1) := by decide +kernel
theorem dX7_strideOf_10 : decode cX7_strideOf 10 = .ok (.iload_n 1, 1) := by decide +kernel
theorem dX7_strideOf_11 : decode cX7_strideOf 11 = .ok (.if_icmp .le 18, 3) := by decide +kernel
theorem dX7_strideOf_14 : decode cX7_strideOf 14 = .ok (.iload_n 2, 1) := by decide +kernel
theorem dX7_strideOf_15 : decode cX7_strideOf 15 = .ok (.aload_n 0, 1) := by decide +kernel
theorem dX7_strideOf_16 : decode cX7_strideOf 16 = .ok (.getfield 7, 3) := by decide +kernel
theorem dX7_strideOf_19 : decode cX7_strideOf 19 = .ok (.iload_n 3, 1) := by decide +kernel
theorem dX7_strideOf_20 : decode cX7_strideOf 20 = .ok (.iaload, 1) := by decide +kernel
theorem dX7_strideOf_21 : decode cX7_strideOf 21 = .ok (.imul, 1) := by decide +kernel
theorem dX7_strideOf_22 : decode cX7_strideOf 22 = .ok (.istore_n 2, 1) := by decide +kernel
theorem dX7_strideOf_23 : decode cX7_strideOf 23 = .ok (.iinc 3 (-1), 3) := by decide +kernel
theorem dX7_strideOf_26 : decode cX7_strideOf 26 = .ok (.goto (-17), 3) := by decide +kernel
theorem dX7_strideOf_29 : decode cX7_strideOf 29 = .ok (.iload_n 2, 1) := by decide +kernel
theorem dX7_strideOf_30 : decode cX7_strideOf 30 = .ok (.ireturn, 1) := by decide +kernel
theorem dX7_valueOf_0 : decode cX7_valueOf 0 = .ok (.iload_n 1, 1) := by decide +kernel
theorem dX7_valueOf_1 : decode cX7_valueOf 1 = .ok (.aload_n 0, 1) := by decide +kernel
theorem dX7_valueOf_2 : decode cX7_valueOf 2 = .ok (.iload_n 2, 1) := by decide +kernel
theorem dX7_valueOf_3 : decode cX7_valueOf 3 = .ok (.invokevirtual 87, 3) := by decide +kernel
theorem dX7_valueOf_6 : decode cX7_valueOf 6 = .ok (.idiv, 1) := by decide +kernel
theorem dX7_valueOf_7 : decode cX7_valueOf 7 = .ok (.aload_n 0, 1) := by decide +kernel
theorem dX7_valueOf_8 : decode cX7_valueOf 8 = .ok (.getfield 7, 3) := by decide +kernel
theorem dX7_valueOf_11 : decode cX7_valueOf 11 = .ok (.iload_n 2, 1) := by decide +kernel
theorem dX7_valueOf_12 : decode cX7_valueOf 12 = .ok (.iaload, 1) := by decide +kernel
theorem dX7_valueOf_13 : decode cX7_valueOf 13 = .ok (.irem, 1) := by decide +kernel
theorem dX7_valueOf_14 : decode cX7_valueOf 14 = .ok (.ireturn, 1) := by decide +kernel
theorem dX7_with_0 : decode cX7_with 0 = .ok (.iload_n 1, 1) := by decide +kernel
theorem dX7_with_1 : decode cX7_with 1 = .ok (.iload_n 3, 1) := by decide +kernel
theorem dX7_with_2 : decode cX7_with 2 = .ok (.aload_n 0, 1) := by decide +kernel
theorem dX7_with_3 : decode cX7_with 3 = .ok (.iload_n 1, 1) := by decide +kernel
theorem dX7_with_4 : decode cX7_with 4 = .ok (.iload_n 2, 1) := by decide +kernel
theorem dX7_with_5 : decode cX7_with 5 = .ok (.invokevirtual 91, 3) := by decide +kernel
theorem dX7_with_8 : decode cX7_with 8 = .ok (.isub, 1) := by decide +kernel
theorem dX7_with_9 : decode cX7_with 9 = .ok (.aload_n 0, 1) := by decide +kernel
theorem dX7_with_10 : decode cX7_with 10 = .ok (.iload_n 2, 1) := by decide +kernel
theorem dX7_with_11 : decode cX7_with 11 = .ok (.invokevirtual 87, 3) := by decide +kernel
theorem dX7_with_14 : decode cX7_with 14 = .ok (.imul, 1) := by decide +kernel
theorem dX7_with_15 : decode cX7_with 15 = .ok (.iadd, 1) := by decide +kernel
theorem dX7_with_16 : decode cX7_with 16 = .ok (.ireturn, 1) := by decide +kernel
theorem dX7_state_0 : decode cX7_state 0 = .ok (.aload_n 0, 1) := by decide +kernel
theorem dX7_state_1 : decode cX7_state 1 = .ok (.getfield 64, 3) := by decide +kernel
theorem dX7_state_4 : decode cX7_state 4 = .ok (.ifCond .ne 6, 3) := by decide +kernel
theorem dX7_state_7 : decode cX7_state 7 = .ok (.bipush (-2), 2) := by decide +kernel
theorem dX7_state_9 : decode cX7_state 9 = .ok (.ireturn, 1) := by decide +kernel
theorem dX7_state_10 : decode cX7_state 10 = .ok (.iconst 0, 1) := by decide +kernel
theorem dX7_state_11 : decode cX7_state 11 = .ok (.istore 5, 2) := by decide +kernel
theorem dX7_state_13 : decode cX7_state 13 = .ok (.iconst 0, 1) := by decide +kernel
theorem dX7_state_14 : decode cX7_state 14 = .ok (.istore 6, 2) := by decide +kernel
theorem dX7_state_16 : decode cX7_state 16 = .ok (.iload 6, 2) := by decide +kernel
theorem dX7_state_18 : decode cX7_state 18 = .ok (.aload_n 0, 1) := by decide +kernel
theorem dX7_state_19 : decode cX7_state 19 = .ok (.getfield 71, 3) := by decide +kernel
theorem dX7_state_22 : decode cX7_state 22 = .ok (.if_icmp .ge 77, 3) := by decide +kernel
theorem dX7_state_25 : decode cX7_state 25 = .ok (.iload 6, 2) := by decide +kernel
theorem dX7_state_27 : decode cX7_state 27 = .ok (.ifCond .ne 7, 3) := by decide +kernel
theorem dX7_state_30 : decode cX7_state 30 = .ok (.iload_n 1, 1) := by decide +kernel
theorem dX7_state_31 : decode cX7_state 31 = .ok (.goto 25, 3) := by decide +kernel
theorem dX7_state_34 : decode cX7_state 34 = .ok (.iload 6, 2) := by decide +kernel
theorem dX7_state_36 : decode cX7_state 36 = .ok (.iconst 1, 1) := by decide +kernel
theorem dX7_state_37 : decode cX7_state 37 = .ok (.if_icmp .ne 7, 3) := by decide +kernel
theorem dX7_state_40 : decode cX7_state 40 = .ok (.iload_n 2, 1) := by decide +kernel
theorem dX7_state_41 : decode cX7_state 41 = .ok (.goto 15, 3) := by decide +kernel
theorem dX7_state_44 : decode cX7_state 44 = .ok (.iload 6, 2) := by decide +kernel
theorem dX7_state_46 : decode cX7_state 46 = .ok (.iconst 2, 1) := by decide +kernel
theorem dX7_state_47 : decode cX7_state 47 = .ok (.if_icmp .ne 7, 3) := by decide +kernel
theorem dX7_state_50 : decode cX7_state 50 = .ok (.iload_n 3, 1) := by decide +kernel
theorem dX7_state_51 : decode cX7_state 51 = .ok (.goto 5, 3) := by decide +kernel
theorem dX7_state_54 : decode cX7_state 54 = .ok (.iload 4, 2) := by decide +kernel
theorem dX7_state_56 : decode cX7_state 56 = .ok (.istore 7, 2) := by decide +kernel
theorem dX7_state_58 : decode cX7_state 58 = .ok (.iload 7, 2) := by decide +kernel
theorem dX7_state_60 : decode cX7_state 60 = .ok (.iconst 0, 1) := by decide +kernel
theorem dX7_state_61 : decode cX7_state 61 = .ok (.aload_n 0, 1) := by decide +kernel
theorem dX7_state_62 : decode cX7_state 62 = .ok (.getfield 7, 3) := by decide +kernel
theorem dX7_state_65 : decode cX7_state 65 = .ok (.iload 6, 2) := by decide +kernel
theorem dX7_state_67 : decode cX7_state 67 = .ok (.iaload, 1) := by decide +kernel
theorem dX7_state_68 : decode cX7_state 68 = .ok (.iconst 1, 1) := by decide +kernel
theorem dX7_state_69 : decode cX7_state 69 = .ok (.isub, 1) := by decide +kernel
theorem dX7_state_70 : decode cX7_state 70 = .ok (.invokestatic 67, 3) := by decide +kernel
theorem dX7_state_73 : decode cX7_state 73 = .ok (.ifCond .ne 5, 3) := by decide +kernel
theorem dX7_state_76 : decode cX7_state 76 = .ok (.iconst (-1), 1) := by decide +kernel
theorem dX7_state_77 : decode cX7_state 77 = .ok (.ireturn, 1) := by decide +kernel
theorem dX7_state_78 : decode cX7_state 78 = .ok (.iload 5, 2) := by decide +kernel
theorem dX7_state_80 : decode cX7_state 80 = .ok (.aload_n 0, 1) := by decide +kernel
theorem dX7_state_81 : decode cX7_state 81 = .ok (.getfield 7, 3) := by decide +kernel
theorem dX7_state_84 : decode cX7_state 84 = .ok (.iload 6, 2) := by decide +kernel
theorem dX7_state_86 : decode cX7_state 86 = .ok (.iaload, 1) := by decide +kernel
theorem dX7_state_87 : decode cX7_state 87 = .ok (.imul, 1) := by decide +kernel
theorem dX7_state_88 : decode cX7_state 88 = .ok (.iload 7, 2) := by decide +kernel
theorem dX7_state_90 : decode cX7_state 90 = .ok (.iadd, 1) := by decide +kernel
theorem dX7_state_91 : decode cX7_state 91 = .ok (.istore 5, 2) := by decide +kernel
theorem dX7_state_93 : decode cX7_state 93 = .ok (.iinc 6 1, 3) := by decide +kernel
theorem dX7_state_96 : decode cX7_state 96 = .ok (.goto (-80), 3) := by decide +kernel
theorem dX7_state_99 : decode cX7_state 99 = .ok (.iload 5, 2) := by decide +kernel
theorem dX7_state_101 : decode cX7_state 101 = .ok (.ireturn, 1) := by decide +kernel
theorem dX7_value_0 : decode cX7_value 0 = .ok (.aload_n 0, 1) := by decide +kernel
theorem dX7_value_1 : decode cX7_value 1 = .ok (.getfield 64, 3) := by decide +kernel
theorem dX7_value_4 : decode cX7_value 4 = .ok (.ifCond .ne 6, 3) := by decide +kernel
theorem dX7_value_7 : decode cX7_value 7 = .ok (.bipush (-2), 2) := by decide +kernel
theorem dX7_value_9 : decode cX7_value 9 = .ok (.ireturn, 1) := by decide +kernel
theorem dX7_value_10 : decode cX7_value 10 = .ok (.aload_n 0, 1) := by decide +kernel
theorem dX7_value_11 : decode cX7_value 11 = .ok (.iload_n 1, 1) := by decide +kernel
theorem dX7_value_12 : decode cX7_value 12 = .ok (.invokevirtual 83, 3) := by decide +kernel
theorem dX7_value_15 : decode cX7_value 15 = .ok (.ifCond .eq 20, 3) := by decide +kernel
theorem dX7_value_18 : decode cX7_value 18 = .ok (.aload_n 0, 1) := by decide +kernel
theorem dX7_value_19 : decode cX7_value 19 = .ok (.iload_n 2, 1) := by decide +kernel
theorem dX7_value_20 : decode cX7_value 20 = .ok (.invokevirtual 95, 3) := by decide +kernel
theorem dX7_value_23 : decode cX7_value 23 = .ok (.ifCond .eq 12, 3) := by decide +kernel
theorem dX7_value_26 : decode cX7_value 26 = .ok (.aload_n 0, 1) := by decide +kernel
theorem dX7_value_27 : decode cX7_value 27 = .ok (.iload_n 1, 1) := by decide +kernel
theorem dX7_value_28 : decode cX7_value 28 = .ok (.iload_n 2, 1) := by decide +kernel
theorem dX7_value_29 : decode cX7_value 29 = .ok (.invokevirtual 91, 3) := by decide +kernel
theorem dX7_value_32 : decode cX7_value 32 = .ok (.goto 4, 3) := by decide +kernel
theorem dX7_value_35 : decode cX7_value 35 = .ok (.iconst (-1), 1) := by decide +kernel
theorem dX7_value_36 : decode cX7_value 36 = .ok (.ireturn, 1) := by decide +kernel
theorem dX7_move_0 : decode cX7_move 0 = .ok (.aload_n 0, 1) := by decide +kernel
theorem dX7_move_1 : decode cX7_move 1 = .ok (.getfield 64, 3) := by decide +kernel
theorem dX7_move_4 : decode cX7_move 4 = .ok (.ifCond .ne 6, 3) := by decide +kernel
theorem dX7_move_7 : decode cX7_move 7 = .ok (.bipush (-2), 2) := by decide +kernel
theorem dX7_move_9 : decode cX7_move 9 = .ok (.ireturn, 1) := by decide +kernel
theorem dX7_move_10 : decode cX7_move 10 = .ok (.iload_n 1, 1) := by decide +kernel
theorem dX7_move_11 : decode cX7_move 11 = .ok (.iconst 0, 1) := by decide +kernel
theorem dX7_move_12 : decode cX7_move 12 = .ok (.bipush 6, 2) := by decide +kernel
theorem dX7_move_14 : decode cX7_move 14 = .ok (.invokestatic 67, 3) := by decide +kernel
theorem dX7_move_17 : decode cX7_move 17 = .ok (.ifCond .ne 5, 3) := by decide +kernel
theorem dX7_move_20 : decode cX7_move 20 = .ok (.iconst (-1), 1) := by decide +kernel
theorem dX7_move_21 : decode cX7_move 21 = .ok (.ireturn, 1) := by decide +kernel
theorem dX7_move_22 : decode cX7_move 22 = .ok (.iload_n 1, 1) := by decide +kernel
theorem dX7_move_23 : decode cX7_move 23 = .ok (.iconst 3, 1) := by decide +kernel
theorem dX7_move_24 : decode cX7_move 24 = .ok (.if_icmp .ne 7, 3) := by decide +kernel
theorem dX7_move_27 : decode cX7_move 27 = .ok (.iconst 1, 1) := by decide +kernel
theorem dX7_move_28 : decode cX7_move 28 = .ok (.goto 4, 3) := by decide +kernel
theorem dX7_move_31 : decode cX7_move 31 = .ok (.iconst 0, 1) := by decide +kernel
theorem dX7_move_32 : decode cX7_move 32 = .ok (.istore 4, 2) := by decide +kernel
theorem dX7_move_34 : decode cX7_move 34 = .ok (.iload_n 1, 1) := by decide +kernel
theorem dX7_move_35 : decode cX7_move 35 = .ok (.ifCond .eq 13, 3) := by decide +kernel
theorem dX7_move_38 : decode cX7_move 38 = .ok (.iload_n 1, 1) := by decide +kernel
theorem dX7_move_39 : decode cX7_move 39 = .ok (.iconst 1, 1) := by decide +kernel
theorem dX7_move_40 : decode cX7_move 40 = .ok (.if_icmp .eq 8, 3) := by decide +kernel
theorem dX7_move_43 : decode cX7_move 43 = .ok (.iload_n 1, 1) := by decide +kernel
theorem dX7_move_44 : decode cX7_move 44 = .ok (.iconst 4, 1) := by decide +kernel
theorem dX7_move_45 : decode cX7_move 45 = .ok (.if_icmp .ne 13, 3) := by decide +kernel
theorem dX7_move_48 : decode cX7_move 48 = .ok (.aload_n 0, 1) := by decide +kernel
theorem dX7_move_49 : decode cX7_move 49 = .ok (.iload_n 2, 1) := by decide +kernel
theorem dX7_move_50 : decode cX7_move 50 = .ok (.invokevirtual 95, 3) := by decide +kernel
theorem dX7_move_53 : decode cX7_move 53 = .ok (.istore 4, 2) := by decide +kernel
theorem dX7_move_55 : decode cX7_move 55 = .ok (.goto 82, 3) := by decide +kernel
theorem dX7_move_58 : decode cX7_move 58 = .ok (.iload_n 1, 1) := by decide +kernel
