theorem dX5_init_0 : decode cX5_init 0 = .ok (.aload_n 0, 1) := by decide +kernel
theorem dX5_init_1 : decode cX5_init 1 = .ok (.invokespecial 1, 3) := by decide +kernel
theorem dX5_init_4 : decode cX5_init 4 = .ok (.aload_n 0, 1) := by decide +kernel
theorem dX5_init_5 : decode cX5_init 5 = .ok (.iconst (-1), 1) := by decide +kernel
theorem dX5_init_6 : decode cX5_init 6 = .ok (.putfield 9, 3) := by decide +kernel
theorem dX5_init_9 : decode cX5_init 9 = .ok (.aload_n 0, 1) := by decide +kernel
theorem dX5_init_10 : decode cX5_init 10 = .ok (.iconst 3, 1) := by decide +kernel
theorem dX5_init_11 : decode cX5_init 11 = .ok (.newarray .int, 2) := by decide +kernel
theorem dX5_init_13 : decode cX5_init 13 = .ok (.putfield 13, 3) := by decide +kernel
theorem dX5_init_16 : decode cX5_init 16 = .ok (.aload_n 0, 1) := by decide +kernel
theorem dX5_init_17 : decode cX5_init 17 = .ok (.iconst 3, 1) := by decide +kernel
theorem dX5_init_18 : decode cX5_init 18 = .ok (.newarray .int, 2) := by decide +kernel
theorem dX5_init_20 : decode cX5_init 20 = .ok (.putfield 17, 3) := by decide +kernel
theorem dX5_init_23 : decode cX5_init 23 = .ok (.aload_n 0, 1) := by decide +kernel
theorem dX5_init_24 : decode cX5_init 24 = .ok (.bipush 24, 2) := by decide +kernel
theorem dX5_init_26 : decode cX5_init 26 = .ok (.newarray .int, 2) := by decide +kernel
theorem dX5_init_28 : decode cX5_init 28 = .ok (.putfield 20, 3) := by decide +kernel
theorem dX5_init_31 : decode cX5_init 31 = .ok (.aload_n 0, 1) := by decide +kernel
theorem dX5_init_32 : decode cX5_init 32 = .ok (.bipush 24, 2) := by decide +kernel
theorem dX5_init_34 : decode cX5_init 34 = .ok (.newarray .int, 2) := by decide +kernel
theorem dX5_init_36 : decode cX5_init 36 = .ok (.putfield 23, 3) := by decide +kernel
theorem dX5_init_39 : decode cX5_init 39 = .ok (.aload_n 0, 1) := by decide +kernel
theorem dX5_init_40 : decode cX5_init 40 = .ok (.bipush 72, 2) := by decide +kernel
theorem dX5_init_42 : decode cX5_init 42 = .ok (.newarray .int, 2) := by decide +kernel
theorem dX5_init_44 : decode cX5_init 44 = .ok (.putfield 26, 3) := by decide +kernel
theorem dX5_init_47 : decode cX5_init 47 = .ok (.aload_n 0, 1) := by decide +kernel
theorem dX5_init_48 : decode cX5_init 48 = .ok (.bipush 72, 2) := by decide +kernel
theorem dX5_init_50 : decode cX5_init 50 = .ok (.newarray .int, 2) := by decide +kernel
theorem dX5_init_52 : decode cX5_init 52 = .ok (.putfield 29, 3) := by decide +kernel
theorem dX5_init_55 : decode cX5_init 55 = .ok (.aload_n 0, 1) := by decide +kernel
theorem dX5_init_56 : decode cX5_init 56 = .ok (.bipush 24, 2) := by decide +kernel
theorem dX5_init_58 : decode cX5_init 58 = .ok (.newarray .int, 2) := by decide +kernel
theorem dX5_init_60 : decode cX5_init 60 = .ok (.putfield 32, 3) := by decide +kernel
theorem dX5_init_63 : decode cX5_init 63 = .ok (.aload_n 0, 1) := by decide +kernel
theorem dX5_init_64 : decode cX5_init 64 = .ok (.sipush 13000, 3) := by decide +kernel
theorem dX5_init_67 : decode cX5_init 67 = .ok (.newarray .int, 2) := by decide +kernel
theorem dX5_init_69 : decode cX5_init 69 = .ok (.putfield 35, 3) := by decide +kernel
theorem dX5_init_72 : decode cX5_init 72 = .ok (.aload_n 0, 1) := by decide +kernel
theorem dX5_init_73 : decode cX5_init 73 = .ok (.sipush 13000, 3) := by decide +kernel
theorem dX5_init_76 : decode cX5_init 76 = .ok (.newarray .int, 2) := by decide +kernel
theorem dX5_init_78 : decode cX5_init 78 = .ok (.putfield 38, 3) := by decide +kernel
theorem dX5_init_81 : decode cX5_init 81 = .ok (.aload_n 0, 1) := by decide +kernel
theorem dX5_init_82 : decode cX5_init 82 = .ok (.ldc 41, 2) := by decide +kernel
theorem dX5_init_84 : decode cX5_init 84 = .ok (.newarray .long, 2) := by decide +kernel
theorem dX5_init_86 : decode cX5_init 86 = .ok (.putfield 42, 3) := by decide +kernel
theorem dX5_init_89 : decode cX5_init 89 = .ok (.aload_n 0, 1) := by decide +kernel
theorem dX5_init_90 : decode cX5_init 90 = .ok (.ldc 41, 2) := by decide +kernel
theorem dX5_init_92 : decode cX5_init 92 = .ok (.newarray .boolean, 2) := by decide +kernel
theorem dX5_init_94 : decode cX5_init 94 = .ok (.putfield 46, 3) := by decide +kernel
theorem dX5_init_97 : decode cX5_init 97 = .ok (.aload_n 0, 1) := by decide +kernel
theorem dX5_init_98 : decode cX5_init 98 = .ok (.sipush 12100, 3) := by decide +kernel
theorem dX5_init_101 : decode cX5_init 101 = .ok (.newarray .int, 2) := by decide +kernel
theorem dX5_init_103 : decode cX5_init 103 = .ok (.putfield 50, 3) := by decide +kernel
theorem dX5_init_106 : decode cX5_init 106 = .ok (.aload_n 0, 1) := by decide +kernel
theorem dX5_init_107 : decode cX5_init 107 = .ok (.bipush 30, 2) := by decide +kernel
theorem dX5_init_109 : decode cX5_init 109 = .ok (.newarray .int, 2) := by decide +kernel
theorem dX5_init_111 : decode cX5_init 111 = .ok (.putfield 53, 3) := by decide +kernel
theorem dX5_init_114 : decode cX5_init 114 = .ok (.aload_n 0, 1) := by decide +kernel
theorem dX5_init_115 : decode cX5_init 115 = .ok (.bipush 30, 2) := by decide +kernel
theorem dX5_init_117 : decode cX5_init 117 = .ok (.newarray .int, 2) := by decide +kernel
theorem dX5_init_119 : decode cX5_init 119 = .ok (.putfield 56, 3) := by decide +kernel
theorem dX5_init_122 : decode cX5_init 122 = .ok (.aload_n 0, 1) := by decide +kernel
theorem dX5_init_123 : decode cX5_init 123 = .ok (.bipush 30, 2) := by decide +kernel
theorem dX5_init_125 : decode cX5_init 125 = .ok (.newarray .int, 2) := by decide +kernel
theorem dX5_init_127 : decode cX5_init 127 = .ok (.putfield 59, 3) := by decide +kernel
theorem dX5_init_130 : decode cX5_init 130 = .ok (.aload_n 0, 1) := by decide +kernel
theorem dX5_init_131 : decode cX5_init 131 = .ok (.bipush 30, 2) := by decide +kernel
theorem dX5_init_133 : decode cX5_init 133 = .ok (.newarray .long, 2) := by decide +kernel
theorem dX5_init_135 : decode cX5_init 135 = .ok (.putfield 62, 3) := by decide +kernel
theorem dX5_init_138 : decode cX5_init 138 = .ok (.return_, 1) := by decide +kernel
theorem dX5_within_0 : decode cX5_within 0 = .ok (.lload_n 0, 1) := by decide +kernel
theorem dX5_within_1 : decode cX5_within 1 = .ok (.lload_n 2, 1) := by decide +kernel
theorem dX5_within_2 : decode cX5_within 2 = .ok (.lcmp, 1) := by decide +kernel
theorem dX5_within_3 : decode cX5_within 3 = .ok (.ifCond .lt 14, 3) := by decide +kernel
theorem dX5_within_6 : decode cX5_within 6 = .ok (.lload_n 0, 1) := by decide +kernel
theorem dX5_within_7 : decode cX5_within 7 = .ok (.lload 4, 2) := by decide +kernel
theorem dX5_within_9 : decode cX5_within 9 = .ok (.lcmp, 1) := by decide +kernel
theorem dX5_within_10 : decode cX5_within 10 = .ok (.ifCond .gt 7, 3) := by decide +kernel
theorem dX5_within_13 : decode cX5_within 13 = .ok (.iconst 1, 1) := by decide +kernel
theorem dX5_within_14 : decode cX5_within 14 = .ok (.goto 4, 3) := by decide +kernel
theorem dX5_within_17 : decode cX5_within 17 = .ok (.iconst 0, 1) := by decide +kernel
theorem dX5_within_18 : decode cX5_within 18 = .ok (.ireturn, 1) := by decide +kernel
theorem dX5_code_0 : decode cX5_code 0 = .ok (.aload_n 0, 1) := by decide +kernel
theorem dX5_code_1 : decode cX5_code 1 = .ok (.getfield 65, 3) := by decide +kernel
theorem dX5_code_4 : decode cX5_code 4 = .ok (.ireturn, 1) := by decide +kernel
theorem dX5_which_0 : decode cX5_which 0 = .ok (.aload_n 0, 1) := by decide +kernel
theorem dX5_which_1 : decode cX5_which 1 = .ok (.getfield 9, 3) := by decide +kernel
theorem dX5_which_4 : decode cX5_which 4 = .ok (.ireturn, 1) := by decide +kernel
theorem dX5_no_0 : decode cX5_no 0 = .ok (.aload_n 0, 1) := by decide +kernel
theorem dX5_no_1 : decode cX5_no 1 = .ok (.iload_n 1, 1) := by decide +kernel
theorem dX5_no_2 : decode cX5_no 2 = .ok (.putfield 65, 3) := by decide +kernel
theorem dX5_no_5 : decode cX5_no 5 = .ok (.iconst 0, 1) := by decide +kernel
theorem dX5_no_6 : decode cX5_no 6 = .ok (.ireturn, 1) := by decide +kernel
theorem dX5_noItem_0 : decode cX5_noItem 0 = .ok (.aload_n 0, 1) := by decide +kernel
theorem dX5_noItem_1 : decode cX5_noItem 1 = .ok (.iload_n 1, 1) := by decide +kernel
theorem dX5_noItem_2 : decode cX5_noItem 2 = .ok (.putfield 9, 3) := by decide +kernel
theorem dX5_noItem_5 : decode cX5_noItem 5 = .ok (.aload_n 0, 1) := by decide +kernel
theorem dX5_noItem_6 : decode cX5_noItem 6 = .ok (.iconst 3, 1) := by decide +kernel
theorem dX5_noItem_7 : decode cX5_noItem 7 = .ok (.invokevirtual 68, 3) := by decide +kernel
theorem dX5_noItem_10 : decode cX5_noItem 10 = .ok (.ireturn, 1) := by decide +kernel
theorem dX5_yes_0 : decode cX5_yes 0 = .ok (.aload_n 0, 1) := by decide +kernel
theorem dX5_yes_1 : decode cX5_yes 1 = .ok (.iconst 0, 1) := by decide +kernel
theorem dX5_yes_2 : decode cX5_yes 2 = .ok (.putfield 65, 3) := by decide +kernel
theorem dX5_yes_5 : decode cX5_yes 5 = .ok (.iload_n 1, 1) := by decide +kernel
theorem dX5_yes_6 : decode cX5_yes 6 = .ok (.ireturn, 1) := by decide +kernel
theorem dX5_range_0 : decode cX5_range 0 = .ok (.aload_n 0, 1) := by decide +kernel
theorem dX5_range_1 : decode cX5_range 1 = .ok (.getfield 72, 3) := by decide +kernel
theorem dX5_range_4 : decode cX5_range 4 = .ok (.iconst 3, 1) := by decide +kernel
theorem dX5_range_5 : decode cX5_range 5 = .ok (.if_icmp .ne 10, 3) := by decide +kernel
theorem dX5_range_8 : decode cX5_range 8 = .ok (.aload_n 0, 1) := by decide +kernel
theorem dX5_range_9 : decode cX5_range 9 = .ok (.bipush 8, 2) := by decide +kernel
theorem dX5_range_11 : decode cX5_range 11 = .ok (.invokevirtual 68, 3) := by decide +kernel
theorem dX5_range_14 : decode cX5_range 14 = .ok (.ireturn, 1) := by decide +kernel
theorem dX5_range_15 : decode cX5_range 15 = .ok (.aload_n 0, 1) := by decide +kernel
theorem dX5_range_16 : decode cX5_range 16 = .ok (.getfield 13, 3) := by decide +kernel
theorem dX5_range_19 : decode cX5_range 19 = .ok (.aload_n 0, 1) := by decide +kernel
theorem dX5_range_20 : decode cX5_range 20 = .ok (.getfield 72, 3) := by decide +kernel
theorem dX5_range_23 : decode cX5_range 23 = .ok (.iload_n 1, 1) := by decide +kernel
theorem dX5_range_24 : decode cX5_range 24 = .ok (.iastore, 1) := by decide +kernel
theorem dX5_range_25 : decode cX5_range 25 = .ok (.aload_n 0, 1) := by decide +kernel
theorem dX5_range_26 : decode cX5_range 26 = .ok (.getfield 17, 3) := by decide +kernel
theorem dX5_range_29 : decode cX5_range 29 = .ok (.aload_n 0, 1) := by decide +kernel
theorem dX5_range_30 : decode cX5_range 30 = .ok (.getfield 72, 3) := by decide +kernel
theorem dX5_range_33 : decode cX5_range 33 = .ok (.iload_n 2, 1) := by decide +kernel
theorem dX5_range_34 : decode cX5_range 34 = .ok (.iastore, 1) := by decide +kernel
theorem dX5_range_35 : decode cX5_range 35 = .ok (.aload_n 0, 1) := by decide +kernel
theorem dX5_range_36 : decode cX5_range 36 = .ok (.dup, 1) := by decide +kernel
theorem dX5_range_37 : decode cX5_range 37 = .ok (.getfield 72, 3) := by decide +kernel
theorem dX5_range_40 : decode cX5_range 40 = .ok (.iconst 1, 1) := by decide +kernel
theorem dX5_range_41 : decode cX5_range 41 = .ok (.iadd, 1) := by decide +kernel
theorem dX5_range_42 : decode cX5_range 42 = .ok (.putfield 72, 3) := by decide +kernel
theorem dX5_range_45 : decode cX5_range 45 = .ok (.aload_n 0, 1) := by decide +kernel
theorem dX5_range_46 : decode cX5_range 46 = .ok (.aload_n 0, 1) := by decide +kernel
theorem dX5_range_47 : decode cX5_range 47 = .ok (.getfield 72, 3) := by decide +kernel
theorem dX5_range_50 : decode cX5_range 50 = .ok (.invokevirtual 75, 3) := by decide +kernel
theorem dX5_range_53 : decode cX5_range 53 = .ok (.ireturn, 1) := by decide +kernel
theorem dX5_shapeless_0 : decode cX5_shapeless 0 = .ok (.aload_n 0, 1) := by decide +kernel
theorem dX5_shapeless_1 : decode cX5_shapeless 1 = .ok (.getfield 72, 3) := by decide +kernel
theorem dX5_shapeless_4 : decode cX5_shapeless 4 = .ok (.istore_n 1, 1) := by decide +kernel
theorem dX5_shapeless_5 : decode cX5_shapeless 5 = .ok (.aload_n 0, 1) := by decide +kernel
theorem dX5_shapeless_6 : decode cX5_shapeless 6 = .ok (.iconst 0, 1) := by decide +kernel
theorem dX5_shapeless_7 : decode cX5_shapeless 7 = .ok (.putfield 72, 3) := by decide +kernel
theorem dX5_shapeless_10 : decode cX5_shapeless 10 = .ok (.aload_n 0, 1) := by decide +kernel
theorem dX5_shapeless_11 : decode cX5_shapeless 11 = .ok (.iload_n 1, 1) := by decide +kernel
theorem dX5_shapeless_12 : decode cX5_shapeless 12 = .ok (.invokevirtual 75, 3) := by decide +kernel
theorem dX5_shapeless_15 : decode cX5_shapeless 15 = .ok (.ireturn, 1) := by decide +kernel
theorem dX5_length_0 : decode cX5_length 0 = .ok (.iload_n 1, 1) := by decide +kernel
theorem dX5_length_1 : decode cX5_length 1 = .ok (.i2l, 1) := by decide +kernel
theorem dX5_length_2 : decode cX5_length 2 = .ok (.iload_n 0, 1) := by decide +kernel
theorem dX5_length_3 : decode cX5_length 3 = .ok (.i2l, 1) := by decide +kernel
theorem dX5_length_4 : decode cX5_length 4 = .ok (.lsub, 1) := by decide +kernel
theorem dX5_length_5 : decode cX5_length 5 = .ok (.lconst 1, 1) := by decide +kernel
theorem dX5_length_6 : decode cX5_length 6 = .ok (.ladd, 1) := by decide +kernel
theorem dX5_length_7 : decode cX5_length 7 = .ok (.lstore_n 2, 1) := by decide +kernel
theorem dX5_length_8 : decode cX5_length 8 = .ok (.lload_n 2, 1) := by decide +kernel
theorem dX5_length_9 : decode cX5_length 9 = .ok (.lconst 0, 1) := by decide +kernel
theorem dX5_length_10 : decode cX5_length 10 = .ok (.lcmp, 1) := by decide +kernel
theorem dX5_length_11 : decode cX5_length 11 = .ok (.ifCond .ge 7, 3) := by decide +kernel
theorem dX5_length_14 : decode cX5_length 14 = .ok (.lconst 0, 1) := by decide +kernel
theorem dX5_length_15 : decode cX5_length 15 = .ok (.goto 4, 3) := by decide +kernel
theorem dX5_length_18 : decode cX5_length 18 = .ok (.lload_n 2, 1) := by decide +kernel
theorem dX5_length_19 : decode cX5_length 19 = .ok (.lreturn, 1) := by decide +kernel
theorem dX5_shapeItems_0 : decode cX5_shapeItems 0 = .ok (.iconst 0, 1) := by decide +kernel
theorem dX5_shapeItems_1 : decode cX5_shapeItems 1 = .ok (.istore_n 1, 1) := by decide +kernel
theorem dX5_shapeItems_2 : decode cX5_shapeItems 2 = .ok (.lconst 1, 1) := by decide +kernel
theorem dX5_shapeItems_3 : decode cX5_shapeItems 3 = .ok (.lstore_n 2, 1) := by decide +kernel
theorem dX5_shapeItems_4 : decode cX5_shapeItems 4 = .ok (.iconst 0, 1) := by decide +kernel
theorem dX5_shapeItems_5 : decode cX5_shapeItems 5 = .ok (.istore 4, 2) := by decide +kernel
theorem dX5_shapeItems_7 : decode cX5_shapeItems 7 = .ok (.iload 4, 2) := by decide +kernel
theorem dX5_shapeItems_9 : decode cX5_shapeItems 9 = .ok (.aload_n 0, 1) := by decide +kernel
theorem dX5_shapeItems_10 : decode cX5_shapeItems 10 = .ok (.getfield 72, 3) := by decide +kernel
theorem dX5_shapeItems_13 : decode cX5_shapeItems 13 = .ok (.if_icmp .ge 66, 3) := by decide +kernel
theorem dX5_shapeItems_16 : decode cX5_shapeItems 16 = .ok (.aload_n 0, 1) := by decide +kernel
theorem dX5_shapeItems_17 : decode cX5_shapeItems 17 = .ok (.getfield 13, 3) := by decide +kernel
theorem dX5_shapeItems_20 : decode cX5_shapeItems 20 = .ok (.iload 4, 2) := by decide +kernel
theorem dX5_shapeItems_22 : decode cX5_shapeItems 22 = .ok (.iaload, 1) := by decide +kernel
theorem dX5_shapeItems_23 : decode cX5_shapeItems 23 = .ok (.aload_n 0, 1) := by decide +kernel
theorem dX5_shapeItems_24 : decode cX5_shapeItems 24 = .ok (.getfield 17, 3) := by decide +kernel
theorem dX5_shapeItems_27 : decode cX5_shapeItems 27 = .ok (.iload 4, 2) := by decide +kernel
theorem dX5_shapeItems_29 : decode cX5_shapeItems 29 = .ok (.iaload, 1) := by decide +kernel
theorem dX5_shapeItems_30 : decode cX5_shapeItems 30 = .ok (.invokestatic 78, 3) := by decide +kernel
theorem dX5_shapeItems_33 : decode cX5_shapeItems 33 = .ok (.lstore 5, 2) := by decide +kernel
theorem dX5_shapeItems_35 : decode cX5_shapeItems 35 = .ok (.iload_n 1, 1) := by decide +kernel
theorem dX5_shapeItems_36 : decode cX5_shapeItems 36 = .ok (.ifCond .ne 10, 3) := by decide +kernel
theorem dX5_shapeItems_39 : decode cX5_shapeItems 39 = .ok (.lload 5, 2) := by decide +kernel
theorem dX5_shapeItems_41 : decode cX5_shapeItems 41 = .ok (.lconst 0, 1) := by decide +kernel
theorem dX5_shapeItems_42 : decode cX5_shapeItems 42 = .ok (.lcmp, 1) := by decide +kernel
theorem dX5_shapeItems_43 : decode cX5_shapeItems 43 = .ok (.ifCond .ne 7, 3) := by decide +kernel
theorem dX5_shapeItems_46 : decode cX5_shapeItems 46 = .ok (.iconst 1, 1) := by decide +kernel
theorem dX5_shapeItems_47 : decode cX5_shapeItems 47 = .ok (.goto 4, 3) := by decide +kernel
theorem dX5_shapeItems_50 : decode cX5_shapeItems 50 = .ok (.iconst 0, 1) := by decide +kernel
theorem dX5_shapeItems_51 : decode cX5_shapeItems 51 = .ok (.istore_n 1, 1) := by decide +kernel
theorem dX5_shapeItems_52 : decode cX5_shapeItems 52 = .ok (.lload_n 2, 1) := by decide +kernel
theorem dX5_shapeItems_53 : decode cX5_shapeItems 53 = .ok (.lload 5, 2) := by decide +kernel
theorem dX5_shapeItems_55 : decode cX5_shapeItems 55 = .ok (.lmul, 1) := by decide +kernel
theorem dX5_shapeItems_56 : decode cX5_shapeItems 56 = .ok (.lstore_n 2, 1) := by decide +kernel
theorem dX5_shapeItems_57 : decode cX5_shapeItems 57 = .ok (.lload_n 2, 1) := by decide +kernel
theorem dX5_shapeItems_58 : decode cX5_shapeItems 58 = .ok (.ldc2_w 82, 3) := by decide +kernel
theorem dX5_shapeItems_61 : decode cX5_shapeItems 61 = .ok (.lcmp, 1) := by decide +kernel
theorem dX5_shapeItems_62 : decode cX5_shapeItems 62 = .ok (.ifCond .le 9, 3) := by decide +kernel
theorem dX5_shapeItems_65 : decode cX5_shapeItems 65 = .ok (.ldc2_w 84, 3) := by decide +kernel
theorem dX5_shapeItems_68 : decode cX5_shapeItems 68 = .ok (.goto 4, 3) := by decide +kernel
theorem dX5_shapeItems_71 : decode cX5_shapeItems 71 = .ok (.lload_n 2, 1) := by decide +kernel
theorem dX5_shapeItems_72 : decode cX5_shapeItems 72 = .ok (.lstore_n 2, 1) := by decide +kernel
theorem dX5_shapeItems_73 : decode cX5_shapeItems 73 = .ok (.iinc 4 1, 3) := by decide +kernel
theorem dX5_shapeItems_76 : decode cX5_shapeItems 76 = .ok (.goto (-69), 3) := by decide +kernel
theorem dX5_shapeItems_79 : decode cX5_shapeItems 79 = .ok (.iload_n 1, 1) := by decide +kernel
theorem dX5_shapeItems_80 : decode cX5_shapeItems 80 = .ok (.ifCond .eq 7, 3) := by decide +kernel
theorem dX5_shapeItems_83 : decode cX5_shapeItems 83 = .ok (.iconst 0, 1) := by decide +kernel
theorem dX5_shapeItems_84 : decode cX5_shapeItems 84 = .ok (.goto 5, 3) := by decide +kernel
theorem dX5_shapeItems_87 : decode cX5_shapeItems 87 = .ok (.lload_n 2, 1) := by decide +kernel
theorem dX5_shapeItems_88 : decode cX5_shapeItems 88 = .ok (.l2i, 1) := by decide +kernel
theorem dX5_shapeItems_89 : decode cX5_shapeItems 89 = .ok (.ireturn, 1) := by decide +kernel
theorem dX5_lengthOf_0 : decode cX5_lengthOf 0 = .ok (.aload_n 0, 1) := by decide +kernel
theorem dX5_lengthOf_1 : decode cX5_lengthOf 1 = .ok (.getfield 26, 3) := by decide +kernel
theorem dX5_lengthOf_4 : decode cX5_lengthOf 4 = .ok (.iconst 3, 1) := by decide +kernel
theorem dX5_lengthOf_5 : decode cX5_lengthOf 5 = .ok (.iload_n 1, 1) := by decide +kernel
theorem dX5_lengthOf_6 : decode cX5_lengthOf 6 = .ok (.imul, 1) := by decide +kernel
theorem dX5_lengthOf_7 : decode cX5_lengthOf 7 = .ok (.iload_n 2, 1) := by decide +kernel
theorem dX5_lengthOf_8 : decode cX5_lengthOf 8 = .ok (.iadd, 1) := by decide +kernel
theorem dX5_lengthOf_9 : decode cX5_lengthOf 9 = .ok (.iaload, 1) := by decide +kernel
theorem dX5_lengthOf_10 : decode cX5_lengthOf 10 = .ok (.aload_n 0, 1) := by decide +kernel
theorem dX5_lengthOf_11 : decode cX5_lengthOf 11 = .ok (.getfield 29, 3) := by decide +kernel
theorem dX5_lengthOf_14 : decode cX5_lengthOf 14 = .ok (.iconst 3, 1) := by decide +kernel
theorem dX5_lengthOf_15 : decode cX5_lengthOf 15 = .ok (.iload_n 1, 1) := by decide +kernel
theorem dX5_lengthOf_16 : decode cX5_lengthOf 16 = .ok (.imul, 1) := by decide +kernel
theorem dX5_lengthOf_17 : decode cX5_lengthOf 17 = .ok (.iload_n 2, 1) := by decide +kernel
theorem dX5_lengthOf_18 : decode cX5_lengthOf 18 = .ok (.iadd, 1) := by decide +kernel
theorem dX5_lengthOf_19 : decode cX5_lengthOf 19 = .ok (.iaload, 1) := by decide +kernel
theorem dX5_lengthOf_20 : decode cX5_lengthOf 20 = .ok (.invokestatic 78, 3) := by decide +kernel
theorem dX5_lengthOf_23 : decode cX5_lengthOf 23 = .ok (.lreturn, 1) := by decide +kernel
theorem dX5_newRow_0 : decode cX5_newRow 0 = .ok (.aload_n 0, 1) := by decide +kernel
theorem dX5_newRow_1 : decode cX5_newRow 1 = .ok (.getfield 35, 3) := by decide +kernel
theorem dX5_newRow_4 : decode cX5_newRow 4 = .ok (.aload_n 0, 1) := by decide +kernel
theorem dX5_newRow_5 : decode cX5_newRow 5 = .ok (.getfield 86, 3) := by decide +kernel
theorem dX5_newRow_8 : decode cX5_newRow 8 = .ok (.aload_n 0, 1) := by decide +kernel
theorem dX5_newRow_9 : decode cX5_newRow 9 = .ok (.getfield 89, 3) := by decide +kernel
theorem dX5_newRow_12 : decode cX5_newRow 12 = .ok (.iastore, 1) := by decide +kernel
theorem dX5_newRow_13 : decode cX5_newRow 13 = .ok (.aload_n 0, 1) := by decide +kernel
theorem dX5_newRow_14 : decode cX5_newRow 14 = .ok (.getfield 38, 3) := by decide +kernel
theorem dX5_newRow_17 : decode cX5_newRow 17 = .ok (.aload_n 0, 1) := by decide +kernel
theorem dX5_newRow_18 : decode cX5_newRow 18 = .ok (.getfield 86, 3) := by decide +kernel
theorem dX5_newRow_21 : decode cX5_newRow 21 = .ok (.iload_n 1, 1) := by decide +kernel
theorem dX5_newRow_22 : decode cX5_newRow 22 = .ok (.iastore, 1) := by decide +kernel
theorem dX5_newRow_23 : decode cX5_newRow 23 = .ok (.iconst 0, 1) := by decide +kernel
theorem dX5_newRow_24 : decode cX5_newRow 24 = .ok (.istore_n 2, 1) := by decide +kernel
theorem dX5_newRow_25 : decode cX5_newRow 25 = .ok (.iload_n 2, 1) := by decide +kernel
theorem dX5_newRow_26 : decode cX5_newRow 26 = .ok (.iload_n 1, 1) := by decide +kernel
theorem dX5_newRow_27 : decode cX5_newRow 27 = .ok (.if_icmp .ge 33, 3) := by decide +kernel
theorem dX5_newRow_30 : decode cX5_newRow 30 = .ok (.aload_n 0, 1) := by decide +kernel
theorem dX5_newRow_31 : decode cX5_newRow 31 = .ok (.getfield 42, 3) := by decide +kernel
theorem dX5_newRow_34 : decode cX5_newRow 34 = .ok (.aload_n 0, 1) := by decide +kernel
theorem dX5_newRow_35 : decode cX5_newRow 35 = .ok (.getfield 89, 3) := by decide +kernel
theorem dX5_newRow_38 : decode cX5_newRow 38 = .ok (.iload_n 2, 1) := by decide +kernel
theorem dX5_newRow_39 : decode cX5_newRow 39 = .ok (.iadd, 1) := by decide +kernel
theorem dX5_newRow_40 : decode cX5_newRow 40 = .ok (.lconst 0, 1) := by decide +kernel
theorem dX5_newRow_41 : decode cX5_newRow 41 = .ok (.lastore, 1) := by decide +kernel
theorem dX5_newRow_42 : decode cX5_newRow 42 = .ok (.aload_n 0, 1) := by decide +kernel
theorem dX5_newRow_43 : decode cX5_newRow 43 = .ok (.getfield 46, 3) := by decide +kernel
theorem dX5_newRow_46 : decode cX5_newRow 46 = .ok (.aload_n 0, 1) := by decide +kernel
theorem dX5_newRow_47 : decode cX5_newRow 47 = .ok (.getfield 89, 3) := by decide +kernel
theorem dX5_newRow_50 : decode cX5_newRow 50 = .ok (.iload_n 2, 1) := by decide +kernel
theorem dX5_newRow_51 : decode cX5_newRow 51 = .ok (.iadd, 1) := by decide +kernel
theorem dX5_newRow_52 : decode cX5_newRow 52 = .ok (.iconst 0, 1) := by decide +kernel
theorem dX5_newRow_53 : decode cX5_newRow 53 = .ok (.bastore, 1) := by decide +kernel
theorem dX5_newRow_54 : decode cX5_newRow 54 = .ok (.iinc 2 1, 3) := by decide +kernel
theorem dX5_newRow_57 : decode cX5_newRow 57 = .ok (.goto (-32), 3) := by decide +kernel
theorem dX5_newRow_60 : decode cX5_newRow 60 = .ok (.aload_n 0, 1) := by decide +kernel
theorem dX5_newRow_61 : decode cX5_newRow 61 = .ok (.dup, 1) := by decide +kernel
theorem dX5_newRow_62 : decode cX5_newRow 62 = .ok (.getfield 89, 3) := by decide +kernel
theorem dX5_newRow_65 : decode cX5_newRow 65 = .ok (.iload_n 1, 1) := by decide +kernel
theorem dX5_newRow_66 : decode cX5_newRow 66 = .ok (.iadd, 1) := by decide +kernel
theorem dX5_newRow_67 : decode cX5_newRow 67 = .ok (.putfield 89, 3) := by decide +kernel
theorem dX5_newRow_70 : decode cX5_newRow 70 = .ok (.aload_n 0, 1) := by decide +kernel
theorem dX5_newRow_71 : decode cX5_newRow 71 = .ok (.dup, 1) := by decide +kernel
theorem dX5_newRow_72 : decode cX5_newRow 72 = .ok (.getfield 86, 3) := by decide +kernel
theorem dX5_newRow_75 : decode cX5_newRow 75 = .ok (.iconst 1, 1) := by decide +kernel
theorem dX5_newRow_76 : decode cX5_newRow 76 = .ok (.iadd, 1) := by decide +kernel
theorem dX5_newRow_77 : decode cX5_newRow 77 = .ok (.putfield 86, 3) := by decide +kernel
theorem dX5_newRow_80 : decode cX5_newRow 80 = .ok (.aload_n 0, 1) := by decide +kernel
theorem dX5_newRow_81 : decode cX5_newRow 81 = .ok (.getfield 86, 3) := by decide +kernel
theorem dX5_newRow_84 : decode cX5_newRow 84 = .ok (.iconst 1, 1) := by decide +kernel
theorem dX5_newRow_85 : decode cX5_newRow 85 = .ok (.isub, 1) := by decide +kernel
theorem dX5_newRow_86 : decode cX5_newRow 86 = .ok (.ireturn, 1) := by decide +kernel
theorem dX5_as_0 : decode cX5_as 0 = .ok (.iload_n 0, 1) := by decide +kernel
theorem dX5_as_1 : decode cX5_as 1 = .ok (.ifCond .ne 27, 3) := by decide +kernel
theorem dX5_as_4 : decode cX5_as 4 = .ok (.lload_n 1, 1) := by decide +kernel
theorem dX5_as_5 : decode cX5_as 5 = .ok (.ldc2_w 92, 3) := by decide +kernel
theorem dX5_as_8 : decode cX5_as 8 = .ok (.land, 1) := by decide +kernel
theorem dX5_as_9 : decode cX5_as 9 = .ok (.lstore_n 3, 1) := by decide +kernel
theorem dX5_as_10 : decode cX5_as 10 = .ok (.lload_n 3, 1) := by decide +kernel
theorem dX5_as_11 : decode cX5_as 11 = .ok (.ldc2_w 94, 3) := by decide +kernel
theorem dX5_as_14 : decode cX5_as 14 = .ok (.lcmp, 1) := by decide +kernel
theorem dX5_as_15 : decode cX5_as 15 = .ok (.ifCond .le 11, 3) := by decide +kernel
theorem dX5_as_18 : decode cX5_as 18 = .ok (.lload_n 3, 1) := by decide +kernel
theorem dX5_as_19 : decode cX5_as 19 = .ok (.ldc2_w 96, 3) := by decide +kernel
theorem dX5_as_22 : decode cX5_as 22 = .ok (.lsub, 1) := by decide +kernel
theorem dX5_as_23 : decode cX5_as 23 = .ok (.goto 4, 3) := by decide +kernel
theorem dX5_as_26 : decode cX5_as 26 = .ok (.lload_n 3, 1) := by decide +kernel
theorem dX5_as_27 : decode cX5_as 27 = .ok (.lreturn, 1) := by decide +kernel
theorem dX5_as_28 : decode cX5_as 28 = .ok (.iload_n 0, 1) := by decide +kernel
theorem dX5_as_29 : decode cX5_as 29 = .ok (.iconst 1, 1) := by decide +kernel
theorem dX5_as_30 : decode cX5_as 30 = .ok (.if_icmp .eq 8, 3) := by decide +kernel
theorem dX5_as_33 : decode cX5_as 33 = .ok (.iload_n 0, 1) := by decide +kernel
theorem dX5_as_34 : decode cX5_as 34 = .ok (.iconst 4, 1) := by decide +kernel
theorem dX5_as_35 : decode cX5_as 35 = .ok (.if_icmp .ne 9, 3) := by decide +kernel
theorem dX5_as_38 : decode cX5_as 38 = .ok (.lload_n 1, 1) := by decide +kernel
theorem dX5_as_39 : decode cX5_as 39 = .ok (.l2i, 1) := by decide +kernel
theorem dX5_as_40 : decode cX5_as 40 = .ok (.i2l, 1) := by decide +kernel
theorem dX5_as_41 : decode cX5_as 41 = .ok (.goto 4, 3) := by decide +kernel
theorem dX5_as_44 : decode cX5_as 44 = .ok (.lload_n 1, 1) := by decide +kernel
theorem dX5_as_45 : decode cX5_as 45 = .ok (.lreturn, 1) := by decide +kernel
theorem dX5_isArray_0 : decode cX5_isArray 0 = .ok (.iload_n 1, 1) := by decide +kernel
theorem dX5_isArray_1 : decode cX5_isArray 1 = .ok (.i2l, 1) := by decide +kernel
theorem dX5_isArray_2 : decode cX5_isArray 2 = .ok (.lconst 0, 1) := by decide +kernel
theorem dX5_isArray_3 : decode cX5_isArray 3 = .ok (.aload_n 0, 1) := by decide +kernel
theorem dX5_isArray_4 : decode cX5_isArray 4 = .ok (.getfield 98, 3) := by decide +kernel
theorem dX5_isArray_7 : decode cX5_isArray 7 = .ok (.iconst 1, 1) := by decide +kernel
theorem dX5_isArray_8 : decode cX5_isArray 8 = .ok (.isub, 1) := by decide +kernel
theorem dX5_isArray_9 : decode cX5_isArray 9 = .ok (.i2l, 1) := by decide +kernel
theorem dX5_isArray_10 : decode cX5_isArray 10 = .ok (.invokestatic 101, 3) := by decide +kernel
theorem dX5_isArray_13 : decode cX5_isArray 13 = .ok (.ireturn, 1) := by decide +kernel
theorem dX5_newArray_0 : decode cX5_newArray 0 = .ok (.aload_n 0, 1) := by decide +kernel
theorem dX5_newArray_1 : decode cX5_newArray 1 = .ok (.getfield 20, 3) := by decide +kernel
theorem dX5_newArray_4 : decode cX5_newArray 4 = .ok (.aload_n 0, 1) := by decide +kernel
theorem dX5_newArray_5 : decode cX5_newArray 5 = .ok (.getfield 98, 3) := by decide +kernel
theorem dX5_newArray_8 : decode cX5_newArray 8 = .ok (.iload_n 1, 1) := by decide +kernel
theorem dX5_newArray_9 : decode cX5_newArray 9 = .ok (.iastore, 1) := by decide +kernel
theorem dX5_newArray_10 : decode cX5_newArray 10 = .ok (.aload_n 0, 1) := by decide +kernel
theorem dX5_newArray_11 : decode cX5_newArray 11 = .ok (.getfield 23, 3) := by decide +kernel
theorem dX5_newArray_14 : decode cX5_newArray 14 = .ok (.aload_n 0, 1) := by decide +kernel
theorem dX5_newArray_15 : decode cX5_newArray 15 = .ok (.getfield 98, 3) := by decide +kernel
theorem dX5_newArray_18 : decode cX5_newArray 18 = .ok (.iload_n 2, 1) := by decide +kernel
theorem dX5_newArray_19 : decode cX5_newArray 19 = .ok (.iconst (-1), 1) := by decide +kernel
theorem dX5_newArray_20 : decode cX5_newArray 20 = .ok (.if_icmp .ne 10, 3) := by decide +kernel
theorem dX5_newArray_23 : decode cX5_newArray 23 = .ok (.aload_n 0, 1) := by decide +kernel
theorem dX5_newArray_24 : decode cX5_newArray 24 = .ok (.getfield 72, 3) := by decide +kernel
theorem dX5_newArray_27 : decode cX5_newArray 27 = .ok (.goto 9, 3) := by decide +kernel
theorem dX5_newArray_30 : decode cX5_newArray 30 = .ok (.aload_n 0, 1) := by decide +kernel
theorem dX5_newArray_31 : decode cX5_newArray 31 = .ok (.getfield 23, 3) := by decide +kernel
theorem dX5_newArray_34 : decode cX5_newArray 34 = .ok (.iload_n 2, 1) := by decide +kernel
theorem dX5_newArray_35 : decode cX5_newArray 35 = .ok (.iaload, 1) := by decide +kernel
theorem dX5_newArray_36 : decode cX5_newArray 36 = .ok (.iastore, 1) := by decide +kernel
theorem dX5_newArray_37 : decode cX5_newArray 37 = .ok (.iconst 0, 1) := by decide +kernel
theorem dX5_newArray_38 : decode cX5_newArray 38 = .ok (.istore_n 3, 1) := by decide +kernel
theorem dX5_newArray_39 : decode cX5_newArray 39 = .ok (.iload_n 3, 1) := by decide +kernel
theorem dX5_newArray_40 : decode cX5_newArray 40 = .ok (.iconst 3, 1) := by decide +kernel
theorem dX5_newArray_41 : decode cX5_newArray 41 = .ok (.if_icmp .ge 83, 3) := by decide +kernel
theorem dX5_newArray_44 : decode cX5_newArray 44 = .ok (.aload_n 0, 1) := by decide +kernel
theorem dX5_newArray_45 : decode cX5_newArray 45 = .ok (.getfield 26, 3) := by decide +kernel
theorem dX5_newArray_48 : decode cX5_newArray 48 = .ok (.iconst 3, 1) := by decide +kernel
theorem dX5_newArray_49 : decode cX5_newArray 49 = .ok (.aload_n 0, 1) := by decide +kernel
theorem dX5_newArray_50 : decode cX5_newArray 50 = .ok (.getfield 98, 3) := by decide +kernel
theorem dX5_newArray_53 : decode cX5_newArray 53 = .ok (.imul, 1) := by decide +kernel
theorem dX5_newArray_54 : decode cX5_newArray 54 = .ok (.iload_n 3, 1) := by decide +kernel
theorem dX5_newArray_55 : decode cX5_newArray 55 = .ok (.iadd, 1) := by decide +kernel
theorem dX5_newArray_56 : decode cX5_newArray 56 = .ok (.iload_n 2, 1) := by decide +kernel
theorem dX5_newArray_57 : decode cX5_newArray 57 = .ok (.iconst (-1), 1) := by decide +kernel
theorem dX5_newArray_58 : decode cX5_newArray 58 = .ok (.if_icmp .ne 12, 3) := by decide +kernel
theorem dX5_newArray_61 : decode cX5_newArray 61 = .ok (.aload_n 0, 1) := by decide +kernel
theorem dX5_newArray_62 : decode cX5_newArray 62 = .ok (.getfield 13, 3) := by decide +kernel
theorem dX5_newArray_65 : decode cX5_newArray 65 = .ok (.iload_n 3, 1) := by decide +kernel
theorem dX5_newArray_66 : decode cX5_newArray 66 = .ok (.iaload, 1) := by decide +kernel
theorem dX5_newArray_67 : decode cX5_newArray 67 = .ok (.goto 13, 3) := by decide +kernel
theorem dX5_newArray_70 : decode cX5_newArray 70 = .ok (.aload_n 0, 1) := by decide +kernel
theorem dX5_newArray_71 : decode cX5_newArray 71 = .ok (.getfield 26, 3) := by decide +kernel
theorem dX5_newArray_74 : decode cX5_newArray 74 = .ok (.iconst 3, 1) := by decide +kernel
theorem dX5_newArray_75 : decode cX5_newArray 75 = .ok (.iload_n 2, 1) := by decide +kernel
theorem dX5_newArray_76 : decode cX5_newArray 76 = .ok (.imul, 1) := by decide +kernel
theorem dX5_newArray_77 : decode cX5_newArray 77 = .ok (.iload_n 3, 1) := by decide +kernel
theorem dX5_newArray_78 : decode cX5_newArray 78 = .ok (.iadd, 1) := by decide +kernel
theorem dX5_newArray_79 : decode cX5_newArray 79 = .ok (.iaload, 1) := by decide +kernel
theorem dX5_newArray_80 : decode cX5_newArray 80 = .ok (.iastore, 1) := by decide +kernel
theorem dX5_newArray_81 : decode cX5_newArray 81 = .ok (.aload_n 0, 1) := by decide +kernel
theorem dX5_newArray_82 : decode cX5_newArray 82 = .ok (.getfield 29, 3) := by decide +kernel
theorem dX5_newArray_85 : decode cX5_newArray 85 = .ok (.iconst 3, 1) := by decide +kernel
theorem dX5_newArray_86 : decode cX5_newArray 86 = .ok (.aload_n 0, 1) := by decide +kernel
theorem dX5_newArray_87 : decode cX5_newArray 87 = .ok (.getfield 98, 3) := by decide +kernel
theorem dX5_newArray_90 : decode cX5_newArray 90 = .ok (.imul, 1) := by decide +kernel
theorem dX5_newArray_91 : decode cX5_newArray 91 = .ok (.iload_n 3, 1) := by decide +kernel
theorem dX5_newArray_92 : decode cX5_newArray 92 = .ok (.iadd, 1) := by decide +kernel
theorem dX5_newArray_93 : decode cX5_newArray 93 = .ok (.iload_n 2, 1) := by decide +kernel
theorem dX5_newArray_94 : decode cX5_newArray 94 = .ok (.iconst (-1), 1) := by decide +kernel
theorem dX5_newArray_95 : decode cX5_newArray 95 = .ok (.if_icmp .ne 12, 3) := by decide +kernel
theorem dX5_newArray_98 : decode cX5_newArray 98 = .ok (.aload_n 0, 1) := by decide +kernel
theorem dX5_newArray_99 : decode cX5_newArray 99 = .ok (.getfield 17, 3) := by decide +kernel
theorem dX5_newArray_102 : decode cX5_newArray 102 = .ok (.iload_n 3, 1) := by decide +kernel
theorem dX5_newArray_103 : decode cX5_newArray 103 = .ok (.iaload, 1) := by decide +kernel
theorem dX5_newArray_104 : decode cX5_newArray 104 = .ok (.goto 13, 3) := by decide +kernel
theorem dX5_newArray_107 : decode cX5_newArray 107 = .ok (.aload_n 0, 1) := by decide +kernel
theorem dX5_newArray_108 : decode cX5_newArray 108 = .ok (.getfield 29, 3) := by decide +kernel
theorem dX5_newArray_111 : decode cX5_newArray 111 = .ok (.iconst 3, 1) := by decide +kernel
theorem dX5_newArray_112 : decode cX5_newArray 112 = .ok (.iload_n 2, 1) := by decide +kernel
theorem dX5_newArray_113 : decode cX5_newArray 113 = .ok (.imul, 1) := by decide +kernel
theorem dX5_newArray_114 : decode cX5_newArray 114 = .ok (.iload_n 3, 1) := by decide +kernel
theorem dX5_newArray_115 : decode cX5_newArray 115 = .ok (.iadd, 1) := by decide +kernel
theorem dX5_newArray_116 : decode cX5_newArray 116 = .ok (.iaload, 1) := by decide +kernel
theorem dX5_newArray_117 : decode cX5_newArray 117 = .ok (.iastore, 1) := by decide +kernel
theorem dX5_newArray_118 : decode cX5_newArray 118 = .ok (.iinc 3 1, 3) := by decide +kernel
theorem dX5_newArray_121 : decode cX5_newArray 121 = .ok (.goto (-82), 3) := by decide +kernel
theorem dX5_newArray_124 : decode cX5_newArray 124 = .ok (.aload_n 0, 1) := by decide +kernel
theorem dX5_newArray_125 : decode cX5_newArray 125 = .ok (.dup, 1) := by decide +kernel
theorem dX5_newArray_126 : decode cX5_newArray 126 = .ok (.getfield 98, 3) := by decide +kernel
theorem dX5_newArray_129 : decode cX5_newArray 129 = .ok (.iconst 1, 1) := by decide +kernel
theorem dX5_newArray_130 : decode cX5_newArray 130 = .ok (.iadd, 1) := by decide +kernel
theorem dX5_newArray_131 : decode cX5_newArray 131 = .ok (.putfield 98, 3) := by decide +kernel
theorem dX5_newArray_134 : decode cX5_newArray 134 = .ok (.aload_n 0, 1) := by decide +kernel
theorem dX5_newArray_135 : decode cX5_newArray 135 = .ok (.getfield 98, 3) := by decide +kernel
theorem dX5_newArray_138 : decode cX5_newArray 138 = .ok (.iconst 1, 1) := by decide +kernel
theorem dX5_newArray_139 : decode cX5_newArray 139 = .ok (.isub, 1) := by decide +kernel
theorem dX5_newArray_140 : decode cX5_newArray 140 = .ok (.ireturn, 1) := by decide +kernel
theorem dX5_newTable_0 : decode cX5_newTable 0 = .ok (.aload_n 0, 1) := by decide +kernel
theorem dX5_newTable_1 : decode cX5_newTable 1 = .ok (.getfield 32, 3) := by decide +kernel
theorem dX5_newTable_4 : decode cX5_newTable 4 = .ok (.iload_n 1, 1) := by decide +kernel
theorem dX5_newTable_5 : decode cX5_newTable 5 = .ok (.aload_n 0, 1) := by decide +kernel
theorem dX5_newTable_6 : decode cX5_newTable 6 = .ok (.getfield 105, 3) := by decide +kernel
theorem dX5_newTable_9 : decode cX5_newTable 9 = .ok (.iastore, 1) := by decide +kernel
theorem dX5_newTable_10 : decode cX5_newTable 10 = .ok (.aload_n 0, 1) := by decide +kernel
theorem dX5_newTable_11 : decode cX5_newTable 11 = .ok (.iload_n 1, 1) := by decide +kernel
theorem dX5_newTable_12 : decode cX5_newTable 12 = .ok (.iconst 0, 1) := by decide +kernel
theorem dX5_newTable_13 : decode cX5_newTable 13 = .ok (.invokevirtual 108, 3) := by decide +kernel
theorem dX5_newTable_16 : decode cX5_newTable 16 = .ok (.l2i, 1) := by decide +kernel
theorem dX5_newTable_17 : decode cX5_newTable 17 = .ok (.istore_n 2, 1) := by decide +kernel
theorem dX5_newTable_18 : decode cX5_newTable 18 = .ok (.iload_n 2, 1) := by decide +kernel
theorem dX5_newTable_19 : decode cX5_newTable 19 = .ok (.ifCond .ne 7, 3) := by decide +kernel
theorem dX5_newTable_22 : decode cX5_newTable 22 = .ok (.lconst 0, 1) := by decide +kernel
theorem dX5_newTable_23 : decode cX5_newTable 23 = .ok (.goto 9, 3) := by decide +kernel
theorem dX5_newTable_26 : decode cX5_newTable 26 = .ok (.aload_n 0, 1) := by decide +kernel
theorem dX5_newTable_27 : decode cX5_newTable 27 = .ok (.iload_n 1, 1) := by decide +kernel
theorem dX5_newTable_28 : decode cX5_newTable 28 = .ok (.iconst 1, 1) := by decide +kernel
theorem dX5_newTable_29 : decode cX5_newTable 29 = .ok (.invokevirtual 108, 3) := by decide +kernel
theorem dX5_newTable_32 : decode cX5_newTable 32 = .ok (.l2i, 1) := by decide +kernel
theorem dX5_newTable_33 : decode cX5_newTable 33 = .ok (.istore_n 3, 1) := by decide +kernel
theorem dX5_newTable_34 : decode cX5_newTable 34 = .ok (.iconst 0, 1) := by decide +kernel
theorem dX5_newTable_35 : decode cX5_newTable 35 = .ok (.istore 4, 2) := by decide +kernel
theorem dX5_newTable_37 : decode cX5_newTable 37 = .ok (.iload 4, 2) := by decide +kernel
theorem dX5_newTable_39 : decode cX5_newTable 39 = .ok (.iload_n 2, 1) := by decide +kernel
theorem dX5_newTable_40 : decode cX5_newTable 40 = .ok (.if_icmp .ge 33, 3) := by decide +kernel
theorem dX5_newTable_43 : decode cX5_newTable 43 = .ok (.aload_n 0, 1) := by decide +kernel
theorem dX5_newTable_44 : decode cX5_newTable 44 = .ok (.getfield 50, 3) := by decide +kernel
theorem dX5_newTable_47 : decode cX5_newTable 47 = .ok (.aload_n 0, 1) := by decide +kernel
theorem dX5_newTable_48 : decode cX5_newTable 48 = .ok (.getfield 105, 3) := by decide +kernel
theorem dX5_newTable_51 : decode cX5_newTable 51 = .ok (.aload_n 0, 1) := by decide +kernel
theorem dX5_newTable_52 : decode cX5_newTable 52 = .ok (.iload_n 3, 1) := by decide +kernel
theorem dX5_newTable_53 : decode cX5_newTable 53 = .ok (.invokevirtual 111, 3) := by decide +kernel
theorem dX5_newTable_56 : decode cX5_newTable 56 = .ok (.iastore, 1) := by decide +kernel
theorem dX5_newTable_57 : decode cX5_newTable 57 = .ok (.aload_n 0, 1) := by decide +kernel
theorem dX5_newTable_58 : decode cX5_newTable 58 = .ok (.dup, 1) := by decide +kernel
theorem dX5_newTable_59 : decode cX5_newTable 59 = .ok (.getfield 105, 3) := by decide +kernel
theorem dX5_newTable_62 : decode cX5_newTable 62 = .ok (.iconst 1, 1) := by decide +kernel
theorem dX5_newTable_63 : decode cX5_newTable 63 = .ok (.iadd, 1) := by decide +kernel
theorem dX5_newTable_64 : decode cX5_newTable 64 = .ok (.putfield 105, 3) := by decide +kernel
theorem dX5_newTable_67 : decode cX5_newTable 67 = .ok (.iinc 4 1, 3) := by decide +kernel
theorem dX5_newTable_70 : decode cX5_newTable 70 = .ok (.goto (-33), 3) := by decide +kernel
theorem dX5_newTable_73 : decode cX5_newTable 73 = .ok (.return_, 1) := by decide +kernel
theorem dX5_make_0 : decode cX5_make 0 = .ok (.iload_n 1, 1) := by decide +kernel
theorem dX5_make_1 : decode cX5_make 1 = .ok (.i2l, 1) := by decide +kernel
theorem dX5_make_2 : decode cX5_make 2 = .ok (.lconst 0, 1) := by decide +kernel
theorem dX5_make_3 : decode cX5_make 3 = .ok (.ldc2_w 114, 3) := by decide +kernel
theorem dX5_make_6 : decode cX5_make 6 = .ok (.invokestatic 101, 3) := by decide +kernel
theorem dX5_make_9 : decode cX5_make 9 = .ok (.ifCond .ne 6, 3) := by decide +kernel
theorem dX5_make_12 : decode cX5_make 12 = .ok (.ldc 116, 2) := by decide +kernel
theorem dX5_make_14 : decode cX5_make 14 = .ok (.ireturn, 1) := by decide +kernel
theorem dX5_make_15 : decode cX5_make 15 = .ok (.aload_n 0, 1) := by decide +kernel
theorem dX5_make_16 : decode cX5_make 16 = .ok (.getfield 72, 3) := by decide +kernel
theorem dX5_make_19 : decode cX5_make 19 = .ok (.ifCond .eq 16, 3) := by decide +kernel
theorem dX5_make_22 : decode cX5_make 22 = .ok (.iload_n 1, 1) := by decide +kernel
theorem dX5_make_23 : decode cX5_make 23 = .ok (.iconst 4, 1) := by decide +kernel
theorem dX5_make_24 : decode cX5_make 24 = .ok (.if_icmp .ne 18, 3) := by decide +kernel
theorem dX5_make_27 : decode cX5_make 27 = .ok (.aload_n 0, 1) := by decide +kernel
theorem dX5_make_28 : decode cX5_make 28 = .ok (.getfield 72, 3) := by decide +kernel
theorem dX5_make_31 : decode cX5_make 31 = .ok (.iconst 2, 1) := by decide +kernel
theorem dX5_make_32 : decode cX5_make 32 = .ok (.if_icmp .eq 10, 3) := by decide +kernel
theorem dX5_make_35 : decode cX5_make 35 = .ok (.aload_n 0, 1) := by decide +kernel
theorem dX5_make_36 : decode cX5_make 36 = .ok (.bipush 9, 2) := by decide +kernel
theorem dX5_make_38 : decode cX5_make 38 = .ok (.invokevirtual 68, 3) := by decide +kernel
theorem dX5_make_41 : decode cX5_make 41 = .ok (.ireturn, 1) := by decide +kernel
theorem dX5_make_42 : decode cX5_make 42 = .ok (.aload_n 0, 1) := by decide +kernel
theorem dX5_make_43 : decode cX5_make 43 = .ok (.invokevirtual 117, 3) := by decide +kernel
theorem dX5_make_46 : decode cX5_make 46 = .ok (.istore_n 2, 1) := by decide +kernel
theorem dX5_make_47 : decode cX5_make 47 = .ok (.iload_n 2, 1) := by decide +kernel
theorem dX5_make_48 : decode cX5_make 48 = .ok (.sipush 500, 3) := by decide +kernel
theorem dX5_make_51 : decode cX5_make 51 = .ok (.if_icmp .gt 30, 3) := by decide +kernel
theorem dX5_make_54 : decode cX5_make 54 = .ok (.iload_n 1, 1) := by decide +kernel
theorem dX5_make_55 : decode cX5_make 55 = .ok (.iconst 4, 1) := by decide +kernel
theorem dX5_make_56 : decode cX5_make 56 = .ok (.if_icmp .ne 31, 3) := by decide +kernel
theorem dX5_make_59 : decode cX5_make 59 = .ok (.aload_n 0, 1) := by decide +kernel
theorem dX5_make_60 : decode cX5_make 60 = .ok (.getfield 13, 3) := by decide +kernel
theorem dX5_make_63 : decode cX5_make 63 = .ok (.iconst 0, 1) := by decide +kernel
theorem dX5_make_64 : decode cX5_make 64 = .ok (.iaload, 1) := by decide +kernel
theorem dX5_make_65 : decode cX5_make 65 = .ok (.aload_n 0, 1) := by decide +kernel
theorem dX5_make_66 : decode cX5_make 66 = .ok (.getfield 17, 3) := by decide +kernel
theorem dX5_make_69 : decode cX5_make 69 = .ok (.iconst 0, 1) := by decide +kernel
theorem dX5_make_70 : decode cX5_make 70 = .ok (.iaload, 1) := by decide +kernel
theorem dX5_make_71 : decode cX5_make 71 = .ok (.invokestatic 78, 3) := by decide +kernel
theorem dX5_make_74 : decode cX5_make 74 = .ok (.ldc2_w 82, 3) := by decide +kernel
theorem dX5_make_77 : decode cX5_make 77 = .ok (.lcmp, 1) := by decide +kernel
theorem dX5_make_78 : decode cX5_make 78 = .ok (.ifCond .le 9, 3) := by decide +kernel
theorem dX5_make_81 : decode cX5_make 81 = .ok (.aload_n 0, 1) := by decide +kernel
theorem dX5_make_82 : decode cX5_make 82 = .ok (.iconst 5, 1) := by decide +kernel
theorem dX5_make_83 : decode cX5_make 83 = .ok (.invokevirtual 68, 3) := by decide +kernel
theorem dX5_make_86 : decode cX5_make 86 = .ok (.ireturn, 1) := by decide +kernel
theorem dX5_make_87 : decode cX5_make 87 = .ok (.aload_n 0, 1) := by decide +kernel
theorem dX5_make_88 : decode cX5_make 88 = .ok (.getfield 98, 3) := by decide +kernel
theorem dX5_make_91 : decode cX5_make 91 = .ok (.bipush 24, 2) := by decide +kernel
theorem dX5_make_93 : decode cX5_make 93 = .ok (.if_icmp .ne 10, 3) := by decide +kernel
theorem dX5_make_96 : decode cX5_make 96 = .ok (.aload_n 0, 1) := by decide +kernel
theorem dX5_make_97 : decode cX5_make 97 = .ok (.bipush 8, 2) := by decide +kernel
theorem dX5_make_99 : decode cX5_make 99 = .ok (.invokevirtual 68, 3) := by decide +kernel
theorem dX5_make_102 : decode cX5_make 102 = .ok (.ireturn, 1) := by decide +kernel
theorem dX5_make_103 : decode cX5_make 103 = .ok (.aload_n 0, 1) := by decide +kernel
theorem dX5_make_104 : decode cX5_make 104 = .ok (.iload_n 1, 1) := by decide +kernel
theorem dX5_make_105 : decode cX5_make 105 = .ok (.iconst (-1), 1) := by decide +kernel
theorem dX5_make_106 : decode cX5_make 106 = .ok (.invokevirtual 121, 3) := by decide +kernel
theorem dX5_make_109 : decode cX5_make 109 = .ok (.istore_n 3, 1) := by decide +kernel
theorem dX5_make_110 : decode cX5_make 110 = .ok (.iload_n 1, 1) := by decide +kernel
theorem dX5_make_111 : decode cX5_make 111 = .ok (.iconst 4, 1) := by decide +kernel
theorem dX5_make_112 : decode cX5_make 112 = .ok (.if_icmp .ne 11, 3) := by decide +kernel
theorem dX5_make_115 : decode cX5_make 115 = .ok (.aload_n 0, 1) := by decide +kernel
theorem dX5_make_116 : decode cX5_make 116 = .ok (.iload_n 3, 1) := by decide +kernel
theorem dX5_make_117 : decode cX5_make 117 = .ok (.invokevirtual 125, 3) := by decide +kernel
theorem dX5_make_120 : decode cX5_make 120 = .ok (.goto 14, 3) := by decide +kernel
theorem dX5_make_123 : decode cX5_make 123 = .ok (.aload_n 0, 1) := by decide +kernel
theorem dX5_make_124 : decode cX5_make 124 = .ok (.getfield 32, 3) := by decide +kernel
theorem dX5_make_127 : decode cX5_make 127 = .ok (.iload_n 3, 1) := by decide +kernel
theorem dX5_make_128 : decode cX5_make 128 = .ok (.aload_n 0, 1) := by decide +kernel
theorem dX5_make_129 : decode cX5_make 129 = .ok (.iload_n 2, 1) := by decide +kernel
theorem dX5_make_130 : decode cX5_make 130 = .ok (.invokevirtual 111, 3) := by decide +kernel
theorem dX5_make_133 : decode cX5_make 133 = .ok (.iastore, 1) := by decide +kernel
theorem dX5_make_134 : decode cX5_make 134 = .ok (.aload_n 0, 1) := by decide +kernel
theorem dX5_make_135 : decode cX5_make 135 = .ok (.iconst 0, 1) := by decide +kernel
theorem dX5_make_136 : decode cX5_make 136 = .ok (.putfield 72, 3) := by decide +kernel
theorem dX5_make_139 : decode cX5_make 139 = .ok (.aload_n 0, 1) := by decide +kernel
theorem dX5_make_140 : decode cX5_make 140 = .ok (.iload_n 3, 1) := by decide +kernel
theorem dX5_make_141 : decode cX5_make 141 = .ok (.invokevirtual 75, 3) := by decide +kernel
theorem dX5_make_144 : decode cX5_make 144 = .ok (.ireturn, 1) := by decide +kernel
theorem dX5_raw_0 : decode cX5_raw 0 = .ok (.iload_n 1, 1) := by decide +kernel
theorem dX5_raw_1 : decode cX5_raw 1 = .ok (.i2l, 1) := by decide +kernel
theorem dX5_raw_2 : decode cX5_raw 2 = .ok (.lconst 0, 1) := by decide +kernel
theorem dX5_raw_3 : decode cX5_raw 3 = .ok (.ldc2_w 129, 3) := by decide +kernel
theorem dX5_raw_6 : decode cX5_raw 6 = .ok (.invokestatic 101, 3) := by decide +kernel
theorem dX5_raw_9 : decode cX5_raw 9 = .ok (.ifCond .ne 6, 3) := by decide +kernel
theorem dX5_raw_12 : decode cX5_raw 12 = .ok (.ldc 116, 2) := by decide +kernel
theorem dX5_raw_14 : decode cX5_raw 14 = .ok (.ireturn, 1) := by decide +kernel
theorem dX5_raw_15 : decode cX5_raw 15 = .ok (.iload_n 2, 1) := by decide +kernel
theorem dX5_raw_16 : decode cX5_raw 16 = .ok (.ifCond .ge 9, 3) := by decide +kernel
theorem dX5_raw_19 : decode cX5_raw 19 = .ok (.aload_n 0, 1) := by decide +kernel
theorem dX5_raw_20 : decode cX5_raw 20 = .ok (.iconst 4, 1) := by decide +kernel
theorem dX5_raw_21 : decode cX5_raw 21 = .ok (.invokevirtual 68, 3) := by decide +kernel
theorem dX5_raw_24 : decode cX5_raw 24 = .ok (.ireturn, 1) := by decide +kernel
theorem dX5_raw_25 : decode cX5_raw 25 = .ok (.iload_n 2, 1) := by decide +kernel
theorem dX5_raw_26 : decode cX5_raw 26 = .ok (.sipush 500, 3) := by decide +kernel
theorem dX5_raw_29 : decode cX5_raw 29 = .ok (.if_icmp .le 9, 3) := by decide +kernel
theorem dX5_raw_32 : decode cX5_raw 32 = .ok (.aload_n 0, 1) := by decide +kernel
theorem dX5_raw_33 : decode cX5_raw 33 = .ok (.iconst 5, 1) := by decide +kernel
theorem dX5_raw_34 : decode cX5_raw 34 = .ok (.invokevirtual 68, 3) := by decide +kernel
theorem dX5_raw_37 : decode cX5_raw 37 = .ok (.ireturn, 1) := by decide +kernel
theorem dX5_raw_38 : decode cX5_raw 38 = .ok (.aload_n 0, 1) := by decide +kernel
theorem dX5_raw_39 : decode cX5_raw 39 = .ok (.getfield 98, 3) := by decide +kernel
theorem dX5_raw_42 : decode cX5_raw 42 = .ok (.bipush 24, 2) := by decide +kernel
theorem dX5_raw_44 : decode cX5_raw 44 = .ok (.if_icmp .ne 10, 3) := by decide +kernel
theorem dX5_raw_47 : decode cX5_raw 47 = .ok (.aload_n 0, 1) := by decide +kernel
theorem dX5_raw_48 : decode cX5_raw 48 = .ok (.bipush 8, 2) := by decide +kernel
theorem dX5_raw_50 : decode cX5_raw 50 = .ok (.invokevirtual 68, 3) := by decide +kernel
theorem dX5_raw_53 : decode cX5_raw 53 = .ok (.ireturn, 1) := by decide +kernel
theorem dX5_raw_54 : decode cX5_raw 54 = .ok (.aload_n 0, 1) := by decide +kernel
theorem dX5_raw_55 : decode cX5_raw 55 = .ok (.getfield 20, 3) := by decide +kernel
theorem dX5_raw_58 : decode cX5_raw 58 = .ok (.aload_n 0, 1) := by decide +kernel
theorem dX5_raw_59 : decode cX5_raw 59 = .ok (.getfield 98, 3) := by decide +kernel
theorem dX5_raw_62 : decode cX5_raw 62 = .ok (.iload_n 1, 1) := by decide +kernel
theorem dX5_raw_63 : decode cX5_raw 63 = .ok (.iastore, 1) := by decide +kernel
theorem dX5_raw_64 : decode cX5_raw 64 = .ok (.aload_n 0, 1) := by decide +kernel
theorem dX5_raw_65 : decode cX5_raw 65 = .ok (.getfield 23, 3) := by decide +kernel
theorem dX5_raw_68 : decode cX5_raw 68 = .ok (.aload_n 0, 1) := by decide +kernel
theorem dX5_raw_69 : decode cX5_raw 69 = .ok (.getfield 98, 3) := by decide +kernel
theorem dX5_raw_72 : decode cX5_raw 72 = .ok (.iconst 1, 1) := by decide +kernel
theorem dX5_raw_73 : decode cX5_raw 73 = .ok (.iastore, 1) := by decide +kernel
theorem dX5_raw_74 : decode cX5_raw 74 = .ok (.aload_n 0, 1) := by decide +kernel
theorem dX5_raw_75 : decode cX5_raw 75 = .ok (.getfield 26, 3) := by decide +kernel
theorem dX5_raw_78 : decode cX5_raw 78 = .ok (.iconst 3, 1) := by decide +kernel
theorem dX5_raw_79 : decode cX5_raw 79 = .ok (.aload_n 0, 1) := by decide +kernel
theorem dX5_raw_80 : decode cX5_raw 80 = .ok (.getfield 98, 3) := by decide +kernel
theorem dX5_raw_83 : decode cX5_raw 83 = .ok (.imul, 1) := by decide +kernel
theorem dX5_raw_84 : decode cX5_raw 84 = .ok (.iconst 0, 1) := by decide +kernel
theorem dX5_raw_85 : decode cX5_raw 85 = .ok (.iastore, 1) := by decide +kernel
theorem dX5_raw_86 : decode cX5_raw 86 = .ok (.aload_n 0, 1) := by decide +kernel
theorem dX5_raw_87 : decode cX5_raw 87 = .ok (.getfield 29, 3) := by decide +kernel
theorem dX5_raw_90 : decode cX5_raw 90 = .ok (.iconst 3, 1) := by decide +kernel
theorem dX5_raw_91 : decode cX5_raw 91 = .ok (.aload_n 0, 1) := by decide +kernel
theorem dX5_raw_92 : decode cX5_raw 92 = .ok (.getfield 98, 3) := by decide +kernel
theorem dX5_raw_95 : decode cX5_raw 95 = .ok (.imul, 1) := by decide +kernel
theorem dX5_raw_96 : decode cX5_raw 96 = .ok (.iload_n 2, 1) := by decide +kernel
theorem dX5_raw_97 : decode cX5_raw 97 = .ok (.iconst 1, 1) := by decide +kernel
theorem dX5_raw_98 : decode cX5_raw 98 = .ok (.isub, 1) := by decide +kernel
theorem dX5_raw_99 : decode cX5_raw 99 = .ok (.iastore, 1) := by decide +kernel
theorem dX5_raw_100 : decode cX5_raw 100 = .ok (.aload_n 0, 1) := by decide +kernel
theorem dX5_raw_101 : decode cX5_raw 101 = .ok (.getfield 32, 3) := by decide +kernel
theorem dX5_raw_104 : decode cX5_raw 104 = .ok (.aload_n 0, 1) := by decide +kernel
theorem dX5_raw_105 : decode cX5_raw 105 = .ok (.getfield 98, 3) := by decide +kernel
theorem dX5_raw_108 : decode cX5_raw 108 = .ok (.aload_n 0, 1) := by decide +kernel
theorem dX5_raw_109 : decode cX5_raw 109 = .ok (.iload_n 2, 1) := by decide +kernel
theorem dX5_raw_110 : decode cX5_raw 110 = .ok (.invokevirtual 111, 3) := by decide +kernel
theorem dX5_raw_113 : decode cX5_raw 113 = .ok (.iastore, 1) := by decide +kernel
theorem dX5_raw_114 : decode cX5_raw 114 = .ok (.aload_n 0, 1) := by decide +kernel
theorem dX5_raw_115 : decode cX5_raw 115 = .ok (.dup, 1) := by decide +kernel
theorem dX5_raw_116 : decode cX5_raw 116 = .ok (.getfield 98, 3) := by decide +kernel
theorem dX5_raw_119 : decode cX5_raw 119 = .ok (.iconst 1, 1) := by decide +kernel
theorem dX5_raw_120 : decode cX5_raw 120 = .ok (.iadd, 1) := by decide +kernel
theorem dX5_raw_121 : decode cX5_raw 121 = .ok (.putfield 98, 3) := by decide +kernel
theorem dX5_raw_124 : decode cX5_raw 124 = .ok (.aload_n 0, 1) := by decide +kernel
theorem dX5_raw_125 : decode cX5_raw 125 = .ok (.aload_n 0, 1) := by decide +kernel
theorem dX5_raw_126 : decode cX5_raw 126 = .ok (.getfield 98, 3) := by decide +kernel
theorem dX5_raw_129 : decode cX5_raw 129 = .ok (.iconst 1, 1) := by decide +kernel
theorem dX5_raw_130 : decode cX5_raw 130 = .ok (.isub, 1) := by decide +kernel
theorem dX5_raw_131 : decode cX5_raw 131 = .ok (.invokevirtual 75, 3) := by decide +kernel
theorem dX5_raw_134 : decode cX5_raw 134 = .ok (.ireturn, 1) := by decide +kernel
theorem dX5_wants_0 : decode cX5_wants 0 = .ok (.aload_n 0, 1) := by decide +kernel
theorem dX5_wants_1 : decode cX5_wants 1 = .ok (.iload_n 1, 1) := by decide +kernel
theorem dX5_wants_2 : decode cX5_wants 2 = .ok (.invokevirtual 131, 3) := by decide +kernel
theorem dX5_wants_5 : decode cX5_wants 5 = .ok (.ifCond .ne 8, 3) := by decide +kernel
theorem dX5_wants_8 : decode cX5_wants 8 = .ok (.bipush 7, 2) := by decide +kernel
theorem dX5_wants_10 : decode cX5_wants 10 = .ok (.goto 18, 3) := by decide +kernel
theorem dX5_wants_13 : decode cX5_wants 13 = .ok (.aload_n 0, 1) := by decide +kernel
theorem dX5_wants_14 : decode cX5_wants 14 = .ok (.getfield 20, 3) := by decide +kernel
theorem dX5_wants_17 : decode cX5_wants 17 = .ok (.iload_n 1, 1) := by decide +kernel
theorem dX5_wants_18 : decode cX5_wants 18 = .ok (.iaload, 1) := by decide +kernel
theorem dX5_wants_19 : decode cX5_wants 19 = .ok (.iconst 4, 1) := by decide +kernel
theorem dX5_wants_20 : decode cX5_wants 20 = .ok (.if_icmp .ne 7, 3) := by decide +kernel
theorem dX5_wants_23 : decode cX5_wants 23 = .ok (.iconst 2, 1) := by decide +kernel
theorem dX5_wants_24 : decode cX5_wants 24 = .ok (.goto 4, 3) := by decide +kernel
theorem dX5_wants_27 : decode cX5_wants 27 = .ok (.iconst 0, 1) := by decide +kernel
theorem dX5_wants_28 : decode cX5_wants 28 = .ok (.ireturn, 1) := by decide +kernel
theorem dX5_see_0 : decode cX5_see 0 = .ok (.aload_n 0, 1) := by decide +kernel
theorem dX5_see_1 : decode cX5_see 1 = .ok (.iload_n 1, 1) := by decide +kernel
theorem dX5_see_2 : decode cX5_see 2 = .ok (.invokevirtual 135, 3) := by decide +kernel
theorem dX5_see_5 : decode cX5_see 5 = .ok (.istore_n 2, 1) := by decide +kernel
theorem dX5_see_6 : decode cX5_see 6 = .ok (.iload_n 2, 1) := by decide +kernel
theorem dX5_see_7 : decode cX5_see 7 = .ok (.ifCond .ne 13, 3) := by decide +kernel
theorem dX5_see_10 : decode cX5_see 10 = .ok (.aload_n 0, 1) := by decide +kernel
theorem dX5_see_11 : decode cX5_see 11 = .ok (.getfield 72, 3) := by decide +kernel
theorem dX5_see_14 : decode cX5_see 14 = .ok (.ifCond .ne 6, 3) := by decide +kernel
theorem dX5_see_17 : decode cX5_see 17 = .ok (.bipush 9, 2) := by decide +kernel
theorem dX5_see_19 : decode cX5_see 19 = .ok (.istore_n 2, 1) := by decide +kernel
theorem dX5_see_20 : decode cX5_see 20 = .ok (.iload_n 2, 1) := by decide +kernel
theorem dX5_see_21 : decode cX5_see 21 = .ok (.ifCond .ne 24, 3) := by decide +kernel
theorem dX5_see_24 : decode cX5_see 24 = .ok (.aload_n 0, 1) := by decide +kernel
theorem dX5_see_25 : decode cX5_see 25 = .ok (.invokevirtual 117, 3) := by decide +kernel
theorem dX5_see_28 : decode cX5_see 28 = .ok (.aload_n 0, 1) := by decide +kernel
theorem dX5_see_29 : decode cX5_see 29 = .ok (.getfield 38, 3) := by decide +kernel
theorem dX5_see_32 : decode cX5_see 32 = .ok (.aload_n 0, 1) := by decide +kernel
theorem dX5_see_33 : decode cX5_see 33 = .ok (.getfield 32, 3) := by decide +kernel
theorem dX5_see_36 : decode cX5_see 36 = .ok (.iload_n 1, 1) := by decide +kernel
theorem dX5_see_37 : decode cX5_see 37 = .ok (.iaload, 1) := by decide +kernel
theorem dX5_see_38 : decode cX5_see 38 = .ok (.iaload, 1) := by decide +kernel
theorem dX5_see_39 : decode cX5_see 39 = .ok (.if_icmp .eq 6, 3) := by decide +kernel
theorem dX5_see_42 : decode cX5_see 42 = .ok (.bipush 10, 2) := by decide +kernel
theorem dX5_see_44 : decode cX5_see 44 = .ok (.istore_n 2, 1) := by decide +kernel
theorem dX5_see_45 : decode cX5_see 45 = .ok (.iload_n 2, 1) := by decide +kernel
theorem dX5_see_46 : decode cX5_see 46 = .ok (.ifCond .ne 15, 3) := by decide +kernel
theorem dX5_see_49 : decode cX5_see 49 = .ok (.aload_n 0, 1) := by decide +kernel
theorem dX5_see_50 : decode cX5_see 50 = .ok (.getfield 98, 3) := by decide +kernel
theorem dX5_see_53 : decode cX5_see 53 = .ok (.bipush 24, 2) := by decide +kernel
theorem dX5_see_55 : decode cX5_see 55 = .ok (.if_icmp .ne 6, 3) := by decide +kernel
theorem dX5_see_58 : decode cX5_see 58 = .ok (.bipush 8, 2) := by decide +kernel
theorem dX5_see_60 : decode cX5_see 60 = .ok (.istore_n 2, 1) := by decide +kernel
theorem dX5_see_61 : decode cX5_see 61 = .ok (.iload_n 2, 1) := by decide +kernel
theorem dX5_see_62 : decode cX5_see 62 = .ok (.ifCond .eq 9, 3) := by decide +kernel
theorem dX5_see_65 : decode cX5_see 65 = .ok (.aload_n 0, 1) := by decide +kernel
theorem dX5_see_66 : decode cX5_see 66 = .ok (.iload_n 2, 1) := by decide +kernel
theorem dX5_see_67 : decode cX5_see 67 = .ok (.invokevirtual 68, 3) := by decide +kernel
theorem dX5_see_70 : decode cX5_see 70 = .ok (.ireturn, 1) := by decide +kernel
theorem dX5_see_71 : decode cX5_see 71 = .ok (.aload_n 0, 1) := by decide +kernel
theorem dX5_see_72 : decode cX5_see 72 = .ok (.aload_n 0, 1) := by decide +kernel
theorem dX5_see_73 : decode cX5_see 73 = .ok (.getfield 20, 3) := by decide +kernel
theorem dX5_see_76 : decode cX5_see 76 = .ok (.iload_n 1, 1) := by decide +kernel
theorem dX5_see_77 : decode cX5_see 77 = .ok (.iaload, 1) := by decide +kernel
theorem dX5_see_78 : decode cX5_see 78 = .ok (.iconst (-1), 1) := by decide +kernel
theorem dX5_see_79 : decode cX5_see 79 = .ok (.invokevirtual 121, 3) := by decide +kernel
theorem dX5_see_82 : decode cX5_see 82 = .ok (.istore_n 3, 1) := by decide +kernel
theorem dX5_see_83 : decode cX5_see 83 = .ok (.aload_n 0, 1) := by decide +kernel
theorem dX5_see_84 : decode cX5_see 84 = .ok (.getfield 32, 3) := by decide +kernel
theorem dX5_see_87 : decode cX5_see 87 = .ok (.iload_n 3, 1) := by decide +kernel
theorem dX5_see_88 : decode cX5_see 88 = .ok (.aload_n 0, 1) := by decide +kernel
theorem dX5_see_89 : decode cX5_see 89 = .ok (.getfield 32, 3) := by decide +kernel
theorem dX5_see_92 : decode cX5_see 92 = .ok (.iload_n 1, 1) := by decide +kernel
theorem dX5_see_93 : decode cX5_see 93 = .ok (.iaload, 1) := by decide +kernel
theorem dX5_see_94 : decode cX5_see 94 = .ok (.iastore, 1) := by decide +kernel
theorem dX5_see_95 : decode cX5_see 95 = .ok (.aload_n 0, 1) := by decide +kernel
theorem dX5_see_96 : decode cX5_see 96 = .ok (.iconst 0, 1) := by decide +kernel
theorem dX5_see_97 : decode cX5_see 97 = .ok (.putfield 72, 3) := by decide +kernel
theorem dX5_see_100 : decode cX5_see 100 = .ok (.aload_n 0, 1) := by decide +kernel
theorem dX5_see_101 : decode cX5_see 101 = .ok (.iload_n 3, 1) := by decide +kernel
theorem dX5_see_102 : decode cX5_see 102 = .ok (.invokevirtual 75, 3) := by decide +kernel
theorem dX5_see_105 : decode cX5_see 105 = .ok (.ireturn, 1) := by decide +kernel
theorem dX5_copy_0 : decode cX5_copy 0 = .ok (.aload_n 0, 1) := by decide +kernel
theorem dX5_copy_1 : decode cX5_copy 1 = .ok (.getfield 42, 3) := by decide +kernel
theorem dX5_copy_4 : decode cX5_copy 4 = .ok (.iload_n 2, 1) := by decide +kernel
theorem dX5_copy_5 : decode cX5_copy 5 = .ok (.aload_n 0, 1) := by decide +kernel
theorem dX5_copy_6 : decode cX5_copy 6 = .ok (.getfield 42, 3) := by decide +kernel
theorem dX5_copy_9 : decode cX5_copy 9 = .ok (.iload_n 1, 1) := by decide +kernel
theorem dX5_copy_10 : decode cX5_copy 10 = .ok (.laload, 1) := by decide +kernel
theorem dX5_copy_11 : decode cX5_copy 11 = .ok (.lastore, 1) := by decide +kernel
theorem dX5_copy_12 : decode cX5_copy 12 = .ok (.aload_n 0, 1) := by decide +kernel
theorem dX5_copy_13 : decode cX5_copy 13 = .ok (.getfield 46, 3) := by decide +kernel
theorem dX5_copy_16 : decode cX5_copy 16 = .ok (.iload_n 2, 1) := by decide +kernel
theorem dX5_copy_17 : decode cX5_copy 17 = .ok (.aload_n 0, 1) := by decide +kernel
theorem dX5_copy_18 : decode cX5_copy 18 = .ok (.getfield 46, 3) := by decide +kernel
theorem dX5_copy_21 : decode cX5_copy 21 = .ok (.iload_n 1, 1) := by decide +kernel
theorem dX5_copy_22 : decode cX5_copy 22 = .ok (.baload, 1) := by decide +kernel
theorem dX5_copy_23 : decode cX5_copy 23 = .ok (.bastore, 1) := by decide +kernel
theorem dX5_copy_24 : decode cX5_copy 24 = .ok (.return_, 1) := by decide +kernel
theorem dX5_turn_0 : decode cX5_turn 0 = .ok (.aload_n 0, 1) := by decide +kernel
theorem dX5_turn_1 : decode cX5_turn 1 = .ok (.iload_n 1, 1) := by decide +kernel
theorem dX5_turn_2 : decode cX5_turn 2 = .ok (.invokevirtual 135, 3) := by decide +kernel
theorem dX5_turn_5 : decode cX5_turn 5 = .ok (.istore_n 2, 1) := by decide +kernel
theorem dX5_turn_6 : decode cX5_turn 6 = .ok (.iload_n 2, 1) := by decide +kernel
theorem dX5_turn_7 : decode cX5_turn 7 = .ok (.ifCond .ne 16, 3) := by decide +kernel
theorem dX5_turn_10 : decode cX5_turn 10 = .ok (.aload_n 0, 1) := by decide +kernel
theorem dX5_turn_11 : decode cX5_turn 11 = .ok (.getfield 23, 3) := by decide +kernel
theorem dX5_turn_14 : decode cX5_turn 14 = .ok (.iload_n 1, 1) := by decide +kernel
theorem dX5_turn_15 : decode cX5_turn 15 = .ok (.iaload, 1) := by decide +kernel
theorem dX5_turn_16 : decode cX5_turn 16 = .ok (.iconst 1, 1) := by decide +kernel
theorem dX5_turn_17 : decode cX5_turn 17 = .ok (.if_icmp .ne 6, 3) := by decide +kernel
theorem dX5_turn_20 : decode cX5_turn 20 = .ok (.bipush 9, 2) := by decide +kernel
theorem dX5_turn_22 : decode cX5_turn 22 = .ok (.istore_n 2, 1) := by decide +kernel
theorem dX5_turn_23 : decode cX5_turn 23 = .ok (.iload_n 2, 1) := by decide +kernel
theorem dX5_turn_24 : decode cX5_turn 24 = .ok (.ifCond .ne 15, 3) := by decide +kernel
theorem dX5_turn_27 : decode cX5_turn 27 = .ok (.aload_n 0, 1) := by decide +kernel
theorem dX5_turn_28 : decode cX5_turn 28 = .ok (.getfield 98, 3) := by decide +kernel
theorem dX5_turn_31 : decode cX5_turn 31 = .ok (.bipush 24, 2) := by decide +kernel
theorem dX5_turn_33 : decode cX5_turn 33 = .ok (.if_icmp .ne 6, 3) := by decide +kernel
theorem dX5_turn_36 : decode cX5_turn 36 = .ok (.bipush 8, 2) := by decide +kernel
theorem dX5_turn_38 : decode cX5_turn 38 = .ok (.istore_n 2, 1) := by decide +kernel
theorem dX5_turn_39 : decode cX5_turn 39 = .ok (.iload_n 2, 1) := by decide +kernel
theorem dX5_turn_40 : decode cX5_turn 40 = .ok (.ifCond .eq 9, 3) := by decide +kernel
theorem dX5_turn_43 : decode cX5_turn 43 = .ok (.aload_n 0, 1) := by decide +kernel
theorem dX5_turn_44 : decode cX5_turn 44 = .ok (.iload_n 2, 1) := by decide +kernel
theorem dX5_turn_45 : decode cX5_turn 45 = .ok (.invokevirtual 68, 3) := by decide +kernel
theorem dX5_turn_48 : decode cX5_turn 48 = .ok (.ireturn, 1) := by decide +kernel
theorem dX5_turn_49 : decode cX5_turn 49 = .ok (.aload_n 0, 1) := by decide +kernel
theorem dX5_turn_50 : decode cX5_turn 50 = .ok (.aload_n 0, 1) := by decide +kernel
theorem dX5_turn_51 : decode cX5_turn 51 = .ok (.getfield 20, 3) := by decide +kernel
theorem dX5_turn_54 : decode cX5_turn 54 = .ok (.iload_n 1, 1) := by decide +kernel
theorem dX5_turn_55 : decode cX5_turn 55 = .ok (.iaload, 1) := by decide +kernel
theorem dX5_turn_56 : decode cX5_turn 56 = .ok (.iload_n 1, 1) := by decide +kernel
theorem dX5_turn_57 : decode cX5_turn 57 = .ok (.invokevirtual 121, 3) := by decide +kernel
theorem dX5_turn_60 : decode cX5_turn 60 = .ok (.istore_n 3, 1) := by decide +kernel
theorem dX5_turn_61 : decode cX5_turn 61 = .ok (.aload_n 0, 1) := by decide +kernel
theorem dX5_turn_62 : decode cX5_turn 62 = .ok (.getfield 26, 3) := by decide +kernel
theorem dX5_turn_65 : decode cX5_turn 65 = .ok (.iconst 3, 1) := by decide +kernel
theorem dX5_turn_66 : decode cX5_turn 66 = .ok (.iload_n 3, 1) := by decide +kernel
theorem dX5_turn_67 : decode cX5_turn 67 = .ok (.imul, 1) := by decide +kernel
theorem dX5_turn_68 : decode cX5_turn 68 = .ok (.aload_n 0, 1) := by decide +kernel
theorem dX5_turn_69 : decode cX5_turn 69 = .ok (.getfield 26, 3) := by decide +kernel
theorem dX5_turn_72 : decode cX5_turn 72 = .ok (.iconst 3, 1) := by decide +kernel
theorem dX5_turn_73 : decode cX5_turn 73 = .ok (.iload_n 1, 1) := by decide +kernel
theorem dX5_turn_74 : decode cX5_turn 74 = .ok (.imul, 1) := by decide +kernel
theorem dX5_turn_75 : decode cX5_turn 75 = .ok (.iconst 1, 1) := by decide +kernel
theorem dX5_turn_76 : decode cX5_turn 76 = .ok (.iadd, 1) := by decide +kernel
theorem dX5_turn_77 : decode cX5_turn 77 = .ok (.iaload, 1) := by decide +kernel
theorem dX5_turn_78 : decode cX5_turn 78 = .ok (.iastore, 1) := by decide +kernel
theorem dX5_turn_79 : decode cX5_turn 79 = .ok (.aload_n 0, 1) := by decide +kernel
theorem dX5_turn_80 : decode cX5_turn 80 = .ok (.getfield 29, 3) := by decide +kernel
theorem dX5_turn_83 : decode cX5_turn 83 = .ok (.iconst 3, 1) := by decide +kernel
theorem dX5_turn_84 : decode cX5_turn 84 = .ok (.iload_n 3, 1) := by decide +kernel
theorem dX5_turn_85 : decode cX5_turn 85 = .ok (.imul, 1) := by decide +kernel
theorem dX5_turn_86 : decode cX5_turn 86 = .ok (.aload_n 0, 1) := by decide +kernel
theorem dX5_turn_87 : decode cX5_turn 87 = .ok (.getfield 29, 3) := by decide +kernel
theorem dX5_turn_90 : decode cX5_turn 90 = .ok (.iconst 3, 1) := by decide +kernel
theorem dX5_turn_91 : decode cX5_turn 91 = .ok (.iload_n 1, 1) := by decide +kernel
theorem dX5_turn_92 : decode cX5_turn 92 = .ok (.imul, 1) := by decide +kernel
theorem dX5_turn_93 : decode cX5_turn 93 = .ok (.iconst 1, 1) := by decide +kernel
theorem dX5_turn_94 : decode cX5_turn 94 = .ok (.iadd, 1) := by decide +kernel
theorem dX5_turn_95 : decode cX5_turn 95 = .ok (.iaload, 1) := by decide +kernel
theorem dX5_turn_96 : decode cX5_turn 96 = .ok (.iastore, 1) := by decide +kernel
theorem dX5_turn_97 : decode cX5_turn 97 = .ok (.aload_n 0, 1) := by decide +kernel
theorem dX5_turn_98 : decode cX5_turn 98 = .ok (.getfield 26, 3) := by decide +kernel
theorem dX5_turn_101 : decode cX5_turn 101 = .ok (.iconst 3, 1) := by decide +kernel
theorem dX5_turn_102 : decode cX5_turn 102 = .ok (.iload_n 3, 1) := by decide +kernel
theorem dX5_turn_103 : decode cX5_turn 103 = .ok (.imul, 1) := by decide +kernel
theorem dX5_turn_104 : decode cX5_turn 104 = .ok (.iconst 1, 1) := by decide +kernel
theorem dX5_turn_105 : decode cX5_turn 105 = .ok (.iadd, 1) := by decide +kernel
theorem dX5_turn_106 : decode cX5_turn 106 = .ok (.aload_n 0, 1) := by decide +kernel
theorem dX5_turn_107 : decode cX5_turn 107 = .ok (.getfield 26, 3) := by decide +kernel
theorem dX5_turn_110 : decode cX5_turn 110 = .ok (.iconst 3, 1) := by decide +kernel
theorem dX5_turn_111 : decode cX5_turn 111 = .ok (.iload_n 1, 1) := by decide +kernel
theorem dX5_turn_112 : decode cX5_turn 112 = .ok (.imul, 1) := by decide +kernel
theorem dX5_turn_113 : decode cX5_turn 113 = .ok (.iaload, 1) := by decide +kernel
theorem dX5_turn_114 : decode cX5_turn 114 = .ok (.iastore, 1) := by decide +kernel
theorem dX5_turn_115 : decode cX5_turn 115 = .ok (.aload_n 0, 1) := by decide +kernel
theorem dX5_turn_116 : decode cX5_turn 116 = .ok (.getfield 29, 3) := by decide +kernel
theorem dX5_turn_119 : decode cX5_turn 119 = .ok (.iconst 3, 1) := by decide +kernel
theorem dX5_turn_120 : decode cX5_turn 120 = .ok (.iload_n 3, 1) := by decide +kernel
theorem dX5_turn_121 : decode cX5_turn 121 = .ok (.imul, 1) := by decide +kernel
theorem dX5_turn_122 : decode cX5_turn 122 = .ok (.iconst 1, 1) := by decide +kernel
theorem dX5_turn_123 : decode cX5_turn 123 = .ok (.iadd, 1) := by decide +kernel
theorem dX5_turn_124 : decode cX5_turn 124 = .ok (.aload_n 0, 1) := by decide +kernel
theorem dX5_turn_125 : decode cX5_turn 125 = .ok (.getfield 29, 3) := by decide +kernel
theorem dX5_turn_128 : decode cX5_turn 128 = .ok (.iconst 3, 1) := by decide +kernel
theorem dX5_turn_129 : decode cX5_turn 129 = .ok (.iload_n 1, 1) := by decide +kernel
theorem dX5_turn_130 : decode cX5_turn 130 = .ok (.imul, 1) := by decide +kernel
theorem dX5_turn_131 : decode cX5_turn 131 = .ok (.iaload, 1) := by decide +kernel
theorem dX5_turn_132 : decode cX5_turn 132 = .ok (.iastore, 1) := by decide +kernel
theorem dX5_turn_133 : decode cX5_turn 133 = .ok (.aload_n 0, 1) := by decide +kernel
theorem dX5_turn_134 : decode cX5_turn 134 = .ok (.getfield 38, 3) := by decide +kernel
theorem dX5_turn_137 : decode cX5_turn 137 = .ok (.aload_n 0, 1) := by decide +kernel
theorem dX5_turn_138 : decode cX5_turn 138 = .ok (.getfield 32, 3) := by decide +kernel
theorem dX5_turn_141 : decode cX5_turn 141 = .ok (.iload_n 1, 1) := by decide +kernel
theorem dX5_turn_142 : decode cX5_turn 142 = .ok (.iaload, 1) := by decide +kernel
theorem dX5_turn_143 : decode cX5_turn 143 = .ok (.iaload, 1) := by decide +kernel
theorem dX5_turn_144 : decode cX5_turn 144 = .ok (.istore 4, 2) := by decide +kernel
theorem dX5_turn_146 : decode cX5_turn 146 = .ok (.aload_n 0, 1) := by decide +kernel
theorem dX5_turn_147 : decode cX5_turn 147 = .ok (.getfield 32, 3) := by decide +kernel
theorem dX5_turn_150 : decode cX5_turn 150 = .ok (.iload_n 3, 1) := by decide +kernel
theorem dX5_turn_151 : decode cX5_turn 151 = .ok (.aload_n 0, 1) := by decide +kernel
theorem dX5_turn_152 : decode cX5_turn 152 = .ok (.iload 4, 2) := by decide +kernel
theorem dX5_turn_154 : decode cX5_turn 154 = .ok (.invokevirtual 111, 3) := by decide +kernel
theorem dX5_turn_157 : decode cX5_turn 157 = .ok (.iastore, 1) := by decide +kernel
theorem dX5_turn_158 : decode cX5_turn 158 = .ok (.iload 4, 2) := by decide +kernel
theorem dX5_turn_160 : decode cX5_turn 160 = .ok (.ifCond .ne 7, 3) := by decide +kernel
theorem dX5_turn_163 : decode cX5_turn 163 = .ok (.iconst 1, 1) := by decide +kernel
theorem dX5_turn_164 : decode cX5_turn 164 = .ok (.goto 10, 3) := by decide +kernel
theorem dX5_turn_167 : decode cX5_turn 167 = .ok (.aload_n 0, 1) := by decide +kernel
theorem dX5_turn_168 : decode cX5_turn 168 = .ok (.iload_n 1, 1) := by decide +kernel
theorem dX5_turn_169 : decode cX5_turn 169 = .ok (.iconst 1, 1) := by decide +kernel
theorem dX5_turn_170 : decode cX5_turn 170 = .ok (.invokevirtual 108, 3) := by decide +kernel
theorem dX5_turn_173 : decode cX5_turn 173 = .ok (.l2i, 1) := by decide +kernel
theorem dX5_turn_174 : decode cX5_turn 174 = .ok (.istore 5, 2) := by decide +kernel
theorem dX5_turn_176 : decode cX5_turn 176 = .ok (.iload 4, 2) := by decide +kernel
theorem dX5_turn_178 : decode cX5_turn 178 = .ok (.ifCond .eq 13, 3) := by decide +kernel
theorem dX5_turn_181 : decode cX5_turn 181 = .ok (.aload_n 0, 1) := by decide +kernel
theorem dX5_turn_182 : decode cX5_turn 182 = .ok (.getfield 23, 3) := by decide +kernel
theorem dX5_turn_185 : decode cX5_turn 185 = .ok (.iload_n 1, 1) := by decide +kernel
theorem dX5_turn_186 : decode cX5_turn 186 = .ok (.iaload, 1) := by decide +kernel
theorem dX5_turn_187 : decode cX5_turn 187 = .ok (.iconst 2, 1) := by decide +kernel
theorem dX5_turn_188 : decode cX5_turn 188 = .ok (.if_icmp .ne 7, 3) := by decide +kernel
theorem dX5_turn_191 : decode cX5_turn 191 = .ok (.iconst 1, 1) := by decide +kernel
theorem dX5_turn_192 : decode cX5_turn 192 = .ok (.goto 10, 3) := by decide +kernel
theorem dX5_turn_195 : decode cX5_turn 195 = .ok (.aload_n 0, 1) := by decide +kernel
theorem dX5_turn_196 : decode cX5_turn 196 = .ok (.iload_n 1, 1) := by decide +kernel
theorem dX5_turn_197 : decode cX5_turn 197 = .ok (.iconst 2, 1) := by decide +kernel
theorem dX5_turn_198 : decode cX5_turn 198 = .ok (.invokevirtual 108, 3) := by decide +kernel
theorem dX5_turn_201 : decode cX5_turn 201 = .ok (.l2i, 1) := by decide +kernel
theorem dX5_turn_202 : decode cX5_turn 202 = .ok (.istore 6, 2) := by decide +kernel
theorem dX5_turn_204 : decode cX5_turn 204 = .ok (.iload 4, 2) := by decide +kernel
theorem dX5_turn_206 : decode cX5_turn 206 = .ok (.ifCond .ne 7, 3) := by decide +kernel
theorem dX5_turn_209 : decode cX5_turn 209 = .ok (.iconst 1, 1) := by decide +kernel
theorem dX5_turn_210 : decode cX5_turn 210 = .ok (.goto 10, 3) := by decide +kernel
theorem dX5_turn_213 : decode cX5_turn 213 = .ok (.aload_n 0, 1) := by decide +kernel
theorem dX5_turn_214 : decode cX5_turn 214 = .ok (.iload_n 1, 1) := by decide +kernel
theorem dX5_turn_215 : decode cX5_turn 215 = .ok (.iconst 0, 1) := by decide +kernel
theorem dX5_turn_216 : decode cX5_turn 216 = .ok (.invokevirtual 108, 3) := by decide +kernel
theorem dX5_turn_219 : decode cX5_turn 219 = .ok (.l2i, 1) := by decide +kernel
theorem dX5_turn_220 : decode cX5_turn 220 = .ok (.istore 7, 2) := by decide +kernel
theorem dX5_turn_222 : decode cX5_turn 222 = .ok (.iconst 0, 1) := by decide +kernel
theorem dX5_turn_223 : decode cX5_turn 223 = .ok (.istore 8, 2) := by decide +kernel
theorem dX5_turn_225 : decode cX5_turn 225 = .ok (.iload 8, 2) := by decide +kernel
theorem dX5_turn_227 : decode cX5_turn 227 = .ok (.iload 4, 2) := by decide +kernel
theorem dX5_turn_229 : decode cX5_turn 229 = .ok (.if_icmp .ge 80, 3) := by decide +kernel
theorem dX5_turn_232 : decode cX5_turn 232 = .ok (.iload 8, 2) := by decide +kernel
theorem dX5_turn_234 : decode cX5_turn 234 = .ok (.iload 6, 2) := by decide +kernel
theorem dX5_turn_236 : decode cX5_turn 236 = .ok (.irem, 1) := by decide +kernel
theorem dX5_turn_237 : decode cX5_turn 237 = .ok (.istore 9, 2) := by decide +kernel
theorem dX5_turn_239 : decode cX5_turn 239 = .ok (.iload 8, 2) := by decide +kernel
theorem dX5_turn_241 : decode cX5_turn 241 = .ok (.iload 6, 2) := by decide +kernel
theorem dX5_turn_243 : decode cX5_turn 243 = .ok (.idiv, 1) := by decide +kernel
theorem dX5_turn_244 : decode cX5_turn 244 = .ok (.iload 5, 2) := by decide +kernel
theorem dX5_turn_246 : decode cX5_turn 246 = .ok (.irem, 1) := by decide +kernel
theorem dX5_turn_247 : decode cX5_turn 247 = .ok (.istore 10, 2) := by decide +kernel
theorem dX5_turn_249 : decode cX5_turn 249 = .ok (.iload 8, 2) := by decide +kernel
theorem dX5_turn_251 : decode cX5_turn 251 = .ok (.iload 6, 2) := by decide +kernel
theorem dX5_turn_253 : decode cX5_turn 253 = .ok (.idiv, 1) := by decide +kernel
theorem dX5_turn_254 : decode cX5_turn 254 = .ok (.iload 5, 2) := by decide +kernel
theorem dX5_turn_256 : decode cX5_turn 256 = .ok (.idiv, 1) := by decide +kernel
theorem dX5_turn_257 : decode cX5_turn 257 = .ok (.istore 11, 2) := by decide +kernel
theorem dX5_turn_259 : decode cX5_turn 259 = .ok (.aload_n 0, 1) := by decide +kernel
theorem dX5_turn_260 : decode cX5_turn 260 = .ok (.aload_n 0, 1) := by decide +kernel
theorem dX5_turn_261 : decode cX5_turn 261 = .ok (.getfield 35, 3) := by decide +kernel
theorem dX5_turn_264 : decode cX5_turn 264 = .ok (.aload_n 0, 1) := by decide +kernel
theorem dX5_turn_265 : decode cX5_turn 265 = .ok (.getfield 32, 3) := by decide +kernel
theorem dX5_turn_268 : decode cX5_turn 268 = .ok (.iload_n 1, 1) := by decide +kernel
theorem dX5_turn_269 : decode cX5_turn 269 = .ok (.iaload, 1) := by decide +kernel
theorem dX5_turn_270 : decode cX5_turn 270 = .ok (.iaload, 1) := by decide +kernel
theorem dX5_turn_271 : decode cX5_turn 271 = .ok (.iload 8, 2) := by decide +kernel
theorem dX5_turn_273 : decode cX5_turn 273 = .ok (.iadd, 1) := by decide +kernel
theorem dX5_turn_274 : decode cX5_turn 274 = .ok (.aload_n 0, 1) := by decide +kernel
theorem dX5_turn_275 : decode cX5_turn 275 = .ok (.getfield 35, 3) := by decide +kernel
theorem dX5_turn_278 : decode cX5_turn 278 = .ok (.aload_n 0, 1) := by decide +kernel
theorem dX5_turn_279 : decode cX5_turn 279 = .ok (.getfield 32, 3) := by decide +kernel
theorem dX5_turn_282 : decode cX5_turn 282 = .ok (.iload_n 3, 1) := by decide +kernel
theorem dX5_turn_283 : decode cX5_turn 283 = .ok (.iaload, 1) := by decide +kernel
theorem dX5_turn_284 : decode cX5_turn 284 = .ok (.iaload, 1) := by decide +kernel
theorem dX5_turn_285 : decode cX5_turn 285 = .ok (.iload 10, 2) := by decide +kernel
theorem dX5_turn_287 : decode cX5_turn 287 = .ok (.iload 7, 2) := by decide +kernel
theorem dX5_turn_289 : decode cX5_turn 289 = .ok (.imul, 1) := by decide +kernel
theorem dX5_turn_290 : decode cX5_turn 290 = .ok (.iload 11, 2) := by decide +kernel
theorem dX5_turn_292 : decode cX5_turn 292 = .ok (.iadd, 1) := by decide +kernel
theorem dX5_turn_293 : decode cX5_turn 293 = .ok (.iload 6, 2) := by decide +kernel
theorem dX5_turn_295 : decode cX5_turn 295 = .ok (.imul, 1) := by decide +kernel
theorem dX5_turn_296 : decode cX5_turn 296 = .ok (.iadd, 1) := by decide +kernel
theorem dX5_turn_297 : decode cX5_turn 297 = .ok (.iload 9, 2) := by decide +kernel
theorem dX5_turn_299 : decode cX5_turn 299 = .ok (.iadd, 1) := by decide +kernel
theorem dX5_turn_300 : decode cX5_turn 300 = .ok (.invokevirtual 138, 3) := by decide +kernel
theorem dX5_turn_303 : decode cX5_turn 303 = .ok (.iinc 8 1, 3) := by decide +kernel
theorem dX5_turn_306 : decode cX5_turn 306 = .ok (.goto (-81), 3) := by decide +kernel
theorem dX5_turn_309 : decode cX5_turn 309 = .ok (.aload_n 0, 1) := by decide +kernel
theorem dX5_turn_310 : decode cX5_turn 310 = .ok (.iload_n 3, 1) := by decide +kernel
theorem dX5_turn_311 : decode cX5_turn 311 = .ok (.invokevirtual 75, 3) := by decide +kernel
theorem dX5_turn_314 : decode cX5_turn 314 = .ok (.ireturn, 1) := by decide +kernel
theorem dX5_placeOf_0 : decode cX5_placeOf 0 = .ok (.lconst 0, 1) := by decide +kernel
theorem dX5_placeOf_1 : decode cX5_placeOf 1 = .ok (.lstore 5, 2) := by decide +kernel
theorem dX5_placeOf_3 : decode cX5_placeOf 3 = .ok (.iconst 0, 1) := by decide +kernel
theorem dX5_placeOf_4 : decode cX5_placeOf 4 = .ok (.istore 7, 2) := by decide +kernel
theorem dX5_placeOf_6 : decode cX5_placeOf 6 = .ok (.iload 7, 2) := by decide +kernel
theorem dX5_placeOf_8 : decode cX5_placeOf 8 = .ok (.aload_n 0, 1) := by decide +kernel
theorem dX5_placeOf_9 : decode cX5_placeOf 9 = .ok (.getfield 23, 3) := by decide +kernel
theorem dX5_placeOf_12 : decode cX5_placeOf 12 = .ok (.iload_n 1, 1) := by decide +kernel
theorem dX5_placeOf_13 : decode cX5_placeOf 13 = .ok (.iaload, 1) := by decide +kernel
theorem dX5_placeOf_14 : decode cX5_placeOf 14 = .ok (.if_icmp .ge 102, 3) := by decide +kernel
theorem dX5_placeOf_17 : decode cX5_placeOf 17 = .ok (.iload 7, 2) := by decide +kernel
theorem dX5_placeOf_19 : decode cX5_placeOf 19 = .ok (.ifCond .ne 7, 3) := by decide +kernel
theorem dX5_placeOf_22 : decode cX5_placeOf 22 = .ok (.iload_n 2, 1) := by decide +kernel
theorem dX5_placeOf_23 : decode cX5_placeOf 23 = .ok (.goto 15, 3) := by decide +kernel
theorem dX5_placeOf_26 : decode cX5_placeOf 26 = .ok (.iload 7, 2) := by decide +kernel
theorem dX5_placeOf_28 : decode cX5_placeOf 28 = .ok (.iconst 1, 1) := by decide +kernel
theorem dX5_placeOf_29 : decode cX5_placeOf 29 = .ok (.if_icmp .ne 7, 3) := by decide +kernel
theorem dX5_placeOf_32 : decode cX5_placeOf 32 = .ok (.iload_n 3, 1) := by decide +kernel
theorem dX5_placeOf_33 : decode cX5_placeOf 33 = .ok (.goto 5, 3) := by decide +kernel
theorem dX5_placeOf_36 : decode cX5_placeOf 36 = .ok (.iload 4, 2) := by decide +kernel
theorem dX5_placeOf_38 : decode cX5_placeOf 38 = .ok (.istore 8, 2) := by decide +kernel
theorem dX5_placeOf_40 : decode cX5_placeOf 40 = .ok (.iload 8, 2) := by decide +kernel
theorem dX5_placeOf_42 : decode cX5_placeOf 42 = .ok (.i2l, 1) := by decide +kernel
theorem dX5_placeOf_43 : decode cX5_placeOf 43 = .ok (.aload_n 0, 1) := by decide +kernel
theorem dX5_placeOf_44 : decode cX5_placeOf 44 = .ok (.getfield 26, 3) := by decide +kernel
theorem dX5_placeOf_47 : decode cX5_placeOf 47 = .ok (.iconst 3, 1) := by decide +kernel
theorem dX5_placeOf_48 : decode cX5_placeOf 48 = .ok (.iload_n 1, 1) := by decide +kernel
theorem dX5_placeOf_49 : decode cX5_placeOf 49 = .ok (.imul, 1) := by decide +kernel
theorem dX5_placeOf_50 : decode cX5_placeOf 50 = .ok (.iload 7, 2) := by decide +kernel
theorem dX5_placeOf_52 : decode cX5_placeOf 52 = .ok (.iadd, 1) := by decide +kernel
theorem dX5_placeOf_53 : decode cX5_placeOf 53 = .ok (.iaload, 1) := by decide +kernel
theorem dX5_placeOf_54 : decode cX5_placeOf 54 = .ok (.i2l, 1) := by decide +kernel
theorem dX5_placeOf_55 : decode cX5_placeOf 55 = .ok (.aload_n 0, 1) := by decide +kernel
theorem dX5_placeOf_56 : decode cX5_placeOf 56 = .ok (.getfield 29, 3) := by decide +kernel
theorem dX5_placeOf_59 : decode cX5_placeOf 59 = .ok (.iconst 3, 1) := by decide +kernel
theorem dX5_placeOf_60 : decode cX5_placeOf 60 = .ok (.iload_n 1, 1) := by decide +kernel
theorem dX5_placeOf_61 : decode cX5_placeOf 61 = .ok (.imul, 1) := by decide +kernel
theorem dX5_placeOf_62 : decode cX5_placeOf 62 = .ok (.iload 7, 2) := by decide +kernel
theorem dX5_placeOf_64 : decode cX5_placeOf 64 = .ok (.iadd, 1) := by decide +kernel
theorem dX5_placeOf_65 : decode cX5_placeOf 65 = .ok (.iaload, 1) := by decide +kernel
theorem dX5_placeOf_66 : decode cX5_placeOf 66 = .ok (.i2l, 1) := by decide +kernel
theorem dX5_placeOf_67 : decode cX5_placeOf 67 = .ok (.invokestatic 101, 3) := by decide +kernel
theorem dX5_placeOf_70 : decode cX5_placeOf 70 = .ok (.ifCond .ne 11, 3) := by decide +kernel
theorem dX5_placeOf_73 : decode cX5_placeOf 73 = .ok (.aload_n 0, 1) := by decide +kernel
theorem dX5_placeOf_74 : decode cX5_placeOf 74 = .ok (.iload 7, 2) := by decide +kernel
theorem dX5_placeOf_76 : decode cX5_placeOf 76 = .ok (.putfield 142, 3) := by decide +kernel
theorem dX5_placeOf_79 : decode cX5_placeOf 79 = .ok (.iconst (-1), 1) := by decide +kernel
theorem dX5_placeOf_80 : decode cX5_placeOf 80 = .ok (.ireturn, 1) := by decide +kernel
theorem dX5_placeOf_81 : decode cX5_placeOf 81 = .ok (.lload 5, 2) := by decide +kernel
theorem dX5_placeOf_83 : decode cX5_placeOf 83 = .ok (.aload_n 0, 1) := by decide +kernel
theorem dX5_placeOf_84 : decode cX5_placeOf 84 = .ok (.iload_n 1, 1) := by decide +kernel
theorem dX5_placeOf_85 : decode cX5_placeOf 85 = .ok (.iload 7, 2) := by decide +kernel
theorem dX5_placeOf_87 : decode cX5_placeOf 87 = .ok (.invokevirtual 108, 3) := by decide +kernel
theorem dX5_placeOf_90 : decode cX5_placeOf 90 = .ok (.lmul, 1) := by decide +kernel
theorem dX5_placeOf_91 : decode cX5_placeOf 91 = .ok (.iload 8, 2) := by decide +kernel
theorem dX5_placeOf_93 : decode cX5_placeOf 93 = .ok (.i2l, 1) := by decide +kernel
theorem dX5_placeOf_94 : decode cX5_placeOf 94 = .ok (.aload_n 0, 1) := by decide +kernel
theorem dX5_placeOf_95 : decode cX5_placeOf 95 = .ok (.getfield 26, 3) := by decide +kernel
theorem dX5_placeOf_98 : decode cX5_placeOf 98 = .ok (.iconst 3, 1) := by decide +kernel
theorem dX5_placeOf_99 : decode cX5_placeOf 99 = .ok (.iload_n 1, 1) := by decide +kernel
theorem dX5_placeOf_100 : decode cX5_placeOf 100 = .ok (.imul, 1) := by decide +kernel
theorem dX5_placeOf_101 : decode cX5_placeOf 101 = .ok (.iload 7, 2) := by decide +kernel
theorem dX5_placeOf_103 : decode cX5_placeOf 103 = .ok (.iadd, 1) := by decide +kernel
theorem dX5_placeOf_104 : decode cX5_placeOf 104 = .ok (.iaload, 1) := by decide +kernel
theorem dX5_placeOf_105 : decode cX5_placeOf 105 = .ok (.i2l, 1) := by decide +kernel
theorem dX5_placeOf_106 : decode cX5_placeOf 106 = .ok (.lsub, 1) := by decide +kernel
theorem dX5_placeOf_107 : decode cX5_placeOf 107 = .ok (.ladd, 1) := by decide +kernel
theorem dX5_placeOf_108 : decode cX5_placeOf 108 = .ok (.lstore 5, 2) := by decide +kernel
theorem dX5_placeOf_110 : decode cX5_placeOf 110 = .ok (.iinc 7 1, 3) := by decide +kernel
theorem dX5_placeOf_113 : decode cX5_placeOf 113 = .ok (.goto (-107), 3) := by decide +kernel
theorem dX5_placeOf_116 : decode cX5_placeOf 116 = .ok (.lload 5, 2) := by decide +kernel
theorem dX5_placeOf_118 : decode cX5_placeOf 118 = .ok (.l2i, 1) := by decide +kernel
theorem dX5_placeOf_119 : decode cX5_placeOf 119 = .ok (.ireturn, 1) := by decide +kernel
theorem dX5_index_0 : decode cX5_index 0 = .ok (.iload_n 0, 1) := by decide +kernel
theorem dX5_index_1 : decode cX5_index 1 = .ok (.iload_n 1, 1) := by decide +kernel
theorem dX5_index_2 : decode cX5_index 2 = .ok (.iadd, 1) := by decide +kernel
theorem dX5_index_3 : decode cX5_index 3 = .ok (.ireturn, 1) := by decide +kernel
theorem dX5_cut_0 : decode cX5_cut 0 = .ok (.aload_n 0, 1) := by decide +kernel
theorem dX5_cut_1 : decode cX5_cut 1 = .ok (.iload_n 1, 1) := by decide +kernel
theorem dX5_cut_2 : decode cX5_cut 2 = .ok (.invokevirtual 135, 3) := by decide +kernel
theorem dX5_cut_5 : decode cX5_cut 5 = .ok (.istore_n 2, 1) := by decide +kernel
theorem dX5_cut_6 : decode cX5_cut 6 = .ok (.iload_n 2, 1) := by decide +kernel
theorem dX5_cut_7 : decode cX5_cut 7 = .ok (.ifCond .ne 19, 3) := by decide +kernel
theorem dX5_cut_10 : decode cX5_cut 10 = .ok (.aload_n 0, 1) := by decide +kernel
theorem dX5_cut_11 : decode cX5_cut 11 = .ok (.getfield 72, 3) := by decide +kernel
theorem dX5_cut_14 : decode cX5_cut 14 = .ok (.aload_n 0, 1) := by decide +kernel
theorem dX5_cut_15 : decode cX5_cut 15 = .ok (.getfield 23, 3) := by decide +kernel
theorem dX5_cut_18 : decode cX5_cut 18 = .ok (.iload_n 1, 1) := by decide +kernel
theorem dX5_cut_19 : decode cX5_cut 19 = .ok (.iaload, 1) := by decide +kernel
theorem dX5_cut_20 : decode cX5_cut 20 = .ok (.if_icmp .eq 6, 3) := by decide +kernel
theorem dX5_cut_23 : decode cX5_cut 23 = .ok (.bipush 9, 2) := by decide +kernel
