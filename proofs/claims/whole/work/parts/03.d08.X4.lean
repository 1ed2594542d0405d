theorem dX4_sum_51 : decode cX4_sum 51 = .ok (.invokevirtual 130, 3) := by decide +kernel
theorem dX4_sum_54 : decode cX4_sum 54 = .ok (.if_icmp .ge 26, 3) := by decide +kernel
theorem dX4_sum_57 : decode cX4_sum 57 = .ok (.lload_n 3, 1) := by decide +kernel
theorem dX4_sum_58 : decode cX4_sum 58 = .ok (.aload_n 0, 1) := by decide +kernel
theorem dX4_sum_59 : decode cX4_sum 59 = .ok (.getfield 26, 3) := by decide +kernel
theorem dX4_sum_62 : decode cX4_sum 62 = .ok (.aload_n 2, 1) := by decide +kernel
theorem dX4_sum_63 : decode cX4_sum 63 = .ok (.getfield 133, 3) := by decide +kernel
theorem dX4_sum_66 : decode cX4_sum 66 = .ok (.iload 5, 2) := by decide +kernel
theorem dX4_sum_68 : decode cX4_sum 68 = .ok (.iaload, 1) := by decide +kernel
theorem dX4_sum_69 : decode cX4_sum 69 = .ok (.invokevirtual 212, 3) := by decide +kernel
theorem dX4_sum_72 : decode cX4_sum 72 = .ok (.ladd, 1) := by decide +kernel
theorem dX4_sum_73 : decode cX4_sum 73 = .ok (.lstore_n 3, 1) := by decide +kernel
theorem dX4_sum_74 : decode cX4_sum 74 = .ok (.iinc 5 1, 3) := by decide +kernel
theorem dX4_sum_77 : decode cX4_sum 77 = .ok (.goto (-29), 3) := by decide +kernel
theorem dX4_sum_80 : decode cX4_sum 80 = .ok (.lload_n 3, 1) := by decide +kernel
theorem dX4_sum_81 : decode cX4_sum 81 = .ok (.lreturn, 1) := by decide +kernel
theorem dX4_mean_0 : decode cX4_mean 0 = .ok (.aload_n 0, 1) := by decide +kernel
theorem dX4_mean_1 : decode cX4_mean 1 = .ok (.iload_n 1, 1) := by decide +kernel
theorem dX4_mean_2 : decode cX4_mean 2 = .ok (.invokevirtual 89, 3) := by decide +kernel
theorem dX4_mean_5 : decode cX4_mean 5 = .ok (.astore_n 2, 1) := by decide +kernel
theorem dX4_mean_6 : decode cX4_mean 6 = .ok (.aload_n 2, 1) := by decide +kernel
theorem dX4_mean_7 : decode cX4_mean 7 = .ok (.ifnonnull 11, 3) := by decide +kernel
theorem dX4_mean_10 : decode cX4_mean 10 = .ok (.aload_n 0, 1) := by decide +kernel
theorem dX4_mean_11 : decode cX4_mean 11 = .ok (.bipush 7, 2) := by decide +kernel
theorem dX4_mean_13 : decode cX4_mean 13 = .ok (.invokevirtual 54, 3) := by decide +kernel
theorem dX4_mean_16 : decode cX4_mean 16 = .ok (.i2l, 1) := by decide +kernel
theorem dX4_mean_17 : decode cX4_mean 17 = .ok (.lreturn, 1) := by decide +kernel
theorem dX4_mean_18 : decode cX4_mean 18 = .ok (.aload_n 2, 1) := by decide +kernel
theorem dX4_mean_19 : decode cX4_mean 19 = .ok (.getfield 106, 3) := by decide +kernel
theorem dX4_mean_22 : decode cX4_mean 22 = .ok (.iconst 2, 1) := by decide +kernel
theorem dX4_mean_23 : decode cX4_mean 23 = .ok (.if_icmp .le 10, 3) := by decide +kernel
theorem dX4_mean_26 : decode cX4_mean 26 = .ok (.aload_n 0, 1) := by decide +kernel
theorem dX4_mean_27 : decode cX4_mean 27 = .ok (.iconst 2, 1) := by decide +kernel
theorem dX4_mean_28 : decode cX4_mean 28 = .ok (.invokevirtual 54, 3) := by decide +kernel
theorem dX4_mean_31 : decode cX4_mean 31 = .ok (.i2l, 1) := by decide +kernel
theorem dX4_mean_32 : decode cX4_mean 32 = .ok (.lreturn, 1) := by decide +kernel
theorem dX4_mean_33 : decode cX4_mean 33 = .ok (.aload_n 0, 1) := by decide +kernel
theorem dX4_mean_34 : decode cX4_mean 34 = .ok (.getfield 26, 3) := by decide +kernel
theorem dX4_mean_37 : decode cX4_mean 37 = .ok (.aload_n 2, 1) := by decide +kernel
theorem dX4_mean_38 : decode cX4_mean 38 = .ok (.getfield 100, 3) := by decide +kernel
theorem dX4_mean_41 : decode cX4_mean 41 = .ok (.invokevirtual 103, 3) := by decide +kernel
theorem dX4_mean_44 : decode cX4_mean 44 = .ok (.istore_n 3, 1) := by decide +kernel
theorem dX4_mean_45 : decode cX4_mean 45 = .ok (.iload_n 3, 1) := by decide +kernel
theorem dX4_mean_46 : decode cX4_mean 46 = .ok (.ifCond .ne 11, 3) := by decide +kernel
theorem dX4_mean_49 : decode cX4_mean 49 = .ok (.aload_n 0, 1) := by decide +kernel
theorem dX4_mean_50 : decode cX4_mean 50 = .ok (.bipush 6, 2) := by decide +kernel
theorem dX4_mean_52 : decode cX4_mean 52 = .ok (.invokevirtual 54, 3) := by decide +kernel
theorem dX4_mean_55 : decode cX4_mean 55 = .ok (.i2l, 1) := by decide +kernel
theorem dX4_mean_56 : decode cX4_mean 56 = .ok (.lreturn, 1) := by decide +kernel
theorem dX4_mean_57 : decode cX4_mean 57 = .ok (.aload_n 0, 1) := by decide +kernel
theorem dX4_mean_58 : decode cX4_mean 58 = .ok (.iconst 0, 1) := by decide +kernel
theorem dX4_mean_59 : decode cX4_mean 59 = .ok (.putfield 44, 3) := by decide +kernel
theorem dX4_mean_62 : decode cX4_mean 62 = .ok (.aload_n 0, 1) := by decide +kernel
theorem dX4_mean_63 : decode cX4_mean 63 = .ok (.getfield 26, 3) := by decide +kernel
theorem dX4_mean_66 : decode cX4_mean 66 = .ok (.aload_n 2, 1) := by decide +kernel
theorem dX4_mean_67 : decode cX4_mean 67 = .ok (.getfield 100, 3) := by decide +kernel
theorem dX4_mean_70 : decode cX4_mean 70 = .ok (.invokevirtual 212, 3) := by decide +kernel
theorem dX4_mean_73 : decode cX4_mean 73 = .ok (.iload_n 3, 1) := by decide +kernel
theorem dX4_mean_74 : decode cX4_mean 74 = .ok (.i2l, 1) := by decide +kernel
theorem dX4_mean_75 : decode cX4_mean 75 = .ok (.ldiv, 1) := by decide +kernel
theorem dX4_mean_76 : decode cX4_mean 76 = .ok (.lreturn, 1) := by decide +kernel
theorem dX4_about_0 : decode cX4_about 0 = .ok (.iload_n 2, 1) := by decide +kernel
theorem dX4_about_1 : decode cX4_about 1 = .ok (.ifCond .lt 9, 3) := by decide +kernel
theorem dX4_about_4 : decode cX4_about 4 = .ok (.iload_n 2, 1) := by decide +kernel
theorem dX4_about_5 : decode cX4_about 5 = .ok (.bipush 8, 2) := by decide +kernel
theorem dX4_about_7 : decode cX4_about 7 = .ok (.if_icmp .le 6, 3) := by decide +kernel
theorem dX4_about_10 : decode cX4_about 10 = .ok (.ldc 65, 2) := by decide +kernel
theorem dX4_about_12 : decode cX4_about 12 = .ok (.ireturn, 1) := by decide +kernel
theorem dX4_about_13 : decode cX4_about 13 = .ok (.aload_n 0, 1) := by decide +kernel
theorem dX4_about_14 : decode cX4_about 14 = .ok (.iload_n 1, 1) := by decide +kernel
theorem dX4_about_15 : decode cX4_about 15 = .ok (.invokevirtual 89, 3) := by decide +kernel
theorem dX4_about_18 : decode cX4_about 18 = .ok (.astore_n 3, 1) := by decide +kernel
theorem dX4_about_19 : decode cX4_about 19 = .ok (.aload_n 3, 1) := by decide +kernel
theorem dX4_about_20 : decode cX4_about 20 = .ok (.ifnonnull 10, 3) := by decide +kernel
theorem dX4_about_23 : decode cX4_about 23 = .ok (.aload_n 0, 1) := by decide +kernel
theorem dX4_about_24 : decode cX4_about 24 = .ok (.bipush 7, 2) := by decide +kernel
theorem dX4_about_26 : decode cX4_about 26 = .ok (.invokevirtual 54, 3) := by decide +kernel
theorem dX4_about_29 : decode cX4_about 29 = .ok (.ireturn, 1) := by decide +kernel
theorem dX4_about_30 : decode cX4_about 30 = .ok (.iload_n 2, 1) := by decide +kernel
theorem dX4_about_31 : decode cX4_about 31 = .ok (.ifCond .ne 12, 3) := by decide +kernel
theorem dX4_about_34 : decode cX4_about 34 = .ok (.aload_n 0, 1) := by decide +kernel
theorem dX4_about_35 : decode cX4_about 35 = .ok (.aload_n 3, 1) := by decide +kernel
theorem dX4_about_36 : decode cX4_about 36 = .ok (.getfield 106, 3) := by decide +kernel
theorem dX4_about_39 : decode cX4_about 39 = .ok (.invokevirtual 62, 3) := by decide +kernel
theorem dX4_about_42 : decode cX4_about 42 = .ok (.ireturn, 1) := by decide +kernel
theorem dX4_about_43 : decode cX4_about 43 = .ok (.iload_n 2, 1) := by decide +kernel
theorem dX4_about_44 : decode cX4_about 44 = .ok (.iconst 1, 1) := by decide +kernel
theorem dX4_about_45 : decode cX4_about 45 = .ok (.if_icmp .ne 15, 3) := by decide +kernel
theorem dX4_about_48 : decode cX4_about 48 = .ok (.aload_n 0, 1) := by decide +kernel
theorem dX4_about_49 : decode cX4_about 49 = .ok (.aload_n 3, 1) := by decide +kernel
theorem dX4_about_50 : decode cX4_about 50 = .ok (.getfield 88, 3) := by decide +kernel
theorem dX4_about_53 : decode cX4_about 53 = .ok (.getfield 51, 3) := by decide +kernel
theorem dX4_about_56 : decode cX4_about 56 = .ok (.invokevirtual 62, 3) := by decide +kernel
theorem dX4_about_59 : decode cX4_about 59 = .ok (.ireturn, 1) := by decide +kernel
theorem dX4_about_60 : decode cX4_about 60 = .ok (.iload_n 2, 1) := by decide +kernel
theorem dX4_about_61 : decode cX4_about 61 = .ok (.iconst 2, 1) := by decide +kernel
theorem dX4_about_62 : decode cX4_about 62 = .ok (.if_icmp .ne 13, 3) := by decide +kernel
theorem dX4_about_65 : decode cX4_about 65 = .ok (.aload_n 0, 1) := by decide +kernel
theorem dX4_about_66 : decode cX4_about 66 = .ok (.aload_n 0, 1) := by decide +kernel
theorem dX4_about_67 : decode cX4_about 67 = .ok (.aload_n 3, 1) := by decide +kernel
theorem dX4_about_68 : decode cX4_about 68 = .ok (.invokevirtual 216, 3) := by decide +kernel
theorem dX4_about_71 : decode cX4_about 71 = .ok (.invokevirtual 62, 3) := by decide +kernel
theorem dX4_about_74 : decode cX4_about 74 = .ok (.ireturn, 1) := by decide +kernel
theorem dX4_about_75 : decode cX4_about 75 = .ok (.iload_n 2, 1) := by decide +kernel
theorem dX4_about_76 : decode cX4_about 76 = .ok (.iconst 3, 1) := by decide +kernel
theorem dX4_about_77 : decode cX4_about 77 = .ok (.isub, 1) := by decide +kernel
theorem dX4_about_78 : decode cX4_about 78 = .ok (.iconst 2, 1) := by decide +kernel
theorem dX4_about_79 : decode cX4_about 79 = .ok (.idiv, 1) := by decide +kernel
theorem dX4_about_80 : decode cX4_about 80 = .ok (.istore 4, 2) := by decide +kernel
theorem dX4_about_82 : decode cX4_about 82 = .ok (.iload 4, 2) := by decide +kernel
theorem dX4_about_84 : decode cX4_about 84 = .ok (.aload_n 3, 1) := by decide +kernel
theorem dX4_about_85 : decode cX4_about 85 = .ok (.getfield 88, 3) := by decide +kernel
theorem dX4_about_88 : decode cX4_about 88 = .ok (.getfield 51, 3) := by decide +kernel
theorem dX4_about_91 : decode cX4_about 91 = .ok (.if_icmp .lt 10, 3) := by decide +kernel
theorem dX4_about_94 : decode cX4_about 94 = .ok (.aload_n 0, 1) := by decide +kernel
theorem dX4_about_95 : decode cX4_about 95 = .ok (.bipush 9, 2) := by decide +kernel
theorem dX4_about_97 : decode cX4_about 97 = .ok (.invokevirtual 54, 3) := by decide +kernel
theorem dX4_about_100 : decode cX4_about 100 = .ok (.ireturn, 1) := by decide +kernel
theorem dX4_about_101 : decode cX4_about 101 = .ok (.iload_n 2, 1) := by decide +kernel
theorem dX4_about_102 : decode cX4_about 102 = .ok (.iconst 3, 1) := by decide +kernel
theorem dX4_about_103 : decode cX4_about 103 = .ok (.isub, 1) := by decide +kernel
theorem dX4_about_104 : decode cX4_about 104 = .ok (.iconst 2, 1) := by decide +kernel
theorem dX4_about_105 : decode cX4_about 105 = .ok (.irem, 1) := by decide +kernel
theorem dX4_about_106 : decode cX4_about 106 = .ok (.ifCond .ne 7, 3) := by decide +kernel
theorem dX4_about_109 : decode cX4_about 109 = .ok (.iconst 1, 1) := by decide +kernel
theorem dX4_about_110 : decode cX4_about 110 = .ok (.goto 4, 3) := by decide +kernel
theorem dX4_about_113 : decode cX4_about 113 = .ok (.iconst 0, 1) := by decide +kernel
theorem dX4_about_114 : decode cX4_about 114 = .ok (.istore 5, 2) := by decide +kernel
theorem dX4_about_116 : decode cX4_about 116 = .ok (.aload_n 0, 1) := by decide +kernel
theorem dX4_about_117 : decode cX4_about 117 = .ok (.iload 5, 2) := by decide +kernel
theorem dX4_about_119 : decode cX4_about 119 = .ok (.ifCond .eq 16, 3) := by decide +kernel
theorem dX4_about_122 : decode cX4_about 122 = .ok (.aload_n 3, 1) := by decide +kernel
theorem dX4_about_123 : decode cX4_about 123 = .ok (.getfield 88, 3) := by decide +kernel
theorem dX4_about_126 : decode cX4_about 126 = .ok (.getfield 219, 3) := by decide +kernel
theorem dX4_about_129 : decode cX4_about 129 = .ok (.iload 4, 2) := by decide +kernel
theorem dX4_about_131 : decode cX4_about 131 = .ok (.iaload, 1) := by decide +kernel
theorem dX4_about_132 : decode cX4_about 132 = .ok (.goto 13, 3) := by decide +kernel
theorem dX4_about_135 : decode cX4_about 135 = .ok (.aload_n 3, 1) := by decide +kernel
theorem dX4_about_136 : decode cX4_about 136 = .ok (.getfield 88, 3) := by decide +kernel
theorem dX4_about_139 : decode cX4_about 139 = .ok (.getfield 222, 3) := by decide +kernel
theorem dX4_about_142 : decode cX4_about 142 = .ok (.iload 4, 2) := by decide +kernel
theorem dX4_about_144 : decode cX4_about 144 = .ok (.iaload, 1) := by decide +kernel
theorem dX4_about_145 : decode cX4_about 145 = .ok (.invokevirtual 62, 3) := by decide +kernel
theorem dX4_about_148 : decode cX4_about 148 = .ok (.ireturn, 1) := by decide +kernel
theorem dX4_same_0 : decode cX4_same 0 = .ok (.aload_n 0, 1) := by decide +kernel
theorem dX4_same_1 : decode cX4_same 1 = .ok (.iload_n 1, 1) := by decide +kernel
theorem dX4_same_2 : decode cX4_same 2 = .ok (.invokevirtual 89, 3) := by decide +kernel
theorem dX4_same_5 : decode cX4_same 5 = .ok (.astore_n 3, 1) := by decide +kernel
theorem dX4_same_6 : decode cX4_same 6 = .ok (.aload_n 0, 1) := by decide +kernel
theorem dX4_same_7 : decode cX4_same 7 = .ok (.iload_n 2, 1) := by decide +kernel
theorem dX4_same_8 : decode cX4_same 8 = .ok (.invokevirtual 89, 3) := by decide +kernel
theorem dX4_same_11 : decode cX4_same 11 = .ok (.astore 4, 2) := by decide +kernel
theorem dX4_same_13 : decode cX4_same 13 = .ok (.aload_n 3, 1) := by decide +kernel
theorem dX4_same_14 : decode cX4_same 14 = .ok (.ifnull 8, 3) := by decide +kernel
theorem dX4_same_17 : decode cX4_same 17 = .ok (.aload 4, 2) := by decide +kernel
theorem dX4_same_19 : decode cX4_same 19 = .ok (.ifnonnull 10, 3) := by decide +kernel
theorem dX4_same_22 : decode cX4_same 22 = .ok (.aload_n 0, 1) := by decide +kernel
theorem dX4_same_23 : decode cX4_same 23 = .ok (.bipush 7, 2) := by decide +kernel
theorem dX4_same_25 : decode cX4_same 25 = .ok (.invokevirtual 54, 3) := by decide +kernel
theorem dX4_same_28 : decode cX4_same 28 = .ok (.ireturn, 1) := by decide +kernel
theorem dX4_same_29 : decode cX4_same 29 = .ok (.aload_n 0, 1) := by decide +kernel
theorem dX4_same_30 : decode cX4_same 30 = .ok (.aload_n 3, 1) := by decide +kernel
theorem dX4_same_31 : decode cX4_same 31 = .ok (.aload 4, 2) := by decide +kernel
theorem dX4_same_33 : decode cX4_same 33 = .ok (.invokestatic 225, 3) := by decide +kernel
theorem dX4_same_36 : decode cX4_same 36 = .ok (.ifCond .eq 7, 3) := by decide +kernel
theorem dX4_same_39 : decode cX4_same 39 = .ok (.iconst 1, 1) := by decide +kernel
theorem dX4_same_40 : decode cX4_same 40 = .ok (.goto 4, 3) := by decide +kernel
theorem dX4_same_43 : decode cX4_same 43 = .ok (.iconst 0, 1) := by decide +kernel
theorem dX4_same_44 : decode cX4_same 44 = .ok (.invokevirtual 62, 3) := by decide +kernel
theorem dX4_same_47 : decode cX4_same 47 = .ok (.ireturn, 1) := by decide +kernel
theorem dX4_compare_0 : decode cX4_compare 0 = .ok (.aload_n 0, 1) := by decide +kernel
theorem dX4_compare_1 : decode cX4_compare 1 = .ok (.iload_n 1, 1) := by decide +kernel
theorem dX4_compare_2 : decode cX4_compare 2 = .ok (.invokevirtual 89, 3) := by decide +kernel
theorem dX4_compare_5 : decode cX4_compare 5 = .ok (.astore_n 3, 1) := by decide +kernel
theorem dX4_compare_6 : decode cX4_compare 6 = .ok (.aload_n 0, 1) := by decide +kernel
theorem dX4_compare_7 : decode cX4_compare 7 = .ok (.iload_n 2, 1) := by decide +kernel
theorem dX4_compare_8 : decode cX4_compare 8 = .ok (.invokevirtual 89, 3) := by decide +kernel
theorem dX4_compare_11 : decode cX4_compare 11 = .ok (.astore 4, 2) := by decide +kernel
theorem dX4_compare_13 : decode cX4_compare 13 = .ok (.aload_n 3, 1) := by decide +kernel
theorem dX4_compare_14 : decode cX4_compare 14 = .ok (.ifnull 8, 3) := by decide +kernel
theorem dX4_compare_17 : decode cX4_compare 17 = .ok (.aload 4, 2) := by decide +kernel
theorem dX4_compare_19 : decode cX4_compare 19 = .ok (.ifnonnull 10, 3) := by decide +kernel
theorem dX4_compare_22 : decode cX4_compare 22 = .ok (.aload_n 0, 1) := by decide +kernel
theorem dX4_compare_23 : decode cX4_compare 23 = .ok (.bipush 7, 2) := by decide +kernel
theorem dX4_compare_25 : decode cX4_compare 25 = .ok (.invokevirtual 54, 3) := by decide +kernel
theorem dX4_compare_28 : decode cX4_compare 28 = .ok (.ireturn, 1) := by decide +kernel
theorem dX4_compare_29 : decode cX4_compare 29 = .ok (.aload_n 3, 1) := by decide +kernel
theorem dX4_compare_30 : decode cX4_compare 30 = .ok (.getfield 106, 3) := by decide +kernel
theorem dX4_compare_33 : decode cX4_compare 33 = .ok (.aload 4, 2) := by decide +kernel
theorem dX4_compare_35 : decode cX4_compare 35 = .ok (.getfield 106, 3) := by decide +kernel
theorem dX4_compare_38 : decode cX4_compare 38 = .ok (.if_icmp .ne 11, 3) := by decide +kernel
theorem dX4_compare_41 : decode cX4_compare 41 = .ok (.aload_n 3, 1) := by decide +kernel
theorem dX4_compare_42 : decode cX4_compare 42 = .ok (.getfield 106, 3) := by decide +kernel
theorem dX4_compare_45 : decode cX4_compare 45 = .ok (.iconst 2, 1) := by decide +kernel
theorem dX4_compare_46 : decode cX4_compare 46 = .ok (.if_icmp .le 9, 3) := by decide +kernel
theorem dX4_compare_49 : decode cX4_compare 49 = .ok (.aload_n 0, 1) := by decide +kernel
theorem dX4_compare_50 : decode cX4_compare 50 = .ok (.iconst 2, 1) := by decide +kernel
theorem dX4_compare_51 : decode cX4_compare 51 = .ok (.invokevirtual 54, 3) := by decide +kernel
theorem dX4_compare_54 : decode cX4_compare 54 = .ok (.ireturn, 1) := by decide +kernel
theorem dX4_compare_55 : decode cX4_compare 55 = .ok (.aload_n 0, 1) := by decide +kernel
theorem dX4_compare_56 : decode cX4_compare 56 = .ok (.aload_n 0, 1) := by decide +kernel
theorem dX4_compare_57 : decode cX4_compare 57 = .ok (.getfield 26, 3) := by decide +kernel
theorem dX4_compare_60 : decode cX4_compare 60 = .ok (.aload_n 3, 1) := by decide +kernel
theorem dX4_compare_61 : decode cX4_compare 61 = .ok (.getfield 100, 3) := by decide +kernel
theorem dX4_compare_64 : decode cX4_compare 64 = .ok (.aload 4, 2) := by decide +kernel
theorem dX4_compare_66 : decode cX4_compare 66 = .ok (.getfield 100, 3) := by decide +kernel
theorem dX4_compare_69 : decode cX4_compare 69 = .ok (.invokevirtual 229, 3) := by decide +kernel
theorem dX4_compare_72 : decode cX4_compare 72 = .ok (.invokevirtual 62, 3) := by decide +kernel
theorem dX4_compare_75 : decode cX4_compare 75 = .ok (.ireturn, 1) := by decide +kernel
theorem dX4_clear_0 : decode cX4_clear 0 = .ok (.aload_n 0, 1) := by decide +kernel
theorem dX4_clear_1 : decode cX4_clear 1 = .ok (.getfield 40, 3) := by decide +kernel
theorem dX4_clear_4 : decode cX4_clear 4 = .ok (.istore_n 1, 1) := by decide +kernel
theorem dX4_clear_5 : decode cX4_clear 5 = .ok (.aload_n 0, 1) := by decide +kernel
theorem dX4_clear_6 : decode cX4_clear 6 = .ok (.iconst 0, 1) := by decide +kernel
theorem dX4_clear_7 : decode cX4_clear 7 = .ok (.putfield 40, 3) := by decide +kernel
theorem dX4_clear_10 : decode cX4_clear 10 = .ok (.aload_n 0, 1) := by decide +kernel
theorem dX4_clear_11 : decode cX4_clear 11 = .ok (.getfield 12, 3) := by decide +kernel
theorem dX4_clear_14 : decode cX4_clear 14 = .ok (.iconst 0, 1) := by decide +kernel
theorem dX4_clear_15 : decode cX4_clear 15 = .ok (.putfield 51, 3) := by decide +kernel
theorem dX4_clear_18 : decode cX4_clear 18 = .ok (.aload_n 0, 1) := by decide +kernel
theorem dX4_clear_19 : decode cX4_clear 19 = .ok (.getfield 19, 3) := by decide +kernel
theorem dX4_clear_22 : decode cX4_clear 22 = .ok (.iconst 0, 1) := by decide +kernel
theorem dX4_clear_23 : decode cX4_clear 23 = .ok (.putfield 185, 3) := by decide +kernel
theorem dX4_clear_26 : decode cX4_clear 26 = .ok (.aload_n 0, 1) := by decide +kernel
theorem dX4_clear_27 : decode cX4_clear 27 = .ok (.getfield 26, 3) := by decide +kernel
theorem dX4_clear_30 : decode cX4_clear 30 = .ok (.invokevirtual 232, 3) := by decide +kernel
theorem dX4_clear_33 : decode cX4_clear 33 = .ok (.aload_n 0, 1) := by decide +kernel
theorem dX4_clear_34 : decode cX4_clear 34 = .ok (.iconst 0, 1) := by decide +kernel
theorem dX4_clear_35 : decode cX4_clear 35 = .ok (.putfield 44, 3) := by decide +kernel
theorem dX4_clear_38 : decode cX4_clear 38 = .ok (.aload_n 0, 1) := by decide +kernel
theorem dX4_clear_39 : decode cX4_clear 39 = .ok (.iconst (-1), 1) := by decide +kernel
theorem dX4_clear_40 : decode cX4_clear 40 = .ok (.putfield 47, 3) := by decide +kernel
theorem dX4_clear_43 : decode cX4_clear 43 = .ok (.iload_n 1, 1) := by decide +kernel
theorem dX4_clear_44 : decode cX4_clear 44 = .ok (.ireturn, 1) := by decide +kernel
theorem dX4_tell_0 : decode cX4_tell 0 = .ok (.aload_n 0, 1) := by decide +kernel
theorem dX4_tell_1 : decode cX4_tell 1 = .ok (.iload_n 1, 1) := by decide +kernel
theorem dX4_tell_2 : decode cX4_tell 2 = .ok (.putfield 44, 3) := by decide +kernel
theorem dX4_tell_5 : decode cX4_tell 5 = .ok (.iload_n 2, 1) := by decide +kernel
theorem dX4_tell_6 : decode cX4_tell 6 = .ok (.ireturn, 1) := by decide +kernel
theorem dX4_done_0 : decode cX4_done 0 = .ok (.aload_n 0, 1) := by decide +kernel
theorem dX4_done_1 : decode cX4_done 1 = .ok (.iconst 0, 1) := by decide +kernel
theorem dX4_done_2 : decode cX4_done 2 = .ok (.iload_n 1, 1) := by decide +kernel
theorem dX4_done_3 : decode cX4_done 3 = .ok (.invokevirtual 205, 3) := by decide +kernel
theorem dX4_done_6 : decode cX4_done 6 = .ok (.ireturn, 1) := by decide +kernel
theorem dX4_stop_0 : decode cX4_stop 0 = .ok (.aload_n 0, 1) := by decide +kernel
theorem dX4_stop_1 : decode cX4_stop 1 = .ok (.iload_n 1, 1) := by decide +kernel
theorem dX4_stop_2 : decode cX4_stop 2 = .ok (.iconst 0, 1) := by decide +kernel
theorem dX4_stop_3 : decode cX4_stop 3 = .ok (.invokevirtual 205, 3) := by decide +kernel
theorem dX4_stop_6 : decode cX4_stop 6 = .ok (.ireturn, 1) := by decide +kernel
theorem dX4_stopBeyond_0 : decode cX4_stopBeyond 0 = .ok (.aload_n 0, 1) := by decide +kernel
theorem dX4_stopBeyond_1 : decode cX4_stopBeyond 1 = .ok (.iload_n 1, 1) := by decide +kernel
theorem dX4_stopBeyond_2 : decode cX4_stopBeyond 2 = .ok (.putfield 47, 3) := by decide +kernel
theorem dX4_stopBeyond_5 : decode cX4_stopBeyond 5 = .ok (.aload_n 0, 1) := by decide +kernel
theorem dX4_stopBeyond_6 : decode cX4_stopBeyond 6 = .ok (.iconst 3, 1) := by decide +kernel
theorem dX4_stopBeyond_7 : decode cX4_stopBeyond 7 = .ok (.invokevirtual 54, 3) := by decide +kernel
theorem dX4_stopBeyond_10 : decode cX4_stopBeyond 10 = .ok (.ireturn, 1) := by decide +kernel
theorem dX4_arrayOf_0 : decode cX4_arrayOf 0 = .ok (.iload_n 1, 1) := by decide +kernel
theorem dX4_arrayOf_1 : decode cX4_arrayOf 1 = .ok (.ifCond .lt 20, 3) := by decide +kernel
theorem dX4_arrayOf_4 : decode cX4_arrayOf 4 = .ok (.iload_n 1, 1) := by decide +kernel
theorem dX4_arrayOf_5 : decode cX4_arrayOf 5 = .ok (.aload_n 0, 1) := by decide +kernel
theorem dX4_arrayOf_6 : decode cX4_arrayOf 6 = .ok (.getfield 40, 3) := by decide +kernel
theorem dX4_arrayOf_9 : decode cX4_arrayOf 9 = .ok (.if_icmp .ge 12, 3) := by decide +kernel
theorem dX4_arrayOf_12 : decode cX4_arrayOf 12 = .ok (.aload_n 0, 1) := by decide +kernel
theorem dX4_arrayOf_13 : decode cX4_arrayOf 13 = .ok (.getfield 32, 3) := by decide +kernel
theorem dX4_arrayOf_16 : decode cX4_arrayOf 16 = .ok (.iload_n 1, 1) := by decide +kernel
theorem dX4_arrayOf_17 : decode cX4_arrayOf 17 = .ok (.aaload, 1) := by decide +kernel
theorem dX4_arrayOf_18 : decode cX4_arrayOf 18 = .ok (.goto 4, 3) := by decide +kernel
theorem dX4_arrayOf_21 : decode cX4_arrayOf 21 = .ok (.aconst_null, 1) := by decide +kernel
theorem dX4_arrayOf_22 : decode cX4_arrayOf 22 = .ok (.areturn, 1) := by decide +kernel
theorem dX4_hasRoom_0 : decode cX4_hasRoom 0 = .ok (.aload_n 0, 1) := by decide +kernel
theorem dX4_hasRoom_1 : decode cX4_hasRoom 1 = .ok (.getfield 40, 3) := by decide +kernel
theorem dX4_hasRoom_4 : decode cX4_hasRoom 4 = .ok (.bipush 24, 2) := by decide +kernel
theorem dX4_hasRoom_6 : decode cX4_hasRoom 6 = .ok (.if_icmp .ge 19, 3) := by decide +kernel
theorem dX4_hasRoom_9 : decode cX4_hasRoom 9 = .ok (.aload_n 0, 1) := by decide +kernel
theorem dX4_hasRoom_10 : decode cX4_hasRoom 10 = .ok (.getfield 26, 3) := by decide +kernel
theorem dX4_hasRoom_13 : decode cX4_hasRoom 13 = .ok (.iload_n 1, 1) := by decide +kernel
theorem dX4_hasRoom_14 : decode cX4_hasRoom 14 = .ok (.iload_n 2, 1) := by decide +kernel
theorem dX4_hasRoom_15 : decode cX4_hasRoom 15 = .ok (.invokevirtual 147, 3) := by decide +kernel
theorem dX4_hasRoom_18 : decode cX4_hasRoom 18 = .ok (.ifCond .eq 7, 3) := by decide +kernel
theorem dX4_hasRoom_21 : decode cX4_hasRoom 21 = .ok (.iconst 1, 1) := by decide +kernel
theorem dX4_hasRoom_22 : decode cX4_hasRoom 22 = .ok (.goto 4, 3) := by decide +kernel
theorem dX4_hasRoom_25 : decode cX4_hasRoom 25 = .ok (.iconst 0, 1) := by decide +kernel
theorem dX4_hasRoom_26 : decode cX4_hasRoom 26 = .ok (.ireturn, 1) := by decide +kernel
theorem dX4_whyNotMade_0 : decode cX4_whyNotMade 0 = .ok (.aload_n 0, 1) := by decide +kernel
theorem dX4_whyNotMade_1 : decode cX4_whyNotMade 1 = .ok (.getfield 12, 3) := by decide +kernel
theorem dX4_whyNotMade_4 : decode cX4_whyNotMade 4 = .ok (.getfield 51, 3) := by decide +kernel
theorem dX4_whyNotMade_7 : decode cX4_whyNotMade 7 = .ok (.ifCond .eq 19, 3) := by decide +kernel
theorem dX4_whyNotMade_10 : decode cX4_whyNotMade 10 = .ok (.iload_n 1, 1) := by decide +kernel
theorem dX4_whyNotMade_11 : decode cX4_whyNotMade 11 = .ok (.iconst 4, 1) := by decide +kernel
theorem dX4_whyNotMade_12 : decode cX4_whyNotMade 12 = .ok (.if_icmp .ne 17, 3) := by decide +kernel
theorem dX4_whyNotMade_15 : decode cX4_whyNotMade 15 = .ok (.aload_n 0, 1) := by decide +kernel
theorem dX4_whyNotMade_16 : decode cX4_whyNotMade 16 = .ok (.getfield 12, 3) := by decide +kernel
theorem dX4_whyNotMade_19 : decode cX4_whyNotMade 19 = .ok (.getfield 51, 3) := by decide +kernel
theorem dX4_whyNotMade_22 : decode cX4_whyNotMade 22 = .ok (.iconst 2, 1) := by decide +kernel
theorem dX4_whyNotMade_23 : decode cX4_whyNotMade 23 = .ok (.if_icmp .eq 6, 3) := by decide +kernel
theorem dX4_whyNotMade_26 : decode cX4_whyNotMade 26 = .ok (.bipush 9, 2) := by decide +kernel
theorem dX4_whyNotMade_28 : decode cX4_whyNotMade 28 = .ok (.ireturn, 1) := by decide +kernel
theorem dX4_whyNotMade_29 : decode cX4_whyNotMade 29 = .ok (.aload_n 0, 1) := by decide +kernel
theorem dX4_whyNotMade_30 : decode cX4_whyNotMade 30 = .ok (.getfield 12, 3) := by decide +kernel
theorem dX4_whyNotMade_33 : decode cX4_whyNotMade 33 = .ok (.invokevirtual 96, 3) := by decide +kernel
theorem dX4_whyNotMade_36 : decode cX4_whyNotMade 36 = .ok (.istore_n 2, 1) := by decide +kernel
theorem dX4_whyNotMade_37 : decode cX4_whyNotMade 37 = .ok (.iload_n 2, 1) := by decide +kernel
theorem dX4_whyNotMade_38 : decode cX4_whyNotMade 38 = .ok (.sipush 500, 3) := by decide +kernel
theorem dX4_whyNotMade_41 : decode cX4_whyNotMade 41 = .ok (.if_icmp .gt 23, 3) := by decide +kernel
theorem dX4_whyNotMade_44 : decode cX4_whyNotMade 44 = .ok (.iload_n 1, 1) := by decide +kernel
theorem dX4_whyNotMade_45 : decode cX4_whyNotMade 45 = .ok (.iconst 4, 1) := by decide +kernel
theorem dX4_whyNotMade_46 : decode cX4_whyNotMade 46 = .ok (.if_icmp .ne 20, 3) := by decide +kernel
theorem dX4_whyNotMade_49 : decode cX4_whyNotMade 49 = .ok (.aload_n 0, 1) := by decide +kernel
theorem dX4_whyNotMade_50 : decode cX4_whyNotMade 50 = .ok (.getfield 12, 3) := by decide +kernel
theorem dX4_whyNotMade_53 : decode cX4_whyNotMade 53 = .ok (.iconst 0, 1) := by decide +kernel
theorem dX4_whyNotMade_54 : decode cX4_whyNotMade 54 = .ok (.invokevirtual 235, 3) := by decide +kernel
theorem dX4_whyNotMade_57 : decode cX4_whyNotMade 57 = .ok (.ldc2_w 238, 3) := by decide +kernel
theorem dX4_whyNotMade_60 : decode cX4_whyNotMade 60 = .ok (.lcmp, 1) := by decide +kernel
theorem dX4_whyNotMade_61 : decode cX4_whyNotMade 61 = .ok (.ifCond .le 5, 3) := by decide +kernel
theorem dX4_whyNotMade_64 : decode cX4_whyNotMade 64 = .ok (.iconst 5, 1) := by decide +kernel
theorem dX4_whyNotMade_65 : decode cX4_whyNotMade 65 = .ok (.ireturn, 1) := by decide +kernel
theorem dX4_whyNotMade_66 : decode cX4_whyNotMade 66 = .ok (.iload_n 1, 1) := by decide +kernel
theorem dX4_whyNotMade_67 : decode cX4_whyNotMade 67 = .ok (.iconst 4, 1) := by decide +kernel
theorem dX4_whyNotMade_68 : decode cX4_whyNotMade 68 = .ok (.if_icmp .ne 15, 3) := by decide +kernel
theorem dX4_whyNotMade_71 : decode cX4_whyNotMade 71 = .ok (.aload_n 0, 1) := by decide +kernel
theorem dX4_whyNotMade_72 : decode cX4_whyNotMade 72 = .ok (.getfield 12, 3) := by decide +kernel
theorem dX4_whyNotMade_75 : decode cX4_whyNotMade 75 = .ok (.iconst 0, 1) := by decide +kernel
theorem dX4_whyNotMade_76 : decode cX4_whyNotMade 76 = .ok (.invokevirtual 235, 3) := by decide +kernel
theorem dX4_whyNotMade_79 : decode cX4_whyNotMade 79 = .ok (.l2i, 1) := by decide +kernel
theorem dX4_whyNotMade_80 : decode cX4_whyNotMade 80 = .ok (.goto 4, 3) := by decide +kernel
theorem dX4_whyNotMade_83 : decode cX4_whyNotMade 83 = .ok (.iconst 1, 1) := by decide +kernel
theorem dX4_whyNotMade_84 : decode cX4_whyNotMade 84 = .ok (.istore_n 3, 1) := by decide +kernel
theorem dX4_whyNotMade_85 : decode cX4_whyNotMade 85 = .ok (.aload_n 0, 1) := by decide +kernel
theorem dX4_whyNotMade_86 : decode cX4_whyNotMade 86 = .ok (.iload_n 3, 1) := by decide +kernel
theorem dX4_whyNotMade_87 : decode cX4_whyNotMade 87 = .ok (.iload_n 2, 1) := by decide +kernel
theorem dX4_whyNotMade_88 : decode cX4_whyNotMade 88 = .ok (.invokevirtual 80, 3) := by decide +kernel
theorem dX4_whyNotMade_91 : decode cX4_whyNotMade 91 = .ok (.ifCond .eq 7, 3) := by decide +kernel
theorem dX4_whyNotMade_94 : decode cX4_whyNotMade 94 = .ok (.iconst 0, 1) := by decide +kernel
theorem dX4_whyNotMade_95 : decode cX4_whyNotMade 95 = .ok (.goto 5, 3) := by decide +kernel
theorem dX4_whyNotMade_98 : decode cX4_whyNotMade 98 = .ok (.bipush 8, 2) := by decide +kernel
theorem dX4_whyNotMade_100 : decode cX4_whyNotMade 100 = .ok (.ireturn, 1) := by decide +kernel
theorem dX4_whyNoRow_0 : decode cX4_whyNoRow 0 = .ok (.aload_n 1, 1) := by decide +kernel
theorem dX4_whyNoRow_1 : decode cX4_whyNoRow 1 = .ok (.ifnonnull 6, 3) := by decide +kernel
theorem dX4_whyNoRow_4 : decode cX4_whyNoRow 4 = .ok (.bipush 7, 2) := by decide +kernel
theorem dX4_whyNoRow_6 : decode cX4_whyNoRow 6 = .ok (.ireturn, 1) := by decide +kernel
theorem dX4_whyNoRow_7 : decode cX4_whyNoRow 7 = .ok (.aload_n 1, 1) := by decide +kernel
theorem dX4_whyNoRow_8 : decode cX4_whyNoRow 8 = .ok (.getfield 106, 3) := by decide +kernel
theorem dX4_whyNoRow_11 : decode cX4_whyNoRow 11 = .ok (.iconst 4, 1) := by decide +kernel
theorem dX4_whyNoRow_12 : decode cX4_whyNoRow 12 = .ok (.if_icmp .ne 7, 3) := by decide +kernel
theorem dX4_whyNoRow_15 : decode cX4_whyNoRow 15 = .ok (.iconst 2, 1) := by decide +kernel
theorem dX4_whyNoRow_16 : decode cX4_whyNoRow 16 = .ok (.goto 4, 3) := by decide +kernel
theorem dX4_whyNoRow_19 : decode cX4_whyNoRow 19 = .ok (.iconst 0, 1) := by decide +kernel
theorem dX4_whyNoRow_20 : decode cX4_whyNoRow 20 = .ok (.ireturn, 1) := by decide +kernel
theorem dX4_whyNotDeep_0 : decode cX4_whyNotDeep 0 = .ok (.aload_n 1, 1) := by decide +kernel
theorem dX4_whyNotDeep_1 : decode cX4_whyNotDeep 1 = .ok (.ifnonnull 6, 3) := by decide +kernel
theorem dX4_whyNotDeep_4 : decode cX4_whyNotDeep 4 = .ok (.bipush 7, 2) := by decide +kernel
theorem dX4_whyNotDeep_6 : decode cX4_whyNotDeep 6 = .ok (.ireturn, 1) := by decide +kernel
theorem dX4_whyNotDeep_7 : decode cX4_whyNotDeep 7 = .ok (.aload_n 1, 1) := by decide +kernel
theorem dX4_whyNotDeep_8 : decode cX4_whyNotDeep 8 = .ok (.getfield 106, 3) := by decide +kernel
theorem dX4_whyNotDeep_11 : decode cX4_whyNotDeep 11 = .ok (.iconst 1, 1) := by decide +kernel
theorem dX4_whyNotDeep_12 : decode cX4_whyNotDeep 12 = .ok (.if_icmp .eq 5, 3) := by decide +kernel
theorem dX4_whyNotDeep_15 : decode cX4_whyNotDeep 15 = .ok (.iconst 2, 1) := by decide +kernel
theorem dX4_whyNotDeep_16 : decode cX4_whyNotDeep 16 = .ok (.ireturn, 1) := by decide +kernel
theorem dX4_whyNotDeep_17 : decode cX4_whyNotDeep 17 = .ok (.aload_n 1, 1) := by decide +kernel
theorem dX4_whyNotDeep_18 : decode cX4_whyNotDeep 18 = .ok (.getfield 88, 3) := by decide +kernel
theorem dX4_whyNotDeep_21 : decode cX4_whyNotDeep 21 = .ok (.getfield 51, 3) := by decide +kernel
theorem dX4_whyNotDeep_24 : decode cX4_whyNotDeep 24 = .ok (.iconst 2, 1) := by decide +kernel
theorem dX4_whyNotDeep_25 : decode cX4_whyNotDeep 25 = .ok (.if_icmp .eq 6, 3) := by decide +kernel
theorem dX4_whyNotDeep_28 : decode cX4_whyNotDeep 28 = .ok (.bipush 9, 2) := by decide +kernel
theorem dX4_whyNotDeep_30 : decode cX4_whyNotDeep 30 = .ok (.ireturn, 1) := by decide +kernel
theorem dX4_whyNotDeep_31 : decode cX4_whyNotDeep 31 = .ok (.aload_n 1, 1) := by decide +kernel
theorem dX4_whyNotDeep_32 : decode cX4_whyNotDeep 32 = .ok (.getfield 88, 3) := by decide +kernel
theorem dX4_whyNotDeep_35 : decode cX4_whyNotDeep 35 = .ok (.iconst 0, 1) := by decide +kernel
theorem dX4_whyNotDeep_36 : decode cX4_whyNotDeep 36 = .ok (.invokevirtual 235, 3) := by decide +kernel
theorem dX4_whyNotDeep_39 : decode cX4_whyNotDeep 39 = .ok (.ldc2_w 238, 3) := by decide +kernel
theorem dX4_whyNotDeep_42 : decode cX4_whyNotDeep 42 = .ok (.lcmp, 1) := by decide +kernel
theorem dX4_whyNotDeep_43 : decode cX4_whyNotDeep 43 = .ok (.ifCond .le 5, 3) := by decide +kernel
theorem dX4_whyNotDeep_46 : decode cX4_whyNotDeep 46 = .ok (.iconst 5, 1) := by decide +kernel
theorem dX4_whyNotDeep_47 : decode cX4_whyNotDeep 47 = .ok (.ireturn, 1) := by decide +kernel
theorem dX4_whyNotDeep_48 : decode cX4_whyNotDeep 48 = .ok (.aload_n 1, 1) := by decide +kernel
theorem dX4_whyNotDeep_49 : decode cX4_whyNotDeep 49 = .ok (.getfield 88, 3) := by decide +kernel
theorem dX4_whyNotDeep_52 : decode cX4_whyNotDeep 52 = .ok (.iconst 0, 1) := by decide +kernel
theorem dX4_whyNotDeep_53 : decode cX4_whyNotDeep 53 = .ok (.invokevirtual 235, 3) := by decide +kernel
theorem dX4_whyNotDeep_56 : decode cX4_whyNotDeep 56 = .ok (.l2i, 1) := by decide +kernel
theorem dX4_whyNotDeep_57 : decode cX4_whyNotDeep 57 = .ok (.istore_n 2, 1) := by decide +kernel
theorem dX4_whyNotDeep_58 : decode cX4_whyNotDeep 58 = .ok (.aload_n 0, 1) := by decide +kernel
theorem dX4_whyNotDeep_59 : decode cX4_whyNotDeep 59 = .ok (.iload_n 2, 1) := by decide +kernel
theorem dX4_whyNotDeep_60 : decode cX4_whyNotDeep 60 = .ok (.aload_n 0, 1) := by decide +kernel
theorem dX4_whyNotDeep_61 : decode cX4_whyNotDeep 61 = .ok (.getfield 26, 3) := by decide +kernel
theorem dX4_whyNotDeep_64 : decode cX4_whyNotDeep 64 = .ok (.aload_n 1, 1) := by decide +kernel
theorem dX4_whyNotDeep_65 : decode cX4_whyNotDeep 65 = .ok (.getfield 100, 3) := by decide +kernel
theorem dX4_whyNotDeep_68 : decode cX4_whyNotDeep 68 = .ok (.invokevirtual 103, 3) := by decide +kernel
theorem dX4_whyNotDeep_71 : decode cX4_whyNotDeep 71 = .ok (.invokevirtual 80, 3) := by decide +kernel
theorem dX4_whyNotDeep_74 : decode cX4_whyNotDeep 74 = .ok (.ifCond .eq 7, 3) := by decide +kernel
theorem dX4_whyNotDeep_77 : decode cX4_whyNotDeep 77 = .ok (.iconst 0, 1) := by decide +kernel
theorem dX4_whyNotDeep_78 : decode cX4_whyNotDeep 78 = .ok (.goto 5, 3) := by decide +kernel
theorem dX4_whyNotDeep_81 : decode cX4_whyNotDeep 81 = .ok (.bipush 8, 2) := by decide +kernel
theorem dX4_whyNotDeep_83 : decode cX4_whyNotDeep 83 = .ok (.ireturn, 1) := by decide +kernel
theorem dX4_whyNotFlat_0 : decode cX4_whyNotFlat 0 = .ok (.aload_n 1, 1) := by decide +kernel
theorem dX4_whyNotFlat_1 : decode cX4_whyNotFlat 1 = .ok (.ifnonnull 6, 3) := by decide +kernel
theorem dX4_whyNotFlat_4 : decode cX4_whyNotFlat 4 = .ok (.bipush 7, 2) := by decide +kernel
theorem dX4_whyNotFlat_6 : decode cX4_whyNotFlat 6 = .ok (.ireturn, 1) := by decide +kernel
theorem dX4_whyNotFlat_7 : decode cX4_whyNotFlat 7 = .ok (.aload_n 1, 1) := by decide +kernel
theorem dX4_whyNotFlat_8 : decode cX4_whyNotFlat 8 = .ok (.getfield 106, 3) := by decide +kernel
theorem dX4_whyNotFlat_11 : decode cX4_whyNotFlat 11 = .ok (.iconst 4, 1) := by decide +kernel
theorem dX4_whyNotFlat_12 : decode cX4_whyNotFlat 12 = .ok (.if_icmp .eq 5, 3) := by decide +kernel
theorem dX4_whyNotFlat_15 : decode cX4_whyNotFlat 15 = .ok (.iconst 2, 1) := by decide +kernel
theorem dX4_whyNotFlat_16 : decode cX4_whyNotFlat 16 = .ok (.ireturn, 1) := by decide +kernel
theorem dX4_whyNotFlat_17 : decode cX4_whyNotFlat 17 = .ok (.aload_n 1, 1) := by decide +kernel
theorem dX4_whyNotFlat_18 : decode cX4_whyNotFlat 18 = .ok (.getfield 88, 3) := by decide +kernel
theorem dX4_whyNotFlat_21 : decode cX4_whyNotFlat 21 = .ok (.iconst 1, 1) := by decide +kernel
theorem dX4_whyNotFlat_22 : decode cX4_whyNotFlat 22 = .ok (.invokevirtual 235, 3) := by decide +kernel
theorem dX4_whyNotFlat_25 : decode cX4_whyNotFlat 25 = .ok (.lstore_n 2, 1) := by decide +kernel
theorem dX4_whyNotFlat_26 : decode cX4_whyNotFlat 26 = .ok (.iconst 0, 1) := by decide +kernel
theorem dX4_whyNotFlat_27 : decode cX4_whyNotFlat 27 = .ok (.istore 4, 2) := by decide +kernel
theorem dX4_whyNotFlat_29 : decode cX4_whyNotFlat 29 = .ok (.iload 4, 2) := by decide +kernel
theorem dX4_whyNotFlat_31 : decode cX4_whyNotFlat 31 = .ok (.aload_n 1, 1) := by decide +kernel
theorem dX4_whyNotFlat_32 : decode cX4_whyNotFlat 32 = .ok (.invokevirtual 130, 3) := by decide +kernel
theorem dX4_whyNotFlat_35 : decode cX4_whyNotFlat 35 = .ok (.if_icmp .ge 44, 3) := by decide +kernel
theorem dX4_whyNotFlat_38 : decode cX4_whyNotFlat 38 = .ok (.aload_n 1, 1) := by decide +kernel
theorem dX4_whyNotFlat_39 : decode cX4_whyNotFlat 39 = .ok (.getfield 133, 3) := by decide +kernel
theorem dX4_whyNotFlat_42 : decode cX4_whyNotFlat 42 = .ok (.iload 4, 2) := by decide +kernel
theorem dX4_whyNotFlat_44 : decode cX4_whyNotFlat 44 = .ok (.iaload, 1) := by decide +kernel
theorem dX4_whyNotFlat_45 : decode cX4_whyNotFlat 45 = .ok (.istore 5, 2) := by decide +kernel
theorem dX4_whyNotFlat_47 : decode cX4_whyNotFlat 47 = .ok (.iload 5, 2) := by decide +kernel
theorem dX4_whyNotFlat_49 : decode cX4_whyNotFlat 49 = .ok (.iconst (-1), 1) := by decide +kernel
theorem dX4_whyNotFlat_50 : decode cX4_whyNotFlat 50 = .ok (.if_icmp .ne 5, 3) := by decide +kernel
theorem dX4_whyNotFlat_53 : decode cX4_whyNotFlat 53 = .ok (.iconst 1, 1) := by decide +kernel
theorem dX4_whyNotFlat_54 : decode cX4_whyNotFlat 54 = .ok (.ireturn, 1) := by decide +kernel
theorem dX4_whyNotFlat_55 : decode cX4_whyNotFlat 55 = .ok (.aload_n 0, 1) := by decide +kernel
theorem dX4_whyNotFlat_56 : decode cX4_whyNotFlat 56 = .ok (.getfield 26, 3) := by decide +kernel
theorem dX4_whyNotFlat_59 : decode cX4_whyNotFlat 59 = .ok (.iload 5, 2) := by decide +kernel
theorem dX4_whyNotFlat_61 : decode cX4_whyNotFlat 61 = .ok (.invokevirtual 103, 3) := by decide +kernel
theorem dX4_whyNotFlat_64 : decode cX4_whyNotFlat 64 = .ok (.i2l, 1) := by decide +kernel
theorem dX4_whyNotFlat_65 : decode cX4_whyNotFlat 65 = .ok (.lload_n 2, 1) := by decide +kernel
theorem dX4_whyNotFlat_66 : decode cX4_whyNotFlat 66 = .ok (.lcmp, 1) := by decide +kernel
theorem dX4_whyNotFlat_67 : decode cX4_whyNotFlat 67 = .ok (.ifCond .eq 6, 3) := by decide +kernel
theorem dX4_whyNotFlat_70 : decode cX4_whyNotFlat 70 = .ok (.bipush 11, 2) := by decide +kernel
theorem dX4_whyNotFlat_72 : decode cX4_whyNotFlat 72 = .ok (.ireturn, 1) := by decide +kernel
theorem dX4_whyNotFlat_73 : decode cX4_whyNotFlat 73 = .ok (.iinc 4 1, 3) := by decide +kernel
theorem dX4_whyNotFlat_76 : decode cX4_whyNotFlat 76 = .ok (.goto (-47), 3) := by decide +kernel
theorem dX4_whyNotFlat_79 : decode cX4_whyNotFlat 79 = .ok (.aload_n 0, 1) := by decide +kernel
theorem dX4_whyNotFlat_80 : decode cX4_whyNotFlat 80 = .ok (.iconst 1, 1) := by decide +kernel
theorem dX4_whyNotFlat_81 : decode cX4_whyNotFlat 81 = .ok (.aload_n 1, 1) := by decide +kernel
theorem dX4_whyNotFlat_82 : decode cX4_whyNotFlat 82 = .ok (.getfield 88, 3) := by decide +kernel
theorem dX4_whyNotFlat_85 : decode cX4_whyNotFlat 85 = .ok (.invokevirtual 96, 3) := by decide +kernel
theorem dX4_whyNotFlat_88 : decode cX4_whyNotFlat 88 = .ok (.invokevirtual 80, 3) := by decide +kernel
theorem dX4_whyNotFlat_91 : decode cX4_whyNotFlat 91 = .ok (.ifCond .eq 7, 3) := by decide +kernel
theorem dX4_whyNotFlat_94 : decode cX4_whyNotFlat 94 = .ok (.iconst 0, 1) := by decide +kernel
theorem dX4_whyNotFlat_95 : decode cX4_whyNotFlat 95 = .ok (.goto 5, 3) := by decide +kernel
theorem dX4_whyNotFlat_98 : decode cX4_whyNotFlat 98 = .ok (.bipush 8, 2) := by decide +kernel
theorem dX4_whyNotFlat_100 : decode cX4_whyNotFlat 100 = .ok (.ireturn, 1) := by decide +kernel
theorem dX4_whyNoTableRow_0 : decode cX4_whyNoTableRow 0 = .ok (.aload_n 1, 1) := by decide +kernel
theorem dX4_whyNoTableRow_1 : decode cX4_whyNoTableRow 1 = .ok (.ifnonnull 6, 3) := by decide +kernel
theorem dX4_whyNoTableRow_4 : decode cX4_whyNoTableRow 4 = .ok (.bipush 7, 2) := by decide +kernel
theorem dX4_whyNoTableRow_6 : decode cX4_whyNoTableRow 6 = .ok (.ireturn, 1) := by decide +kernel
theorem dX4_whyNoTableRow_7 : decode cX4_whyNoTableRow 7 = .ok (.aload_n 1, 1) := by decide +kernel
theorem dX4_whyNoTableRow_8 : decode cX4_whyNoTableRow 8 = .ok (.getfield 106, 3) := by decide +kernel
theorem dX4_whyNoTableRow_11 : decode cX4_whyNoTableRow 11 = .ok (.iconst 4, 1) := by decide +kernel
theorem dX4_whyNoTableRow_12 : decode cX4_whyNoTableRow 12 = .ok (.if_icmp .eq 5, 3) := by decide +kernel
theorem dX4_whyNoTableRow_15 : decode cX4_whyNoTableRow 15 = .ok (.iconst 2, 1) := by decide +kernel
theorem dX4_whyNoTableRow_16 : decode cX4_whyNoTableRow 16 = .ok (.ireturn, 1) := by decide +kernel
theorem dX4_whyNoTableRow_17 : decode cX4_whyNoTableRow 17 = .ok (.aload_n 1, 1) := by decide +kernel
theorem dX4_whyNoTableRow_18 : decode cX4_whyNoTableRow 18 = .ok (.getfield 88, 3) := by decide +kernel
theorem dX4_whyNoTableRow_21 : decode cX4_whyNoTableRow 21 = .ok (.iconst 0, 1) := by decide +kernel
theorem dX4_whyNoTableRow_22 : decode cX4_whyNoTableRow 22 = .ok (.iload_n 2, 1) := by decide +kernel
theorem dX4_whyNoTableRow_23 : decode cX4_whyNoTableRow 23 = .ok (.invokevirtual 158, 3) := by decide +kernel
theorem dX4_whyNoTableRow_26 : decode cX4_whyNoTableRow 26 = .ok (.ifCond .ne 10, 3) := by decide +kernel
theorem dX4_whyNoTableRow_29 : decode cX4_whyNoTableRow 29 = .ok (.aload_n 0, 1) := by decide +kernel
theorem dX4_whyNoTableRow_30 : decode cX4_whyNoTableRow 30 = .ok (.iconst 0, 1) := by decide +kernel
theorem dX4_whyNoTableRow_31 : decode cX4_whyNoTableRow 31 = .ok (.putfield 47, 3) := by decide +kernel
theorem dX4_whyNoTableRow_34 : decode cX4_whyNoTableRow 34 = .ok (.iconst 3, 1) := by decide +kernel
theorem dX4_whyNoTableRow_35 : decode cX4_whyNoTableRow 35 = .ok (.ireturn, 1) := by decide +kernel
theorem dX4_whyNoTableRow_36 : decode cX4_whyNoTableRow 36 = .ok (.iconst 0, 1) := by decide +kernel
theorem dX4_whyNoTableRow_37 : decode cX4_whyNoTableRow 37 = .ok (.ireturn, 1) := by decide +kernel
theorem dX4_whyNotJoined_0 : decode cX4_whyNotJoined 0 = .ok (.aload_n 1, 1) := by decide +kernel
theorem dX4_whyNotJoined_1 : decode cX4_whyNotJoined 1 = .ok (.ifnull 7, 3) := by decide +kernel
theorem dX4_whyNotJoined_4 : decode cX4_whyNotJoined 4 = .ok (.aload_n 2, 1) := by decide +kernel
theorem dX4_whyNotJoined_5 : decode cX4_whyNotJoined 5 = .ok (.ifnonnull 6, 3) := by decide +kernel
theorem dX4_whyNotJoined_8 : decode cX4_whyNotJoined 8 = .ok (.bipush 7, 2) := by decide +kernel
theorem dX4_whyNotJoined_10 : decode cX4_whyNotJoined 10 = .ok (.ireturn, 1) := by decide +kernel
theorem dX4_whyNotJoined_11 : decode cX4_whyNotJoined 11 = .ok (.aload_n 1, 1) := by decide +kernel
theorem dX4_whyNotJoined_12 : decode cX4_whyNotJoined 12 = .ok (.getfield 106, 3) := by decide +kernel
theorem dX4_whyNotJoined_15 : decode cX4_whyNotJoined 15 = .ok (.aload_n 2, 1) := by decide +kernel
theorem dX4_whyNotJoined_16 : decode cX4_whyNotJoined 16 = .ok (.getfield 106, 3) := by decide +kernel
theorem dX4_whyNotJoined_19 : decode cX4_whyNotJoined 19 = .ok (.if_icmp .ne 11, 3) := by decide +kernel
theorem dX4_whyNotJoined_22 : decode cX4_whyNotJoined 22 = .ok (.aload_n 1, 1) := by decide +kernel
theorem dX4_whyNotJoined_23 : decode cX4_whyNotJoined 23 = .ok (.getfield 106, 3) := by decide +kernel
theorem dX4_whyNotJoined_26 : decode cX4_whyNotJoined 26 = .ok (.iconst 4, 1) := by decide +kernel
theorem dX4_whyNotJoined_27 : decode cX4_whyNotJoined 27 = .ok (.if_icmp .ne 5, 3) := by decide +kernel
theorem dX4_whyNotJoined_30 : decode cX4_whyNotJoined 30 = .ok (.iconst 2, 1) := by decide +kernel
theorem dX4_whyNotJoined_31 : decode cX4_whyNotJoined 31 = .ok (.ireturn, 1) := by decide +kernel
theorem dX4_whyNotJoined_32 : decode cX4_whyNotJoined 32 = .ok (.aload_n 0, 1) := by decide +kernel
theorem dX4_whyNotJoined_33 : decode cX4_whyNotJoined 33 = .ok (.getfield 26, 3) := by decide +kernel
theorem dX4_whyNotJoined_36 : decode cX4_whyNotJoined 36 = .ok (.aload_n 1, 1) := by decide +kernel
theorem dX4_whyNotJoined_37 : decode cX4_whyNotJoined 37 = .ok (.getfield 100, 3) := by decide +kernel
theorem dX4_whyNotJoined_40 : decode cX4_whyNotJoined 40 = .ok (.invokevirtual 103, 3) := by decide +kernel
theorem dX4_whyNotJoined_43 : decode cX4_whyNotJoined 43 = .ok (.aload_n 0, 1) := by decide +kernel
theorem dX4_whyNotJoined_44 : decode cX4_whyNotJoined 44 = .ok (.getfield 26, 3) := by decide +kernel
theorem dX4_whyNotJoined_47 : decode cX4_whyNotJoined 47 = .ok (.aload_n 2, 1) := by decide +kernel
theorem dX4_whyNotJoined_48 : decode cX4_whyNotJoined 48 = .ok (.getfield 100, 3) := by decide +kernel
theorem dX4_whyNotJoined_51 : decode cX4_whyNotJoined 51 = .ok (.invokevirtual 103, 3) := by decide +kernel
theorem dX4_whyNotJoined_54 : decode cX4_whyNotJoined 54 = .ok (.if_icmp .ne 7, 3) := by decide +kernel
theorem dX4_whyNotJoined_57 : decode cX4_whyNotJoined 57 = .ok (.iconst 0, 1) := by decide +kernel
theorem dX4_whyNotJoined_58 : decode cX4_whyNotJoined 58 = .ok (.goto 5, 3) := by decide +kernel
theorem dX4_whyNotJoined_61 : decode cX4_whyNotJoined 61 = .ok (.bipush 10, 2) := by decide +kernel
theorem dX4_whyNotJoined_63 : decode cX4_whyNotJoined 63 = .ok (.ireturn, 1) := by decide +kernel
theorem dX4_nextArray_0 : decode cX4_nextArray 0 = .ok (.aload_n 0, 1) := by decide +kernel
theorem dX4_nextArray_1 : decode cX4_nextArray 1 = .ok (.getfield 32, 3) := by decide +kernel
theorem dX4_nextArray_4 : decode cX4_nextArray 4 = .ok (.aload_n 0, 1) := by decide +kernel
theorem dX4_nextArray_5 : decode cX4_nextArray 5 = .ok (.getfield 40, 3) := by decide +kernel
theorem dX4_nextArray_8 : decode cX4_nextArray 8 = .ok (.aaload, 1) := by decide +kernel
theorem dX4_nextArray_9 : decode cX4_nextArray 9 = .ok (.astore_n 2, 1) := by decide +kernel
theorem dX4_nextArray_10 : decode cX4_nextArray 10 = .ok (.aload_n 0, 1) := by decide +kernel
theorem dX4_nextArray_11 : decode cX4_nextArray 11 = .ok (.dup, 1) := by decide +kernel
theorem dX4_nextArray_12 : decode cX4_nextArray 12 = .ok (.getfield 40, 3) := by decide +kernel
theorem dX4_nextArray_15 : decode cX4_nextArray 15 = .ok (.iconst 1, 1) := by decide +kernel
theorem dX4_nextArray_16 : decode cX4_nextArray 16 = .ok (.iadd, 1) := by decide +kernel
theorem dX4_nextArray_17 : decode cX4_nextArray 17 = .ok (.putfield 40, 3) := by decide +kernel
theorem dX4_nextArray_20 : decode cX4_nextArray 20 = .ok (.aload_n 2, 1) := by decide +kernel
theorem dX4_nextArray_21 : decode cX4_nextArray 21 = .ok (.iload_n 1, 1) := by decide +kernel
theorem dX4_nextArray_22 : decode cX4_nextArray 22 = .ok (.putfield 106, 3) := by decide +kernel
theorem dX4_nextArray_25 : decode cX4_nextArray 25 = .ok (.aload_n 2, 1) := by decide +kernel
theorem dX4_nextArray_26 : decode cX4_nextArray 26 = .ok (.iconst (-1), 1) := by decide +kernel
theorem dX4_nextArray_27 : decode cX4_nextArray 27 = .ok (.putfield 100, 3) := by decide +kernel
theorem dX4_nextArray_30 : decode cX4_nextArray 30 = .ok (.aload_n 2, 1) := by decide +kernel
theorem dX4_nextArray_31 : decode cX4_nextArray 31 = .ok (.getfield 88, 3) := by decide +kernel
theorem dX4_nextArray_34 : decode cX4_nextArray 34 = .ok (.iconst 0, 1) := by decide +kernel
theorem dX4_nextArray_35 : decode cX4_nextArray 35 = .ok (.putfield 51, 3) := by decide +kernel
theorem dX4_nextArray_38 : decode cX4_nextArray 38 = .ok (.aload_n 2, 1) := by decide +kernel
theorem dX4_nextArray_39 : decode cX4_nextArray 39 = .ok (.areturn, 1) := by decide +kernel
theorem dX4_nextArrayIn_0 : decode cX4_nextArrayIn 0 = .ok (.aload_n 0, 1) := by decide +kernel
theorem dX4_nextArrayIn_1 : decode cX4_nextArrayIn 1 = .ok (.iload_n 2, 1) := by decide +kernel
theorem dX4_nextArrayIn_2 : decode cX4_nextArrayIn 2 = .ok (.invokevirtual 84, 3) := by decide +kernel
theorem dX4_nextArrayIn_5 : decode cX4_nextArrayIn 5 = .ok (.astore_n 3, 1) := by decide +kernel
theorem dX4_nextArrayIn_6 : decode cX4_nextArrayIn 6 = .ok (.aload_n 3, 1) := by decide +kernel
theorem dX4_nextArrayIn_7 : decode cX4_nextArrayIn 7 = .ok (.getfield 88, 3) := by decide +kernel
theorem dX4_nextArrayIn_10 : decode cX4_nextArrayIn 10 = .ok (.aload_n 1, 1) := by decide +kernel
theorem dX4_nextArrayIn_11 : decode cX4_nextArrayIn 11 = .ok (.invokevirtual 240, 3) := by decide +kernel
theorem dX4_nextArrayIn_14 : decode cX4_nextArrayIn 14 = .ok (.aload_n 3, 1) := by decide +kernel
theorem dX4_nextArrayIn_15 : decode cX4_nextArrayIn 15 = .ok (.areturn, 1) := by decide +kernel
theorem dX4_addOwnRow_0 : decode cX4_addOwnRow 0 = .ok (.aload_n 1, 1) := by decide +kernel
theorem dX4_addOwnRow_1 : decode cX4_addOwnRow 1 = .ok (.aload_n 0, 1) := by decide +kernel
theorem dX4_addOwnRow_2 : decode cX4_addOwnRow 2 = .ok (.getfield 26, 3) := by decide +kernel
theorem dX4_addOwnRow_5 : decode cX4_addOwnRow 5 = .ok (.aload_n 1, 1) := by decide +kernel
theorem dX4_addOwnRow_6 : decode cX4_addOwnRow 6 = .ok (.getfield 88, 3) := by decide +kernel
theorem dX4_addOwnRow_9 : decode cX4_addOwnRow 9 = .ok (.invokevirtual 96, 3) := by decide +kernel
theorem dX4_addOwnRow_12 : decode cX4_addOwnRow 12 = .ok (.aload_n 1, 1) := by decide +kernel
theorem dX4_addOwnRow_13 : decode cX4_addOwnRow 13 = .ok (.getfield 106, 3) := by decide +kernel
theorem dX4_addOwnRow_16 : decode cX4_addOwnRow 16 = .ok (.iconst 3, 1) := by decide +kernel
theorem dX4_addOwnRow_17 : decode cX4_addOwnRow 17 = .ok (.if_icmp .eq 7, 3) := by decide +kernel
theorem dX4_addOwnRow_20 : decode cX4_addOwnRow 20 = .ok (.iconst 1, 1) := by decide +kernel
theorem dX4_addOwnRow_21 : decode cX4_addOwnRow 21 = .ok (.goto 4, 3) := by decide +kernel
theorem dX4_addOwnRow_24 : decode cX4_addOwnRow 24 = .ok (.iconst 0, 1) := by decide +kernel
theorem dX4_addOwnRow_25 : decode cX4_addOwnRow 25 = .ok (.invokevirtual 154, 3) := by decide +kernel
theorem dX4_addOwnRow_28 : decode cX4_addOwnRow 28 = .ok (.putfield 100, 3) := by decide +kernel
theorem dX4_addOwnRow_31 : decode cX4_addOwnRow 31 = .ok (.return_, 1) := by decide +kernel
theorem dX4_addTableRows_0 : decode cX4_addTableRows 0 = .ok (.aload_n 1, 1) := by decide +kernel
theorem dX4_addTableRows_1 : decode cX4_addTableRows 1 = .ok (.invokevirtual 130, 3) := by decide +kernel
theorem dX4_addTableRows_4 : decode cX4_addTableRows 4 = .ok (.istore_n 2, 1) := by decide +kernel
theorem dX4_addTableRows_5 : decode cX4_addTableRows 5 = .ok (.aload_n 1, 1) := by decide +kernel
theorem dX4_addTableRows_6 : decode cX4_addTableRows 6 = .ok (.getfield 133, 3) := by decide +kernel
theorem dX4_addTableRows_9 : decode cX4_addTableRows 9 = .ok (.arraylength, 1) := by decide +kernel
theorem dX4_addTableRows_10 : decode cX4_addTableRows 10 = .ok (.iload_n 2, 1) := by decide +kernel
theorem dX4_addTableRows_11 : decode cX4_addTableRows 11 = .ok (.if_icmp .ge 10, 3) := by decide +kernel
theorem dX4_addTableRows_14 : decode cX4_addTableRows 14 = .ok (.aload_n 1, 1) := by decide +kernel
theorem dX4_addTableRows_15 : decode cX4_addTableRows 15 = .ok (.iload_n 2, 1) := by decide +kernel
theorem dX4_addTableRows_16 : decode cX4_addTableRows 16 = .ok (.newarray .int, 2) := by decide +kernel
theorem dX4_addTableRows_18 : decode cX4_addTableRows 18 = .ok (.putfield 133, 3) := by decide +kernel
theorem dX4_addTableRows_21 : decode cX4_addTableRows 21 = .ok (.iload_n 2, 1) := by decide +kernel
theorem dX4_addTableRows_22 : decode cX4_addTableRows 22 = .ok (.ifCond .ne 7, 3) := by decide +kernel
theorem dX4_addTableRows_25 : decode cX4_addTableRows 25 = .ok (.iconst 0, 1) := by decide +kernel
theorem dX4_addTableRows_26 : decode cX4_addTableRows 26 = .ok (.goto 12, 3) := by decide +kernel
theorem dX4_addTableRows_29 : decode cX4_addTableRows 29 = .ok (.aload_n 1, 1) := by decide +kernel
theorem dX4_addTableRows_30 : decode cX4_addTableRows 30 = .ok (.getfield 88, 3) := by decide +kernel
theorem dX4_addTableRows_33 : decode cX4_addTableRows 33 = .ok (.iconst 1, 1) := by decide +kernel
theorem dX4_addTableRows_34 : decode cX4_addTableRows 34 = .ok (.invokevirtual 235, 3) := by decide +kernel
theorem dX4_addTableRows_37 : decode cX4_addTableRows 37 = .ok (.l2i, 1) := by decide +kernel
theorem dX4_addTableRows_38 : decode cX4_addTableRows 38 = .ok (.istore_n 3, 1) := by decide +kernel
theorem dX4_addTableRows_39 : decode cX4_addTableRows 39 = .ok (.iconst 0, 1) := by decide +kernel
theorem dX4_addTableRows_40 : decode cX4_addTableRows 40 = .ok (.istore 4, 2) := by decide +kernel
theorem dX4_addTableRows_42 : decode cX4_addTableRows 42 = .ok (.iload 4, 2) := by decide +kernel
theorem dX4_addTableRows_44 : decode cX4_addTableRows 44 = .ok (.iload_n 2, 1) := by decide +kernel
theorem dX4_addTableRows_45 : decode cX4_addTableRows 45 = .ok (.if_icmp .ge 25, 3) := by decide +kernel
theorem dX4_addTableRows_48 : decode cX4_addTableRows 48 = .ok (.aload_n 1, 1) := by decide +kernel
theorem dX4_addTableRows_49 : decode cX4_addTableRows 49 = .ok (.getfield 133, 3) := by decide +kernel
theorem dX4_addTableRows_52 : decode cX4_addTableRows 52 = .ok (.iload 4, 2) := by decide +kernel
theorem dX4_addTableRows_54 : decode cX4_addTableRows 54 = .ok (.aload_n 0, 1) := by decide +kernel
theorem dX4_addTableRows_55 : decode cX4_addTableRows 55 = .ok (.getfield 26, 3) := by decide +kernel
theorem dX4_addTableRows_58 : decode cX4_addTableRows 58 = .ok (.iload_n 3, 1) := by decide +kernel
theorem dX4_addTableRows_59 : decode cX4_addTableRows 59 = .ok (.iconst 1, 1) := by decide +kernel
theorem dX4_addTableRows_60 : decode cX4_addTableRows 60 = .ok (.invokevirtual 154, 3) := by decide +kernel
theorem dX4_addTableRows_63 : decode cX4_addTableRows 63 = .ok (.iastore, 1) := by decide +kernel
theorem dX4_addTableRows_64 : decode cX4_addTableRows 64 = .ok (.iinc 4 1, 3) := by decide +kernel
theorem dX4_addTableRows_67 : decode cX4_addTableRows 67 = .ok (.goto (-25), 3) := by decide +kernel
theorem dX4_addTableRows_70 : decode cX4_addTableRows 70 = .ok (.return_, 1) := by decide +kernel
theorem dX4_findTurned_0 : decode cX4_findTurned 0 = .ok (.aload_n 0, 1) := by decide +kernel
theorem dX4_findTurned_1 : decode cX4_findTurned 1 = .ok (.getfield 26, 3) := by decide +kernel
theorem dX4_findTurned_4 : decode cX4_findTurned 4 = .ok (.aload_n 1, 1) := by decide +kernel
theorem dX4_findTurned_5 : decode cX4_findTurned 5 = .ok (.getfield 100, 3) := by decide +kernel
theorem dX4_findTurned_8 : decode cX4_findTurned 8 = .ok (.invokevirtual 103, 3) := by decide +kernel
theorem dX4_findTurned_11 : decode cX4_findTurned 11 = .ok (.ifCond .ne 4, 3) := by decide +kernel
theorem dX4_findTurned_14 : decode cX4_findTurned 14 = .ok (.return_, 1) := by decide +kernel
theorem dX4_findTurned_15 : decode cX4_findTurned 15 = .ok (.aload_n 1, 1) := by decide +kernel
theorem dX4_findTurned_16 : decode cX4_findTurned 16 = .ok (.getfield 88, 3) := by decide +kernel
theorem dX4_findTurned_19 : decode cX4_findTurned 19 = .ok (.iconst 0, 1) := by decide +kernel
theorem dX4_findTurned_20 : decode cX4_findTurned 20 = .ok (.invokevirtual 235, 3) := by decide +kernel
theorem dX4_findTurned_23 : decode cX4_findTurned 23 = .ok (.l2i, 1) := by decide +kernel
theorem dX4_findTurned_24 : decode cX4_findTurned 24 = .ok (.istore_n 2, 1) := by decide +kernel
theorem dX4_findTurned_25 : decode cX4_findTurned 25 = .ok (.aload_n 1, 1) := by decide +kernel
theorem dX4_findTurned_26 : decode cX4_findTurned 26 = .ok (.getfield 88, 3) := by decide +kernel
theorem dX4_findTurned_29 : decode cX4_findTurned 29 = .ok (.iconst 1, 1) := by decide +kernel
theorem dX4_findTurned_30 : decode cX4_findTurned 30 = .ok (.invokevirtual 235, 3) := by decide +kernel
theorem dX4_findTurned_33 : decode cX4_findTurned 33 = .ok (.l2i, 1) := by decide +kernel
theorem dX4_findTurned_34 : decode cX4_findTurned 34 = .ok (.istore_n 3, 1) := by decide +kernel
theorem dX4_findTurned_35 : decode cX4_findTurned 35 = .ok (.aload_n 1, 1) := by decide +kernel
theorem dX4_findTurned_36 : decode cX4_findTurned 36 = .ok (.getfield 88, 3) := by decide +kernel
theorem dX4_findTurned_39 : decode cX4_findTurned 39 = .ok (.iconst 2, 1) := by decide +kernel
theorem dX4_findTurned_40 : decode cX4_findTurned 40 = .ok (.invokevirtual 235, 3) := by decide +kernel
theorem dX4_findTurned_43 : decode cX4_findTurned 43 = .ok (.l2i, 1) := by decide +kernel
theorem dX4_findTurned_44 : decode cX4_findTurned 44 = .ok (.istore 4, 2) := by decide +kernel
theorem dX4_findTurned_46 : decode cX4_findTurned 46 = .ok (.aload_n 0, 1) := by decide +kernel
theorem dX4_findTurned_47 : decode cX4_findTurned 47 = .ok (.getfield 26, 3) := by decide +kernel
theorem dX4_findTurned_50 : decode cX4_findTurned 50 = .ok (.aload_n 1, 1) := by decide +kernel
theorem dX4_findTurned_51 : decode cX4_findTurned 51 = .ok (.getfield 100, 3) := by decide +kernel
theorem dX4_findTurned_54 : decode cX4_findTurned 54 = .ok (.invokevirtual 127, 3) := by decide +kernel
theorem dX4_findTurned_57 : decode cX4_findTurned 57 = .ok (.istore 5, 2) := by decide +kernel
theorem dX4_findTurned_59 : decode cX4_findTurned 59 = .ok (.iconst 0, 1) := by decide +kernel
theorem dX4_findTurned_60 : decode cX4_findTurned 60 = .ok (.istore 6, 2) := by decide +kernel
theorem dX4_findTurned_62 : decode cX4_findTurned 62 = .ok (.iconst 0, 1) := by decide +kernel
theorem dX4_findTurned_63 : decode cX4_findTurned 63 = .ok (.istore 7, 2) := by decide +kernel
theorem dX4_findTurned_65 : decode cX4_findTurned 65 = .ok (.iload 7, 2) := by decide +kernel
theorem dX4_findTurned_67 : decode cX4_findTurned 67 = .ok (.iload_n 3, 1) := by decide +kernel
theorem dX4_findTurned_68 : decode cX4_findTurned 68 = .ok (.if_icmp .ge 66, 3) := by decide +kernel
theorem dX4_findTurned_71 : decode cX4_findTurned 71 = .ok (.iconst 0, 1) := by decide +kernel
theorem dX4_findTurned_72 : decode cX4_findTurned 72 = .ok (.istore 8, 2) := by decide +kernel
theorem dX4_findTurned_74 : decode cX4_findTurned 74 = .ok (.iload 8, 2) := by decide +kernel
theorem dX4_findTurned_76 : decode cX4_findTurned 76 = .ok (.iload_n 2, 1) := by decide +kernel
theorem dX4_findTurned_77 : decode cX4_findTurned 77 = .ok (.if_icmp .ge 51, 3) := by decide +kernel
theorem dX4_findTurned_80 : decode cX4_findTurned 80 = .ok (.iconst 0, 1) := by decide +kernel
theorem dX4_findTurned_81 : decode cX4_findTurned 81 = .ok (.istore 9, 2) := by decide +kernel
theorem dX4_findTurned_83 : decode cX4_findTurned 83 = .ok (.iload 9, 2) := by decide +kernel
theorem dX4_findTurned_85 : decode cX4_findTurned 85 = .ok (.iload 4, 2) := by decide +kernel
theorem dX4_findTurned_87 : decode cX4_findTurned 87 = .ok (.if_icmp .ge 35, 3) := by decide +kernel
theorem dX4_findTurned_90 : decode cX4_findTurned 90 = .ok (.aload_n 0, 1) := by decide +kernel
theorem dX4_findTurned_91 : decode cX4_findTurned 91 = .ok (.getfield 36, 3) := by decide +kernel
theorem dX4_findTurned_94 : decode cX4_findTurned 94 = .ok (.iload 6, 2) := by decide +kernel
theorem dX4_findTurned_96 : decode cX4_findTurned 96 = .ok (.iload 5, 2) := by decide +kernel
theorem dX4_findTurned_98 : decode cX4_findTurned 98 = .ok (.iload 8, 2) := by decide +kernel
theorem dX4_findTurned_100 : decode cX4_findTurned 100 = .ok (.iload_n 3, 1) := by decide +kernel
theorem dX4_findTurned_101 : decode cX4_findTurned 101 = .ok (.imul, 1) := by decide +kernel
theorem dX4_findTurned_102 : decode cX4_findTurned 102 = .ok (.iload 7, 2) := by decide +kernel
theorem dX4_findTurned_104 : decode cX4_findTurned 104 = .ok (.iadd, 1) := by decide +kernel
theorem dX4_findTurned_105 : decode cX4_findTurned 105 = .ok (.iload 4, 2) := by decide +kernel
theorem dX4_findTurned_107 : decode cX4_findTurned 107 = .ok (.imul, 1) := by decide +kernel
theorem dX4_findTurned_108 : decode cX4_findTurned 108 = .ok (.iadd, 1) := by decide +kernel
theorem dX4_findTurned_109 : decode cX4_findTurned 109 = .ok (.iload 9, 2) := by decide +kernel
theorem dX4_findTurned_111 : decode cX4_findTurned 111 = .ok (.iadd, 1) := by decide +kernel
theorem dX4_findTurned_112 : decode cX4_findTurned 112 = .ok (.iastore, 1) := by decide +kernel
theorem dX4_findTurned_113 : decode cX4_findTurned 113 = .ok (.iinc 6 1, 3) := by decide +kernel
theorem dX4_findTurned_116 : decode cX4_findTurned 116 = .ok (.iinc 9 1, 3) := by decide +kernel
theorem dX4_findTurned_119 : decode cX4_findTurned 119 = .ok (.goto (-36), 3) := by decide +kernel
theorem dX4_findTurned_122 : decode cX4_findTurned 122 = .ok (.iinc 8 1, 3) := by decide +kernel
theorem dX4_findTurned_125 : decode cX4_findTurned 125 = .ok (.goto (-51), 3) := by decide +kernel
theorem dX4_findTurned_128 : decode cX4_findTurned 128 = .ok (.iinc 7 1, 3) := by decide +kernel
theorem dX4_findTurned_131 : decode cX4_findTurned 131 = .ok (.goto (-66), 3) := by decide +kernel
theorem dX4_findTurned_134 : decode cX4_findTurned 134 = .ok (.return_, 1) := by decide +kernel
theorem dX4_findCut_0 : decode cX4_findCut 0 = .ok (.aload_n 0, 1) := by decide +kernel
theorem dX4_findCut_1 : decode cX4_findCut 1 = .ok (.getfield 12, 3) := by decide +kernel
theorem dX4_findCut_4 : decode cX4_findCut 4 = .ok (.invokevirtual 96, 3) := by decide +kernel
theorem dX4_findCut_7 : decode cX4_findCut 7 = .ok (.ifCond .ne 5, 3) := by decide +kernel
theorem dX4_findCut_10 : decode cX4_findCut 10 = .ok (.iconst (-1), 1) := by decide +kernel
theorem dX4_findCut_11 : decode cX4_findCut 11 = .ok (.ireturn, 1) := by decide +kernel
theorem dX4_findCut_12 : decode cX4_findCut 12 = .ok (.aload_n 0, 1) := by decide +kernel
theorem dX4_findCut_13 : decode cX4_findCut 13 = .ok (.getfield 26, 3) := by decide +kernel
theorem dX4_findCut_16 : decode cX4_findCut 16 = .ok (.aload_n 1, 1) := by decide +kernel
theorem dX4_findCut_17 : decode cX4_findCut 17 = .ok (.getfield 100, 3) := by decide +kernel
theorem dX4_findCut_20 : decode cX4_findCut 20 = .ok (.invokevirtual 127, 3) := by decide +kernel
theorem dX4_findCut_23 : decode cX4_findCut 23 = .ok (.istore_n 2, 1) := by decide +kernel
theorem dX4_findCut_24 : decode cX4_findCut 24 = .ok (.iconst 0, 1) := by decide +kernel
theorem dX4_findCut_25 : decode cX4_findCut 25 = .ok (.istore_n 3, 1) := by decide +kernel
theorem dX4_findCut_26 : decode cX4_findCut 26 = .ok (.iconst 0, 1) := by decide +kernel
theorem dX4_findCut_27 : decode cX4_findCut 27 = .ok (.istore 4, 2) := by decide +kernel
theorem dX4_findCut_29 : decode cX4_findCut 29 = .ok (.iload 4, 2) := by decide +kernel
theorem dX4_findCut_31 : decode cX4_findCut 31 = .ok (.i2l, 1) := by decide +kernel
theorem dX4_findCut_32 : decode cX4_findCut 32 = .ok (.aload_n 0, 1) := by decide +kernel
theorem dX4_findCut_33 : decode cX4_findCut 33 = .ok (.getfield 12, 3) := by decide +kernel
theorem dX4_findCut_36 : decode cX4_findCut 36 = .ok (.iconst 0, 1) := by decide +kernel
theorem dX4_findCut_37 : decode cX4_findCut 37 = .ok (.invokevirtual 235, 3) := by decide +kernel
theorem dX4_findCut_40 : decode cX4_findCut 40 = .ok (.lcmp, 1) := by decide +kernel
theorem dX4_findCut_41 : decode cX4_findCut 41 = .ok (.ifCond .ge 147, 3) := by decide +kernel
theorem dX4_findCut_44 : decode cX4_findCut 44 = .ok (.iconst 0, 1) := by decide +kernel
theorem dX4_findCut_45 : decode cX4_findCut 45 = .ok (.istore 5, 2) := by decide +kernel
theorem dX4_findCut_47 : decode cX4_findCut 47 = .ok (.iload 5, 2) := by decide +kernel
theorem dX4_findCut_49 : decode cX4_findCut 49 = .ok (.i2l, 1) := by decide +kernel
theorem dX4_findCut_50 : decode cX4_findCut 50 = .ok (.aload_n 0, 1) := by decide +kernel
theorem dX4_findCut_51 : decode cX4_findCut 51 = .ok (.getfield 12, 3) := by decide +kernel
theorem dX4_findCut_54 : decode cX4_findCut 54 = .ok (.iconst 1, 1) := by decide +kernel
theorem dX4_findCut_55 : decode cX4_findCut 55 = .ok (.invokevirtual 235, 3) := by decide +kernel
theorem dX4_findCut_58 : decode cX4_findCut 58 = .ok (.lcmp, 1) := by decide +kernel
theorem dX4_findCut_59 : decode cX4_findCut 59 = .ok (.ifCond .ge 123, 3) := by decide +kernel
theorem dX4_findCut_62 : decode cX4_findCut 62 = .ok (.iconst 0, 1) := by decide +kernel
theorem dX4_findCut_63 : decode cX4_findCut 63 = .ok (.istore 6, 2) := by decide +kernel
theorem dX4_findCut_65 : decode cX4_findCut 65 = .ok (.iload 6, 2) := by decide +kernel
theorem dX4_findCut_67 : decode cX4_findCut 67 = .ok (.i2l, 1) := by decide +kernel
theorem dX4_findCut_68 : decode cX4_findCut 68 = .ok (.aload_n 0, 1) := by decide +kernel
theorem dX4_findCut_69 : decode cX4_findCut 69 = .ok (.getfield 12, 3) := by decide +kernel
theorem dX4_findCut_72 : decode cX4_findCut 72 = .ok (.iconst 2, 1) := by decide +kernel
theorem dX4_findCut_73 : decode cX4_findCut 73 = .ok (.invokevirtual 235, 3) := by decide +kernel
theorem dX4_findCut_76 : decode cX4_findCut 76 = .ok (.lcmp, 1) := by decide +kernel
theorem dX4_findCut_77 : decode cX4_findCut 77 = .ok (.ifCond .ge 99, 3) := by decide +kernel
theorem dX4_findCut_80 : decode cX4_findCut 80 = .ok (.aload_n 0, 1) := by decide +kernel
theorem dX4_findCut_81 : decode cX4_findCut 81 = .ok (.getfield 12, 3) := by decide +kernel
theorem dX4_findCut_84 : decode cX4_findCut 84 = .ok (.getfield 219, 3) := by decide +kernel
theorem dX4_findCut_87 : decode cX4_findCut 87 = .ok (.iconst 0, 1) := by decide +kernel
theorem dX4_findCut_88 : decode cX4_findCut 88 = .ok (.iaload, 1) := by decide +kernel
theorem dX4_findCut_89 : decode cX4_findCut 89 = .ok (.iload 4, 2) := by decide +kernel
theorem dX4_findCut_91 : decode cX4_findCut 91 = .ok (.iadd, 1) := by decide +kernel
theorem dX4_findCut_92 : decode cX4_findCut 92 = .ok (.istore 7, 2) := by decide +kernel
theorem dX4_findCut_94 : decode cX4_findCut 94 = .ok (.aload_n 0, 1) := by decide +kernel
theorem dX4_findCut_95 : decode cX4_findCut 95 = .ok (.getfield 12, 3) := by decide +kernel
theorem dX4_findCut_98 : decode cX4_findCut 98 = .ok (.getfield 219, 3) := by decide +kernel
theorem dX4_findCut_101 : decode cX4_findCut 101 = .ok (.iconst 1, 1) := by decide +kernel
theorem dX4_findCut_102 : decode cX4_findCut 102 = .ok (.iaload, 1) := by decide +kernel
theorem dX4_findCut_103 : decode cX4_findCut 103 = .ok (.iload 5, 2) := by decide +kernel
theorem dX4_findCut_105 : decode cX4_findCut 105 = .ok (.iadd, 1) := by decide +kernel
theorem dX4_findCut_106 : decode cX4_findCut 106 = .ok (.istore 8, 2) := by decide +kernel
theorem dX4_findCut_108 : decode cX4_findCut 108 = .ok (.aload_n 0, 1) := by decide +kernel
theorem dX4_findCut_109 : decode cX4_findCut 109 = .ok (.getfield 12, 3) := by decide +kernel
theorem dX4_findCut_112 : decode cX4_findCut 112 = .ok (.getfield 219, 3) := by decide +kernel
theorem dX4_findCut_115 : decode cX4_findCut 115 = .ok (.iconst 2, 1) := by decide +kernel
theorem dX4_findCut_116 : decode cX4_findCut 116 = .ok (.iaload, 1) := by decide +kernel
theorem dX4_findCut_117 : decode cX4_findCut 117 = .ok (.iload 6, 2) := by decide +kernel
theorem dX4_findCut_119 : decode cX4_findCut 119 = .ok (.iadd, 1) := by decide +kernel
theorem dX4_findCut_120 : decode cX4_findCut 120 = .ok (.istore 9, 2) := by decide +kernel
theorem dX4_findCut_122 : decode cX4_findCut 122 = .ok (.aload_n 1, 1) := by decide +kernel
theorem dX4_findCut_123 : decode cX4_findCut 123 = .ok (.getfield 88, 3) := by decide +kernel
theorem dX4_findCut_126 : decode cX4_findCut 126 = .ok (.iload 7, 2) := by decide +kernel
theorem dX4_findCut_128 : decode cX4_findCut 128 = .ok (.iload 8, 2) := by decide +kernel
theorem dX4_findCut_130 : decode cX4_findCut 130 = .ok (.iload 9, 2) := by decide +kernel
theorem dX4_findCut_132 : decode cX4_findCut 132 = .ok (.invokevirtual 244, 3) := by decide +kernel
theorem dX4_findCut_135 : decode cX4_findCut 135 = .ok (.istore 10, 2) := by decide +kernel
theorem dX4_findCut_137 : decode cX4_findCut 137 = .ok (.iload 10, 2) := by decide +kernel
theorem dX4_findCut_139 : decode cX4_findCut 139 = .ok (.iconst (-1), 1) := by decide +kernel
theorem dX4_findCut_140 : decode cX4_findCut 140 = .ok (.if_icmp .eq 6, 3) := by decide +kernel
theorem dX4_findCut_143 : decode cX4_findCut 143 = .ok (.iload 10, 2) := by decide +kernel
theorem dX4_findCut_145 : decode cX4_findCut 145 = .ok (.ireturn, 1) := by decide +kernel
theorem dX4_findCut_146 : decode cX4_findCut 146 = .ok (.aload_n 0, 1) := by decide +kernel
theorem dX4_findCut_147 : decode cX4_findCut 147 = .ok (.getfield 36, 3) := by decide +kernel
theorem dX4_findCut_150 : decode cX4_findCut 150 = .ok (.iload_n 3, 1) := by decide +kernel
theorem dX4_findCut_151 : decode cX4_findCut 151 = .ok (.iload_n 2, 1) := by decide +kernel
theorem dX4_findCut_152 : decode cX4_findCut 152 = .ok (.aload_n 1, 1) := by decide +kernel
theorem dX4_findCut_153 : decode cX4_findCut 153 = .ok (.getfield 88, 3) := by decide +kernel
theorem dX4_findCut_156 : decode cX4_findCut 156 = .ok (.iload 7, 2) := by decide +kernel
theorem dX4_findCut_158 : decode cX4_findCut 158 = .ok (.iload 8, 2) := by decide +kernel
theorem dX4_findCut_160 : decode cX4_findCut 160 = .ok (.iload 9, 2) := by decide +kernel
theorem dX4_findCut_162 : decode cX4_findCut 162 = .ok (.invokevirtual 248, 3) := by decide +kernel
theorem dX4_findCut_165 : decode cX4_findCut 165 = .ok (.iadd, 1) := by decide +kernel
theorem dX4_findCut_166 : decode cX4_findCut 166 = .ok (.iastore, 1) := by decide +kernel
theorem dX4_findCut_167 : decode cX4_findCut 167 = .ok (.iinc 3 1, 3) := by decide +kernel
theorem dX4_findCut_170 : decode cX4_findCut 170 = .ok (.iinc 6 1, 3) := by decide +kernel
theorem dX4_findCut_173 : decode cX4_findCut 173 = .ok (.goto (-108), 3) := by decide +kernel
theorem dX4_findCut_176 : decode cX4_findCut 176 = .ok (.iinc 5 1, 3) := by decide +kernel
theorem dX4_findCut_179 : decode cX4_findCut 179 = .ok (.goto (-132), 3) := by decide +kernel
theorem dX4_findCut_182 : decode cX4_findCut 182 = .ok (.iinc 4 1, 3) := by decide +kernel
theorem dX4_findCut_185 : decode cX4_findCut 185 = .ok (.goto (-156), 3) := by decide +kernel
theorem dX4_findCut_188 : decode cX4_findCut 188 = .ok (.iconst (-1), 1) := by decide +kernel
theorem dX4_findCut_189 : decode cX4_findCut 189 = .ok (.ireturn, 1) := by decide +kernel
theorem dX4_copySources_0 : decode cX4_copySources 0 = .ok (.aload_n 0, 1) := by decide +kernel
theorem dX4_copySources_1 : decode cX4_copySources 1 = .ok (.getfield 26, 3) := by decide +kernel
theorem dX4_copySources_4 : decode cX4_copySources 4 = .ok (.aload_n 1, 1) := by decide +kernel
theorem dX4_copySources_5 : decode cX4_copySources 5 = .ok (.getfield 100, 3) := by decide +kernel
theorem dX4_copySources_8 : decode cX4_copySources 8 = .ok (.invokevirtual 127, 3) := by decide +kernel
theorem dX4_copySources_11 : decode cX4_copySources 11 = .ok (.istore_n 2, 1) := by decide +kernel
theorem dX4_copySources_12 : decode cX4_copySources 12 = .ok (.iconst 0, 1) := by decide +kernel
theorem dX4_copySources_13 : decode cX4_copySources 13 = .ok (.istore_n 3, 1) := by decide +kernel
theorem dX4_copySources_14 : decode cX4_copySources 14 = .ok (.iload_n 3, 1) := by decide +kernel
theorem dX4_copySources_15 : decode cX4_copySources 15 = .ok (.aload_n 0, 1) := by decide +kernel
theorem dX4_copySources_16 : decode cX4_copySources 16 = .ok (.getfield 26, 3) := by decide +kernel
theorem dX4_copySources_19 : decode cX4_copySources 19 = .ok (.aload_n 1, 1) := by decide +kernel
theorem dX4_copySources_20 : decode cX4_copySources 20 = .ok (.getfield 100, 3) := by decide +kernel
theorem dX4_copySources_23 : decode cX4_copySources 23 = .ok (.invokevirtual 103, 3) := by decide +kernel
theorem dX4_copySources_26 : decode cX4_copySources 26 = .ok (.if_icmp .ge 26, 3) := by decide +kernel
theorem dX4_copySources_29 : decode cX4_copySources 29 = .ok (.aload_n 0, 1) := by decide +kernel
theorem dX4_copySources_30 : decode cX4_copySources 30 = .ok (.getfield 26, 3) := by decide +kernel
theorem dX4_copySources_33 : decode cX4_copySources 33 = .ok (.aload_n 0, 1) := by decide +kernel
theorem dX4_copySources_34 : decode cX4_copySources 34 = .ok (.getfield 36, 3) := by decide +kernel
theorem dX4_copySources_37 : decode cX4_copySources 37 = .ok (.iload_n 3, 1) := by decide +kernel
theorem dX4_copySources_38 : decode cX4_copySources 38 = .ok (.iaload, 1) := by decide +kernel
theorem dX4_copySources_39 : decode cX4_copySources 39 = .ok (.iload_n 2, 1) := by decide +kernel
theorem dX4_copySources_40 : decode cX4_copySources 40 = .ok (.iload_n 3, 1) := by decide +kernel
theorem dX4_copySources_41 : decode cX4_copySources 41 = .ok (.iadd, 1) := by decide +kernel
theorem dX4_copySources_42 : decode cX4_copySources 42 = .ok (.iconst 1, 1) := by decide +kernel
theorem dX4_copySources_43 : decode cX4_copySources 43 = .ok (.invokevirtual 136, 3) := by decide +kernel
theorem dX4_copySources_46 : decode cX4_copySources 46 = .ok (.iinc 3 1, 3) := by decide +kernel
theorem dX4_copySources_49 : decode cX4_copySources 49 = .ok (.goto (-35), 3) := by decide +kernel
theorem dX4_copySources_52 : decode cX4_copySources 52 = .ok (.return_, 1) := by decide +kernel
theorem dX4_cellOf_0 : decode cX4_cellOf 0 = .ok (.aload_n 1, 1) := by decide +kernel
theorem dX4_cellOf_1 : decode cX4_cellOf 1 = .ok (.ifnonnull 12, 3) := by decide +kernel
theorem dX4_cellOf_4 : decode cX4_cellOf 4 = .ok (.aload_n 0, 1) := by decide +kernel
theorem dX4_cellOf_5 : decode cX4_cellOf 5 = .ok (.bipush 7, 2) := by decide +kernel
theorem dX4_cellOf_7 : decode cX4_cellOf 7 = .ok (.invokevirtual 54, 3) := by decide +kernel
theorem dX4_cellOf_10 : decode cX4_cellOf 10 = .ok (.pop, 1) := by decide +kernel
theorem dX4_cellOf_11 : decode cX4_cellOf 11 = .ok (.iconst (-1), 1) := by decide +kernel
theorem dX4_cellOf_12 : decode cX4_cellOf 12 = .ok (.ireturn, 1) := by decide +kernel
theorem dX4_cellOf_13 : decode cX4_cellOf 13 = .ok (.aload_n 1, 1) := by decide +kernel
theorem dX4_cellOf_14 : decode cX4_cellOf 14 = .ok (.getfield 106, 3) := by decide +kernel
theorem dX4_cellOf_17 : decode cX4_cellOf 17 = .ok (.iconst 4, 1) := by decide +kernel
theorem dX4_cellOf_18 : decode cX4_cellOf 18 = .ok (.if_icmp .ne 11, 3) := by decide +kernel
theorem dX4_cellOf_21 : decode cX4_cellOf 21 = .ok (.aload_n 0, 1) := by decide +kernel
theorem dX4_cellOf_22 : decode cX4_cellOf 22 = .ok (.aload_n 1, 1) := by decide +kernel
theorem dX4_cellOf_23 : decode cX4_cellOf 23 = .ok (.iload_n 2, 1) := by decide +kernel
theorem dX4_cellOf_24 : decode cX4_cellOf 24 = .ok (.iload_n 3, 1) := by decide +kernel
theorem dX4_cellOf_25 : decode cX4_cellOf 25 = .ok (.invokevirtual 251, 3) := by decide +kernel
theorem dX4_cellOf_28 : decode cX4_cellOf 28 = .ok (.ireturn, 1) := by decide +kernel
theorem dX4_cellOf_29 : decode cX4_cellOf 29 = .ok (.aload_n 1, 1) := by decide +kernel
theorem dX4_cellOf_30 : decode cX4_cellOf 30 = .ok (.getfield 88, 3) := by decide +kernel
theorem dX4_cellOf_33 : decode cX4_cellOf 33 = .ok (.iload_n 2, 1) := by decide +kernel
theorem dX4_cellOf_34 : decode cX4_cellOf 34 = .ok (.iload_n 3, 1) := by decide +kernel
theorem dX4_cellOf_35 : decode cX4_cellOf 35 = .ok (.iload 4, 2) := by decide +kernel
theorem dX4_cellOf_37 : decode cX4_cellOf 37 = .ok (.invokevirtual 244, 3) := by decide +kernel
theorem dX4_cellOf_40 : decode cX4_cellOf 40 = .ok (.istore 5, 2) := by decide +kernel
theorem dX4_cellOf_42 : decode cX4_cellOf 42 = .ok (.iload 5, 2) := by decide +kernel
theorem dX4_cellOf_44 : decode cX4_cellOf 44 = .ok (.iconst (-1), 1) := by decide +kernel
theorem dX4_cellOf_45 : decode cX4_cellOf 45 = .ok (.if_icmp .eq 12, 3) := by decide +kernel
theorem dX4_cellOf_48 : decode cX4_cellOf 48 = .ok (.aload_n 0, 1) := by decide +kernel
theorem dX4_cellOf_49 : decode cX4_cellOf 49 = .ok (.iload 5, 2) := by decide +kernel
theorem dX4_cellOf_51 : decode cX4_cellOf 51 = .ok (.invokevirtual 121, 3) := by decide +kernel
theorem dX4_cellOf_54 : decode cX4_cellOf 54 = .ok (.pop, 1) := by decide +kernel
theorem dX4_cellOf_55 : decode cX4_cellOf 55 = .ok (.iconst (-1), 1) := by decide +kernel
theorem dX4_cellOf_56 : decode cX4_cellOf 56 = .ok (.ireturn, 1) := by decide +kernel
theorem dX4_cellOf_57 : decode cX4_cellOf 57 = .ok (.aload_n 0, 1) := by decide +kernel
theorem dX4_cellOf_58 : decode cX4_cellOf 58 = .ok (.getfield 26, 3) := by decide +kernel
theorem dX4_cellOf_61 : decode cX4_cellOf 61 = .ok (.aload_n 1, 1) := by decide +kernel
theorem dX4_cellOf_62 : decode cX4_cellOf 62 = .ok (.getfield 100, 3) := by decide +kernel
theorem dX4_cellOf_65 : decode cX4_cellOf 65 = .ok (.invokevirtual 127, 3) := by decide +kernel
theorem dX4_cellOf_68 : decode cX4_cellOf 68 = .ok (.aload_n 1, 1) := by decide +kernel
theorem dX4_cellOf_69 : decode cX4_cellOf 69 = .ok (.getfield 88, 3) := by decide +kernel
theorem dX4_cellOf_72 : decode cX4_cellOf 72 = .ok (.iload_n 2, 1) := by decide +kernel
theorem dX4_cellOf_73 : decode cX4_cellOf 73 = .ok (.iload_n 3, 1) := by decide +kernel
theorem dX4_cellOf_74 : decode cX4_cellOf 74 = .ok (.iload 4, 2) := by decide +kernel
theorem dX4_cellOf_76 : decode cX4_cellOf 76 = .ok (.invokevirtual 248, 3) := by decide +kernel
theorem dX4_cellOf_79 : decode cX4_cellOf 79 = .ok (.iadd, 1) := by decide +kernel
theorem dX4_cellOf_80 : decode cX4_cellOf 80 = .ok (.ireturn, 1) := by decide +kernel
theorem dX4_tableCellOf_0 : decode cX4_tableCellOf 0 = .ok (.aload_n 1, 1) := by decide +kernel
theorem dX4_tableCellOf_1 : decode cX4_tableCellOf 1 = .ok (.getfield 88, 3) := by decide +kernel
theorem dX4_tableCellOf_4 : decode cX4_tableCellOf 4 = .ok (.iconst 0, 1) := by decide +kernel
theorem dX4_tableCellOf_5 : decode cX4_tableCellOf 5 = .ok (.iload_n 2, 1) := by decide +kernel
theorem dX4_tableCellOf_6 : decode cX4_tableCellOf 6 = .ok (.invokevirtual 158, 3) := by decide +kernel
theorem dX4_tableCellOf_9 : decode cX4_tableCellOf 9 = .ok (.ifCond .ne 11, 3) := by decide +kernel
theorem dX4_tableCellOf_12 : decode cX4_tableCellOf 12 = .ok (.aload_n 0, 1) := by decide +kernel
theorem dX4_tableCellOf_13 : decode cX4_tableCellOf 13 = .ok (.iconst 0, 1) := by decide +kernel
theorem dX4_tableCellOf_14 : decode cX4_tableCellOf 14 = .ok (.invokevirtual 121, 3) := by decide +kernel
theorem dX4_tableCellOf_17 : decode cX4_tableCellOf 17 = .ok (.pop, 1) := by decide +kernel
theorem dX4_tableCellOf_18 : decode cX4_tableCellOf 18 = .ok (.iconst (-1), 1) := by decide +kernel
theorem dX4_tableCellOf_19 : decode cX4_tableCellOf 19 = .ok (.ireturn, 1) := by decide +kernel
theorem dX4_tableCellOf_20 : decode cX4_tableCellOf 20 = .ok (.aload_n 1, 1) := by decide +kernel
theorem dX4_tableCellOf_21 : decode cX4_tableCellOf 21 = .ok (.getfield 133, 3) := by decide +kernel
theorem dX4_tableCellOf_24 : decode cX4_tableCellOf 24 = .ok (.aload_n 1, 1) := by decide +kernel
theorem dX4_tableCellOf_25 : decode cX4_tableCellOf 25 = .ok (.getfield 88, 3) := by decide +kernel
theorem dX4_tableCellOf_28 : decode cX4_tableCellOf 28 = .ok (.iconst 0, 1) := by decide +kernel
theorem dX4_tableCellOf_29 : decode cX4_tableCellOf 29 = .ok (.iload_n 2, 1) := by decide +kernel
theorem dX4_tableCellOf_30 : decode cX4_tableCellOf 30 = .ok (.invokevirtual 150, 3) := by decide +kernel
theorem dX4_tableCellOf_33 : decode cX4_tableCellOf 33 = .ok (.iaload, 1) := by decide +kernel
theorem dX4_tableCellOf_34 : decode cX4_tableCellOf 34 = .ok (.istore 4, 2) := by decide +kernel
theorem dX4_tableCellOf_36 : decode cX4_tableCellOf 36 = .ok (.iload 4, 2) := by decide +kernel
theorem dX4_tableCellOf_38 : decode cX4_tableCellOf 38 = .ok (.iconst (-1), 1) := by decide +kernel
theorem dX4_tableCellOf_39 : decode cX4_tableCellOf 39 = .ok (.if_icmp .ne 11, 3) := by decide +kernel
theorem dX4_tableCellOf_42 : decode cX4_tableCellOf 42 = .ok (.aload_n 0, 1) := by decide +kernel
theorem dX4_tableCellOf_43 : decode cX4_tableCellOf 43 = .ok (.iconst 1, 1) := by decide +kernel
theorem dX4_tableCellOf_44 : decode cX4_tableCellOf 44 = .ok (.invokevirtual 54, 3) := by decide +kernel
theorem dX4_tableCellOf_47 : decode cX4_tableCellOf 47 = .ok (.pop, 1) := by decide +kernel
theorem dX4_tableCellOf_48 : decode cX4_tableCellOf 48 = .ok (.iconst (-1), 1) := by decide +kernel
theorem dX4_tableCellOf_49 : decode cX4_tableCellOf 49 = .ok (.ireturn, 1) := by decide +kernel
theorem dX4_tableCellOf_50 : decode cX4_tableCellOf 50 = .ok (.iload_n 3, 1) := by decide +kernel
theorem dX4_tableCellOf_51 : decode cX4_tableCellOf 51 = .ok (.i2l, 1) := by decide +kernel
theorem dX4_tableCellOf_52 : decode cX4_tableCellOf 52 = .ok (.aload_n 1, 1) := by decide +kernel
theorem dX4_tableCellOf_53 : decode cX4_tableCellOf 53 = .ok (.getfield 88, 3) := by decide +kernel
theorem dX4_tableCellOf_56 : decode cX4_tableCellOf 56 = .ok (.getfield 219, 3) := by decide +kernel
theorem dX4_tableCellOf_59 : decode cX4_tableCellOf 59 = .ok (.iconst 1, 1) := by decide +kernel
theorem dX4_tableCellOf_60 : decode cX4_tableCellOf 60 = .ok (.iaload, 1) := by decide +kernel
theorem dX4_tableCellOf_61 : decode cX4_tableCellOf 61 = .ok (.i2l, 1) := by decide +kernel
theorem dX4_tableCellOf_62 : decode cX4_tableCellOf 62 = .ok (.lsub, 1) := by decide +kernel
theorem dX4_tableCellOf_63 : decode cX4_tableCellOf 63 = .ok (.lstore 5, 2) := by decide +kernel
theorem dX4_tableCellOf_65 : decode cX4_tableCellOf 65 = .ok (.lload 5, 2) := by decide +kernel
theorem dX4_tableCellOf_67 : decode cX4_tableCellOf 67 = .ok (.lconst 0, 1) := by decide +kernel
theorem dX4_tableCellOf_68 : decode cX4_tableCellOf 68 = .ok (.lcmp, 1) := by decide +kernel
theorem dX4_tableCellOf_69 : decode cX4_tableCellOf 69 = .ok (.ifCond .lt 19, 3) := by decide +kernel
theorem dX4_tableCellOf_72 : decode cX4_tableCellOf 72 = .ok (.lload 5, 2) := by decide +kernel
theorem dX4_tableCellOf_74 : decode cX4_tableCellOf 74 = .ok (.aload_n 0, 1) := by decide +kernel
theorem dX4_tableCellOf_75 : decode cX4_tableCellOf 75 = .ok (.getfield 26, 3) := by decide +kernel
theorem dX4_tableCellOf_78 : decode cX4_tableCellOf 78 = .ok (.iload 4, 2) := by decide +kernel
theorem dX4_tableCellOf_80 : decode cX4_tableCellOf 80 = .ok (.invokevirtual 103, 3) := by decide +kernel
theorem dX4_tableCellOf_83 : decode cX4_tableCellOf 83 = .ok (.i2l, 1) := by decide +kernel
theorem dX4_tableCellOf_84 : decode cX4_tableCellOf 84 = .ok (.lcmp, 1) := by decide +kernel
theorem dX4_tableCellOf_85 : decode cX4_tableCellOf 85 = .ok (.ifCond .lt 11, 3) := by decide +kernel
theorem dX4_tableCellOf_88 : decode cX4_tableCellOf 88 = .ok (.aload_n 0, 1) := by decide +kernel
theorem dX4_tableCellOf_89 : decode cX4_tableCellOf 89 = .ok (.iconst 1, 1) := by decide +kernel
theorem dX4_tableCellOf_90 : decode cX4_tableCellOf 90 = .ok (.invokevirtual 121, 3) := by decide +kernel
theorem dX4_tableCellOf_93 : decode cX4_tableCellOf 93 = .ok (.pop, 1) := by decide +kernel
theorem dX4_tableCellOf_94 : decode cX4_tableCellOf 94 = .ok (.iconst (-1), 1) := by decide +kernel
theorem dX4_tableCellOf_95 : decode cX4_tableCellOf 95 = .ok (.ireturn, 1) := by decide +kernel
theorem dX4_tableCellOf_96 : decode cX4_tableCellOf 96 = .ok (.aload_n 0, 1) := by decide +kernel
theorem dX4_tableCellOf_97 : decode cX4_tableCellOf 97 = .ok (.getfield 26, 3) := by decide +kernel
theorem dX4_tableCellOf_100 : decode cX4_tableCellOf 100 = .ok (.iload 4, 2) := by decide +kernel
theorem dX4_tableCellOf_102 : decode cX4_tableCellOf 102 = .ok (.invokevirtual 127, 3) := by decide +kernel
theorem dX4_tableCellOf_105 : decode cX4_tableCellOf 105 = .ok (.lload 5, 2) := by decide +kernel
theorem dX4_tableCellOf_107 : decode cX4_tableCellOf 107 = .ok (.l2i, 1) := by decide +kernel
theorem dX4_tableCellOf_108 : decode cX4_tableCellOf 108 = .ok (.iadd, 1) := by decide +kernel
theorem dX4_tableCellOf_109 : decode cX4_tableCellOf 109 = .ok (.ireturn, 1) := by decide +kernel
theorem dX4_itemsOf_0 : decode cX4_itemsOf 0 = .ok (.aload_n 1, 1) := by decide +kernel
theorem dX4_itemsOf_1 : decode cX4_itemsOf 1 = .ok (.getfield 106, 3) := by decide +kernel
theorem dX4_itemsOf_4 : decode cX4_itemsOf 4 = .ok (.iconst 4, 1) := by decide +kernel
theorem dX4_itemsOf_5 : decode cX4_itemsOf 5 = .ok (.if_icmp .eq 15, 3) := by decide +kernel
theorem dX4_itemsOf_8 : decode cX4_itemsOf 8 = .ok (.aload_n 0, 1) := by decide +kernel
theorem dX4_itemsOf_9 : decode cX4_itemsOf 9 = .ok (.getfield 26, 3) := by decide +kernel
theorem dX4_itemsOf_12 : decode cX4_itemsOf 12 = .ok (.aload_n 1, 1) := by decide +kernel
theorem dX4_itemsOf_13 : decode cX4_itemsOf 13 = .ok (.getfield 100, 3) := by decide +kernel
theorem dX4_itemsOf_16 : decode cX4_itemsOf 16 = .ok (.invokevirtual 103, 3) := by decide +kernel
theorem dX4_itemsOf_19 : decode cX4_itemsOf 19 = .ok (.ireturn, 1) := by decide +kernel
theorem dX4_itemsOf_20 : decode cX4_itemsOf 20 = .ok (.iconst 0, 1) := by decide +kernel
theorem dX4_itemsOf_21 : decode cX4_itemsOf 21 = .ok (.istore_n 2, 1) := by decide +kernel
theorem dX4_itemsOf_22 : decode cX4_itemsOf 22 = .ok (.iconst 0, 1) := by decide +kernel
theorem dX4_itemsOf_23 : decode cX4_itemsOf 23 = .ok (.istore_n 3, 1) := by decide +kernel
theorem dX4_itemsOf_24 : decode cX4_itemsOf 24 = .ok (.iload_n 3, 1) := by decide +kernel
theorem dX4_itemsOf_25 : decode cX4_itemsOf 25 = .ok (.aload_n 1, 1) := by decide +kernel
theorem dX4_itemsOf_26 : decode cX4_itemsOf 26 = .ok (.invokevirtual 130, 3) := by decide +kernel
theorem dX4_itemsOf_29 : decode cX4_itemsOf 29 = .ok (.if_icmp .ge 25, 3) := by decide +kernel
theorem dX4_itemsOf_32 : decode cX4_itemsOf 32 = .ok (.iload_n 2, 1) := by decide +kernel
theorem dX4_itemsOf_33 : decode cX4_itemsOf 33 = .ok (.aload_n 0, 1) := by decide +kernel
theorem dX4_itemsOf_34 : decode cX4_itemsOf 34 = .ok (.getfield 26, 3) := by decide +kernel
theorem dX4_itemsOf_37 : decode cX4_itemsOf 37 = .ok (.aload_n 1, 1) := by decide +kernel
theorem dX4_itemsOf_38 : decode cX4_itemsOf 38 = .ok (.getfield 133, 3) := by decide +kernel
theorem dX4_itemsOf_41 : decode cX4_itemsOf 41 = .ok (.iload_n 3, 1) := by decide +kernel
theorem dX4_itemsOf_42 : decode cX4_itemsOf 42 = .ok (.iaload, 1) := by decide +kernel
theorem dX4_itemsOf_43 : decode cX4_itemsOf 43 = .ok (.invokevirtual 103, 3) := by decide +kernel
theorem dX4_itemsOf_46 : decode cX4_itemsOf 46 = .ok (.iadd, 1) := by decide +kernel
theorem dX4_itemsOf_47 : decode cX4_itemsOf 47 = .ok (.istore_n 2, 1) := by decide +kernel
theorem dX4_itemsOf_48 : decode cX4_itemsOf 48 = .ok (.iinc 3 1, 3) := by decide +kernel
theorem dX4_itemsOf_51 : decode cX4_itemsOf 51 = .ok (.goto (-27), 3) := by decide +kernel
theorem dX4_itemsOf_54 : decode cX4_itemsOf 54 = .ok (.iload_n 2, 1) := by decide +kernel
theorem dX4_itemsOf_55 : decode cX4_itemsOf 55 = .ok (.ireturn, 1) := by decide +kernel
theorem dX4_haveSameRows_0 : decode cX4_haveSameRows 0 = .ok (.aload_n 0, 1) := by decide +kernel
theorem dX4_haveSameRows_1 : decode cX4_haveSameRows 1 = .ok (.getfield 106, 3) := by decide +kernel
theorem dX4_haveSameRows_4 : decode cX4_haveSameRows 4 = .ok (.iconst 4, 1) := by decide +kernel
theorem dX4_haveSameRows_5 : decode cX4_haveSameRows 5 = .ok (.if_icmp .ne 11, 3) := by decide +kernel
theorem dX4_haveSameRows_8 : decode cX4_haveSameRows 8 = .ok (.aload_n 1, 1) := by decide +kernel
theorem dX4_haveSameRows_9 : decode cX4_haveSameRows 9 = .ok (.getfield 106, 3) := by decide +kernel
theorem dX4_haveSameRows_12 : decode cX4_haveSameRows 12 = .ok (.iconst 4, 1) := by decide +kernel
theorem dX4_haveSameRows_13 : decode cX4_haveSameRows 13 = .ok (.if_icmp .eq 20, 3) := by decide +kernel
theorem dX4_haveSameRows_16 : decode cX4_haveSameRows 16 = .ok (.aload_n 0, 1) := by decide +kernel
theorem dX4_haveSameRows_17 : decode cX4_haveSameRows 17 = .ok (.getfield 100, 3) := by decide +kernel
theorem dX4_haveSameRows_20 : decode cX4_haveSameRows 20 = .ok (.aload_n 1, 1) := by decide +kernel
theorem dX4_haveSameRows_21 : decode cX4_haveSameRows 21 = .ok (.getfield 100, 3) := by decide +kernel
theorem dX4_haveSameRows_24 : decode cX4_haveSameRows 24 = .ok (.if_icmp .ne 7, 3) := by decide +kernel
theorem dX4_haveSameRows_27 : decode cX4_haveSameRows 27 = .ok (.iconst 1, 1) := by decide +kernel
theorem dX4_haveSameRows_28 : decode cX4_haveSameRows 28 = .ok (.goto 4, 3) := by decide +kernel
theorem dX4_haveSameRows_31 : decode cX4_haveSameRows 31 = .ok (.iconst 0, 1) := by decide +kernel
theorem dX4_haveSameRows_32 : decode cX4_haveSameRows 32 = .ok (.ireturn, 1) := by decide +kernel
theorem dX4_haveSameRows_33 : decode cX4_haveSameRows 33 = .ok (.aload_n 0, 1) := by decide +kernel
theorem dX4_haveSameRows_34 : decode cX4_haveSameRows 34 = .ok (.invokevirtual 130, 3) := by decide +kernel
theorem dX4_haveSameRows_37 : decode cX4_haveSameRows 37 = .ok (.aload_n 1, 1) := by decide +kernel
theorem dX4_haveSameRows_38 : decode cX4_haveSameRows 38 = .ok (.invokevirtual 130, 3) := by decide +kernel
theorem dX4_haveSameRows_41 : decode cX4_haveSameRows 41 = .ok (.if_icmp .eq 5, 3) := by decide +kernel
theorem dX4_haveSameRows_44 : decode cX4_haveSameRows 44 = .ok (.iconst 0, 1) := by decide +kernel
theorem dX4_haveSameRows_45 : decode cX4_haveSameRows 45 = .ok (.ireturn, 1) := by decide +kernel
theorem dX4_haveSameRows_46 : decode cX4_haveSameRows 46 = .ok (.iconst 0, 1) := by decide +kernel
theorem dX4_haveSameRows_47 : decode cX4_haveSameRows 47 = .ok (.istore_n 2, 1) := by decide +kernel
theorem dX4_haveSameRows_48 : decode cX4_haveSameRows 48 = .ok (.iload_n 2, 1) := by decide +kernel
theorem dX4_haveSameRows_49 : decode cX4_haveSameRows 49 = .ok (.aload_n 0, 1) := by decide +kernel
theorem dX4_haveSameRows_50 : decode cX4_haveSameRows 50 = .ok (.invokevirtual 130, 3) := by decide +kernel
theorem dX4_haveSameRows_53 : decode cX4_haveSameRows 53 = .ok (.if_icmp .ge 26, 3) := by decide +kernel
theorem dX4_haveSameRows_56 : decode cX4_haveSameRows 56 = .ok (.aload_n 0, 1) := by decide +kernel
theorem dX4_haveSameRows_57 : decode cX4_haveSameRows 57 = .ok (.getfield 133, 3) := by decide +kernel
theorem dX4_haveSameRows_60 : decode cX4_haveSameRows 60 = .ok (.iload_n 2, 1) := by decide +kernel
theorem dX4_haveSameRows_61 : decode cX4_haveSameRows 61 = .ok (.iaload, 1) := by decide +kernel
theorem dX4_haveSameRows_62 : decode cX4_haveSameRows 62 = .ok (.aload_n 1, 1) := by decide +kernel
theorem dX4_haveSameRows_63 : decode cX4_haveSameRows 63 = .ok (.getfield 133, 3) := by decide +kernel
theorem dX4_haveSameRows_66 : decode cX4_haveSameRows 66 = .ok (.iload_n 2, 1) := by decide +kernel
theorem dX4_haveSameRows_67 : decode cX4_haveSameRows 67 = .ok (.iaload, 1) := by decide +kernel
theorem dX4_haveSameRows_68 : decode cX4_haveSameRows 68 = .ok (.if_icmp .eq 5, 3) := by decide +kernel
theorem dX4_haveSameRows_71 : decode cX4_haveSameRows 71 = .ok (.iconst 0, 1) := by decide +kernel
theorem dX4_haveSameRows_72 : decode cX4_haveSameRows 72 = .ok (.ireturn, 1) := by decide +kernel
theorem dX4_haveSameRows_73 : decode cX4_haveSameRows 73 = .ok (.iinc 2 1, 3) := by decide +kernel
theorem dX4_haveSameRows_76 : decode cX4_haveSameRows 76 = .ok (.goto (-28), 3) := by decide +kernel
theorem dX4_haveSameRows_79 : decode cX4_haveSameRows 79 = .ok (.iconst 1, 1) := by decide +kernel
theorem dX4_haveSameRows_80 : decode cX4_haveSameRows 80 = .ok (.ireturn, 1) := by decide +kernel
theorem dX4_joinCell_0 : decode cX4_joinCell 0 = .ok (.aload_n 0, 1) := by decide +kernel
theorem dX4_joinCell_1 : decode cX4_joinCell 1 = .ok (.getfield 26, 3) := by decide +kernel
theorem dX4_joinCell_4 : decode cX4_joinCell 4 = .ok (.getfield 165, 3) := by decide +kernel
theorem dX4_joinCell_7 : decode cX4_joinCell 7 = .ok (.iload_n 2, 1) := by decide +kernel
theorem dX4_joinCell_8 : decode cX4_joinCell 8 = .ok (.baload, 1) := by decide +kernel
theorem dX4_joinCell_9 : decode cX4_joinCell 9 = .ok (.ifCond .ne 18, 3) := by decide +kernel
theorem dX4_joinCell_12 : decode cX4_joinCell 12 = .ok (.aload_n 0, 1) := by decide +kernel
theorem dX4_joinCell_13 : decode cX4_joinCell 13 = .ok (.getfield 26, 3) := by decide +kernel
theorem dX4_joinCell_16 : decode cX4_joinCell 16 = .ok (.iload_n 2, 1) := by decide +kernel
theorem dX4_joinCell_17 : decode cX4_joinCell 17 = .ok (.iload_n 1, 1) := by decide +kernel
theorem dX4_joinCell_18 : decode cX4_joinCell 18 = .ok (.lload_n 3, 1) := by decide +kernel
theorem dX4_joinCell_19 : decode cX4_joinCell 19 = .ok (.invokestatic 173, 3) := by decide +kernel
theorem dX4_joinCell_22 : decode cX4_joinCell 22 = .ok (.invokevirtual 177, 3) := by decide +kernel
theorem dX4_joinCell_25 : decode cX4_joinCell 25 = .ok (.iconst 1, 1) := by decide +kernel
theorem dX4_joinCell_26 : decode cX4_joinCell 26 = .ok (.ireturn, 1) := by decide +kernel
theorem dX4_joinCell_27 : decode cX4_joinCell 27 = .ok (.lload_n 3, 1) := by decide +kernel
theorem dX4_joinCell_28 : decode cX4_joinCell 28 = .ok (.lconst 0, 1) := by decide +kernel
theorem dX4_joinCell_29 : decode cX4_joinCell 29 = .ok (.lcmp, 1) := by decide +kernel
