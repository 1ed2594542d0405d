theorem dX4_joinCell_30 : decode cX4_joinCell 30 = .ok (.ifCond .ne 17, 3) := by decide +kernel
theorem dX4_joinCell_33 : decode cX4_joinCell 33 = .ok (.iload 5, 2) := by decide +kernel
theorem dX4_joinCell_35 : decode cX4_joinCell 35 = .ok (.iconst 4, 1) := by decide +kernel
theorem dX4_joinCell_36 : decode cX4_joinCell 36 = .ok (.if_icmp .eq 9, 3) := by decide +kernel
theorem dX4_joinCell_39 : decode cX4_joinCell 39 = .ok (.iload 5, 2) := by decide +kernel
theorem dX4_joinCell_41 : decode cX4_joinCell 41 = .ok (.iconst 5, 1) := by decide +kernel
theorem dX4_joinCell_42 : decode cX4_joinCell 42 = .ok (.if_icmp .ne 5, 3) := by decide +kernel
theorem dX4_joinCell_45 : decode cX4_joinCell 45 = .ok (.iconst 0, 1) := by decide +kernel
theorem dX4_joinCell_46 : decode cX4_joinCell 46 = .ok (.ireturn, 1) := by decide +kernel
theorem dX4_joinCell_47 : decode cX4_joinCell 47 = .ok (.aload_n 0, 1) := by decide +kernel
theorem dX4_joinCell_48 : decode cX4_joinCell 48 = .ok (.getfield 26, 3) := by decide +kernel
theorem dX4_joinCell_51 : decode cX4_joinCell 51 = .ok (.iload_n 2, 1) := by decide +kernel
theorem dX4_joinCell_52 : decode cX4_joinCell 52 = .ok (.iload_n 1, 1) := by decide +kernel
theorem dX4_joinCell_53 : decode cX4_joinCell 53 = .ok (.aload_n 0, 1) := by decide +kernel
theorem dX4_joinCell_54 : decode cX4_joinCell 54 = .ok (.getfield 26, 3) := by decide +kernel
theorem dX4_joinCell_57 : decode cX4_joinCell 57 = .ok (.getfield 169, 3) := by decide +kernel
theorem dX4_joinCell_60 : decode cX4_joinCell 60 = .ok (.iload_n 2, 1) := by decide +kernel
theorem dX4_joinCell_61 : decode cX4_joinCell 61 = .ok (.laload, 1) := by decide +kernel
theorem dX4_joinCell_62 : decode cX4_joinCell 62 = .ok (.lload_n 3, 1) := by decide +kernel
theorem dX4_joinCell_63 : decode cX4_joinCell 63 = .ok (.iload 5, 2) := by decide +kernel
theorem dX4_joinCell_65 : decode cX4_joinCell 65 = .ok (.invokestatic 255, 3) := by decide +kernel
theorem dX4_joinCell_68 : decode cX4_joinCell 68 = .ok (.invokestatic 173, 3) := by decide +kernel
theorem dX4_joinCell_71 : decode cX4_joinCell 71 = .ok (.invokevirtual 177, 3) := by decide +kernel
theorem dX4_joinCell_74 : decode cX4_joinCell 74 = .ok (.iconst 1, 1) := by decide +kernel
theorem dX4_joinCell_75 : decode cX4_joinCell 75 = .ok (.ireturn, 1) := by decide +kernel
theorem dX4_joined_0 : decode cX4_joined 0 = .ok (.iload 4, 2) := by decide +kernel
theorem dX4_joined_2 : decode cX4_joined 2 = .ok (.tableswitch 78 1 5 #[34, 38, 44, 50, 64], 34) := by decide +kernel
theorem dX4_joined_36 : decode cX4_joined 36 = .ok (.lload_n 0, 1) := by decide +kernel
theorem dX4_joined_37 : decode cX4_joined 37 = .ok (.lload_n 2, 1) := by decide +kernel
theorem dX4_joined_38 : decode cX4_joined 38 = .ok (.ladd, 1) := by decide +kernel
theorem dX4_joined_39 : decode cX4_joined 39 = .ok (.lreturn, 1) := by decide +kernel
theorem dX4_joined_40 : decode cX4_joined 40 = .ok (.lload_n 0, 1) := by decide +kernel
theorem dX4_joined_41 : decode cX4_joined 41 = .ok (.lload_n 2, 1) := by decide +kernel
theorem dX4_joined_42 : decode cX4_joined 42 = .ok (.invokestatic 259, 3) := by decide +kernel
theorem dX4_joined_45 : decode cX4_joined 45 = .ok (.lreturn, 1) := by decide +kernel
theorem dX4_joined_46 : decode cX4_joined 46 = .ok (.lload_n 0, 1) := by decide +kernel
theorem dX4_joined_47 : decode cX4_joined 47 = .ok (.lload_n 2, 1) := by decide +kernel
theorem dX4_joined_48 : decode cX4_joined 48 = .ok (.invokestatic 265, 3) := by decide +kernel
theorem dX4_joined_51 : decode cX4_joined 51 = .ok (.lreturn, 1) := by decide +kernel
theorem dX4_joined_52 : decode cX4_joined 52 = .ok (.lload_n 2, 1) := by decide +kernel
theorem dX4_joined_53 : decode cX4_joined 53 = .ok (.lconst 0, 1) := by decide +kernel
theorem dX4_joined_54 : decode cX4_joined 54 = .ok (.lcmp, 1) := by decide +kernel
theorem dX4_joined_55 : decode cX4_joined 55 = .ok (.ifCond .ne 7, 3) := by decide +kernel
theorem dX4_joined_58 : decode cX4_joined 58 = .ok (.lconst 0, 1) := by decide +kernel
theorem dX4_joined_59 : decode cX4_joined 59 = .ok (.goto 6, 3) := by decide +kernel
theorem dX4_joined_62 : decode cX4_joined 62 = .ok (.lload_n 0, 1) := by decide +kernel
theorem dX4_joined_63 : decode cX4_joined 63 = .ok (.lload_n 2, 1) := by decide +kernel
theorem dX4_joined_64 : decode cX4_joined 64 = .ok (.ldiv, 1) := by decide +kernel
theorem dX4_joined_65 : decode cX4_joined 65 = .ok (.lreturn, 1) := by decide +kernel
theorem dX4_joined_66 : decode cX4_joined 66 = .ok (.lload_n 2, 1) := by decide +kernel
theorem dX4_joined_67 : decode cX4_joined 67 = .ok (.lconst 0, 1) := by decide +kernel
theorem dX4_joined_68 : decode cX4_joined 68 = .ok (.lcmp, 1) := by decide +kernel
theorem dX4_joined_69 : decode cX4_joined 69 = .ok (.ifCond .ne 7, 3) := by decide +kernel
theorem dX4_joined_72 : decode cX4_joined 72 = .ok (.lconst 0, 1) := by decide +kernel
theorem dX4_joined_73 : decode cX4_joined 73 = .ok (.goto 6, 3) := by decide +kernel
theorem dX4_joined_76 : decode cX4_joined 76 = .ok (.lload_n 0, 1) := by decide +kernel
theorem dX4_joined_77 : decode cX4_joined 77 = .ok (.lload_n 2, 1) := by decide +kernel
theorem dX4_joined_78 : decode cX4_joined 78 = .ok (.lrem, 1) := by decide +kernel
theorem dX4_joined_79 : decode cX4_joined 79 = .ok (.lreturn, 1) := by decide +kernel
theorem dX4_joined_80 : decode cX4_joined 80 = .ok (.lload_n 2, 1) := by decide +kernel
theorem dX4_joined_81 : decode cX4_joined 81 = .ok (.lreturn, 1) := by decide +kernel
theorem dX4_fitted_0 : decode cX4_fitted 0 = .ok (.iload_n 0, 1) := by decide +kernel
theorem dX4_fitted_1 : decode cX4_fitted 1 = .ok (.ifCond .ne 8, 3) := by decide +kernel
theorem dX4_fitted_4 : decode cX4_fitted 4 = .ok (.lload_n 1, 1) := by decide +kernel
theorem dX4_fitted_5 : decode cX4_fitted 5 = .ok (.l2i, 1) := by decide +kernel
theorem dX4_fitted_6 : decode cX4_fitted 6 = .ok (.i2b, 1) := by decide +kernel
theorem dX4_fitted_7 : decode cX4_fitted 7 = .ok (.i2l, 1) := by decide +kernel
theorem dX4_fitted_8 : decode cX4_fitted 8 = .ok (.lreturn, 1) := by decide +kernel
theorem dX4_fitted_9 : decode cX4_fitted 9 = .ok (.iload_n 0, 1) := by decide +kernel
theorem dX4_fitted_10 : decode cX4_fitted 10 = .ok (.iconst 1, 1) := by decide +kernel
theorem dX4_fitted_11 : decode cX4_fitted 11 = .ok (.if_icmp .eq 8, 3) := by decide +kernel
theorem dX4_fitted_14 : decode cX4_fitted 14 = .ok (.iload_n 0, 1) := by decide +kernel
theorem dX4_fitted_15 : decode cX4_fitted 15 = .ok (.iconst 4, 1) := by decide +kernel
theorem dX4_fitted_16 : decode cX4_fitted 16 = .ok (.if_icmp .ne 9, 3) := by decide +kernel
theorem dX4_fitted_19 : decode cX4_fitted 19 = .ok (.lload_n 1, 1) := by decide +kernel
theorem dX4_fitted_20 : decode cX4_fitted 20 = .ok (.l2i, 1) := by decide +kernel
theorem dX4_fitted_21 : decode cX4_fitted 21 = .ok (.i2l, 1) := by decide +kernel
theorem dX4_fitted_22 : decode cX4_fitted 22 = .ok (.goto 4, 3) := by decide +kernel
theorem dX4_fitted_25 : decode cX4_fitted 25 = .ok (.lload_n 1, 1) := by decide +kernel
theorem dX4_fitted_26 : decode cX4_fitted 26 = .ok (.lreturn, 1) := by decide +kernel
