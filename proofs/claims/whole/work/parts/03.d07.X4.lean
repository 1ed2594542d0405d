theorem dX4_init_0 : decode cX4_init 0 = .ok (.aload_n 0, 1) := by decide +kernel
theorem dX4_init_1 : decode cX4_init 1 = .ok (.invokespecial 3, 3) := by decide +kernel
theorem dX4_init_4 : decode cX4_init 4 = .ok (.aload_n 0, 1) := by decide +kernel
theorem dX4_init_5 : decode cX4_init 5 = .ok (.new 9, 3) := by decide +kernel
theorem dX4_init_8 : decode cX4_init 8 = .ok (.dup, 1) := by decide +kernel
theorem dX4_init_9 : decode cX4_init 9 = .ok (.invokespecial 11, 3) := by decide +kernel
theorem dX4_init_12 : decode cX4_init 12 = .ok (.putfield 12, 3) := by decide +kernel
theorem dX4_init_15 : decode cX4_init 15 = .ok (.aload_n 0, 1) := by decide +kernel
theorem dX4_init_16 : decode cX4_init 16 = .ok (.new 16, 3) := by decide +kernel
theorem dX4_init_19 : decode cX4_init 19 = .ok (.dup, 1) := by decide +kernel
theorem dX4_init_20 : decode cX4_init 20 = .ok (.invokespecial 18, 3) := by decide +kernel
theorem dX4_init_23 : decode cX4_init 23 = .ok (.putfield 19, 3) := by decide +kernel
theorem dX4_init_26 : decode cX4_init 26 = .ok (.aload_n 0, 1) := by decide +kernel
theorem dX4_init_27 : decode cX4_init 27 = .ok (.new 23, 3) := by decide +kernel
theorem dX4_init_30 : decode cX4_init 30 = .ok (.dup, 1) := by decide +kernel
theorem dX4_init_31 : decode cX4_init 31 = .ok (.invokespecial 25, 3) := by decide +kernel
theorem dX4_init_34 : decode cX4_init 34 = .ok (.putfield 26, 3) := by decide +kernel
theorem dX4_init_37 : decode cX4_init 37 = .ok (.aload_n 0, 1) := by decide +kernel
theorem dX4_init_38 : decode cX4_init 38 = .ok (.bipush 24, 2) := by decide +kernel
theorem dX4_init_40 : decode cX4_init 40 = .ok (.anewarray 30, 3) := by decide +kernel
theorem dX4_init_43 : decode cX4_init 43 = .ok (.putfield 32, 3) := by decide +kernel
theorem dX4_init_46 : decode cX4_init 46 = .ok (.aload_n 0, 1) := by decide +kernel
theorem dX4_init_47 : decode cX4_init 47 = .ok (.sipush 500, 3) := by decide +kernel
theorem dX4_init_50 : decode cX4_init 50 = .ok (.newarray .int, 2) := by decide +kernel
theorem dX4_init_52 : decode cX4_init 52 = .ok (.putfield 36, 3) := by decide +kernel
theorem dX4_init_55 : decode cX4_init 55 = .ok (.aload_n 0, 1) := by decide +kernel
theorem dX4_init_56 : decode cX4_init 56 = .ok (.iconst 0, 1) := by decide +kernel
theorem dX4_init_57 : decode cX4_init 57 = .ok (.putfield 40, 3) := by decide +kernel
theorem dX4_init_60 : decode cX4_init 60 = .ok (.aload_n 0, 1) := by decide +kernel
theorem dX4_init_61 : decode cX4_init 61 = .ok (.iconst 0, 1) := by decide +kernel
theorem dX4_init_62 : decode cX4_init 62 = .ok (.putfield 44, 3) := by decide +kernel
theorem dX4_init_65 : decode cX4_init 65 = .ok (.aload_n 0, 1) := by decide +kernel
theorem dX4_init_66 : decode cX4_init 66 = .ok (.iconst (-1), 1) := by decide +kernel
theorem dX4_init_67 : decode cX4_init 67 = .ok (.putfield 47, 3) := by decide +kernel
theorem dX4_init_70 : decode cX4_init 70 = .ok (.iconst 0, 1) := by decide +kernel
theorem dX4_init_71 : decode cX4_init 71 = .ok (.istore_n 1, 1) := by decide +kernel
theorem dX4_init_72 : decode cX4_init 72 = .ok (.iload_n 1, 1) := by decide +kernel
theorem dX4_init_73 : decode cX4_init 73 = .ok (.bipush 24, 2) := by decide +kernel
theorem dX4_init_75 : decode cX4_init 75 = .ok (.if_icmp .ge 22, 3) := by decide +kernel
theorem dX4_init_78 : decode cX4_init 78 = .ok (.aload_n 0, 1) := by decide +kernel
theorem dX4_init_79 : decode cX4_init 79 = .ok (.getfield 32, 3) := by decide +kernel
theorem dX4_init_82 : decode cX4_init 82 = .ok (.iload_n 1, 1) := by decide +kernel
theorem dX4_init_83 : decode cX4_init 83 = .ok (.new 30, 3) := by decide +kernel
theorem dX4_init_86 : decode cX4_init 86 = .ok (.dup, 1) := by decide +kernel
theorem dX4_init_87 : decode cX4_init 87 = .ok (.invokespecial 50, 3) := by decide +kernel
theorem dX4_init_90 : decode cX4_init 90 = .ok (.aastore, 1) := by decide +kernel
theorem dX4_init_91 : decode cX4_init 91 = .ok (.iinc 1 1, 3) := by decide +kernel
theorem dX4_init_94 : decode cX4_init 94 = .ok (.goto (-22), 3) := by decide +kernel
theorem dX4_init_97 : decode cX4_init 97 = .ok (.return_, 1) := by decide +kernel
theorem dX4_code_0 : decode cX4_code 0 = .ok (.aload_n 0, 1) := by decide +kernel
theorem dX4_code_1 : decode cX4_code 1 = .ok (.getfield 44, 3) := by decide +kernel
theorem dX4_code_4 : decode cX4_code 4 = .ok (.ireturn, 1) := by decide +kernel
theorem dX4_which_0 : decode cX4_which 0 = .ok (.aload_n 0, 1) := by decide +kernel
theorem dX4_which_1 : decode cX4_which 1 = .ok (.getfield 47, 3) := by decide +kernel
theorem dX4_which_4 : decode cX4_which 4 = .ok (.ireturn, 1) := by decide +kernel
theorem dX4_range_0 : decode cX4_range 0 = .ok (.aload_n 0, 1) := by decide +kernel
theorem dX4_range_1 : decode cX4_range 1 = .ok (.getfield 12, 3) := by decide +kernel
theorem dX4_range_4 : decode cX4_range 4 = .ok (.getfield 51, 3) := by decide +kernel
theorem dX4_range_7 : decode cX4_range 7 = .ok (.iconst 3, 1) := by decide +kernel
theorem dX4_range_8 : decode cX4_range 8 = .ok (.if_icmp .lt 10, 3) := by decide +kernel
theorem dX4_range_11 : decode cX4_range 11 = .ok (.aload_n 0, 1) := by decide +kernel
theorem dX4_range_12 : decode cX4_range 12 = .ok (.bipush 8, 2) := by decide +kernel
theorem dX4_range_14 : decode cX4_range 14 = .ok (.invokevirtual 54, 3) := by decide +kernel
theorem dX4_range_17 : decode cX4_range 17 = .ok (.ireturn, 1) := by decide +kernel
theorem dX4_range_18 : decode cX4_range 18 = .ok (.aload_n 0, 1) := by decide +kernel
theorem dX4_range_19 : decode cX4_range 19 = .ok (.getfield 12, 3) := by decide +kernel
theorem dX4_range_22 : decode cX4_range 22 = .ok (.iload_n 1, 1) := by decide +kernel
theorem dX4_range_23 : decode cX4_range 23 = .ok (.iload_n 2, 1) := by decide +kernel
theorem dX4_range_24 : decode cX4_range 24 = .ok (.invokevirtual 58, 3) := by decide +kernel
theorem dX4_range_27 : decode cX4_range 27 = .ok (.aload_n 0, 1) := by decide +kernel
theorem dX4_range_28 : decode cX4_range 28 = .ok (.aload_n 0, 1) := by decide +kernel
theorem dX4_range_29 : decode cX4_range 29 = .ok (.getfield 12, 3) := by decide +kernel
theorem dX4_range_32 : decode cX4_range 32 = .ok (.getfield 51, 3) := by decide +kernel
theorem dX4_range_35 : decode cX4_range 35 = .ok (.invokevirtual 62, 3) := by decide +kernel
theorem dX4_range_38 : decode cX4_range 38 = .ok (.ireturn, 1) := by decide +kernel
theorem dX4_shapeless_0 : decode cX4_shapeless 0 = .ok (.aload_n 0, 1) := by decide +kernel
theorem dX4_shapeless_1 : decode cX4_shapeless 1 = .ok (.getfield 12, 3) := by decide +kernel
theorem dX4_shapeless_4 : decode cX4_shapeless 4 = .ok (.getfield 51, 3) := by decide +kernel
theorem dX4_shapeless_7 : decode cX4_shapeless 7 = .ok (.istore_n 1, 1) := by decide +kernel
theorem dX4_shapeless_8 : decode cX4_shapeless 8 = .ok (.aload_n 0, 1) := by decide +kernel
theorem dX4_shapeless_9 : decode cX4_shapeless 9 = .ok (.getfield 12, 3) := by decide +kernel
theorem dX4_shapeless_12 : decode cX4_shapeless 12 = .ok (.iconst 0, 1) := by decide +kernel
theorem dX4_shapeless_13 : decode cX4_shapeless 13 = .ok (.putfield 51, 3) := by decide +kernel
theorem dX4_shapeless_16 : decode cX4_shapeless 16 = .ok (.aload_n 0, 1) := by decide +kernel
theorem dX4_shapeless_17 : decode cX4_shapeless 17 = .ok (.iload_n 1, 1) := by decide +kernel
theorem dX4_shapeless_18 : decode cX4_shapeless 18 = .ok (.invokevirtual 62, 3) := by decide +kernel
theorem dX4_shapeless_21 : decode cX4_shapeless 21 = .ok (.ireturn, 1) := by decide +kernel
theorem dX4_make_0 : decode cX4_make 0 = .ok (.iload_n 1, 1) := by decide +kernel
theorem dX4_make_1 : decode cX4_make 1 = .ok (.ifCond .lt 8, 3) := by decide +kernel
theorem dX4_make_4 : decode cX4_make 4 = .ok (.iload_n 1, 1) := by decide +kernel
theorem dX4_make_5 : decode cX4_make 5 = .ok (.iconst 4, 1) := by decide +kernel
theorem dX4_make_6 : decode cX4_make 6 = .ok (.if_icmp .le 6, 3) := by decide +kernel
theorem dX4_make_9 : decode cX4_make 9 = .ok (.ldc 65, 2) := by decide +kernel
theorem dX4_make_11 : decode cX4_make 11 = .ok (.ireturn, 1) := by decide +kernel
theorem dX4_make_12 : decode cX4_make 12 = .ok (.aload_n 0, 1) := by decide +kernel
theorem dX4_make_13 : decode cX4_make 13 = .ok (.iload_n 1, 1) := by decide +kernel
theorem dX4_make_14 : decode cX4_make 14 = .ok (.invokevirtual 66, 3) := by decide +kernel
theorem dX4_make_17 : decode cX4_make 17 = .ok (.istore_n 2, 1) := by decide +kernel
theorem dX4_make_18 : decode cX4_make 18 = .ok (.iload_n 2, 1) := by decide +kernel
theorem dX4_make_19 : decode cX4_make 19 = .ok (.ifCond .eq 9, 3) := by decide +kernel
theorem dX4_make_22 : decode cX4_make 22 = .ok (.aload_n 0, 1) := by decide +kernel
theorem dX4_make_23 : decode cX4_make 23 = .ok (.iload_n 2, 1) := by decide +kernel
theorem dX4_make_24 : decode cX4_make 24 = .ok (.invokevirtual 54, 3) := by decide +kernel
theorem dX4_make_27 : decode cX4_make 27 = .ok (.ireturn, 1) := by decide +kernel
theorem dX4_make_28 : decode cX4_make 28 = .ok (.aload_n 0, 1) := by decide +kernel
theorem dX4_make_29 : decode cX4_make 29 = .ok (.aload_n 0, 1) := by decide +kernel
theorem dX4_make_30 : decode cX4_make 30 = .ok (.getfield 12, 3) := by decide +kernel
theorem dX4_make_33 : decode cX4_make 33 = .ok (.iload_n 1, 1) := by decide +kernel
theorem dX4_make_34 : decode cX4_make 34 = .ok (.invokevirtual 69, 3) := by decide +kernel
theorem dX4_make_37 : decode cX4_make 37 = .ok (.astore_n 3, 1) := by decide +kernel
theorem dX4_make_38 : decode cX4_make 38 = .ok (.iload_n 1, 1) := by decide +kernel
theorem dX4_make_39 : decode cX4_make 39 = .ok (.iconst 4, 1) := by decide +kernel
theorem dX4_make_40 : decode cX4_make 40 = .ok (.if_icmp .ne 11, 3) := by decide +kernel
theorem dX4_make_43 : decode cX4_make 43 = .ok (.aload_n 0, 1) := by decide +kernel
theorem dX4_make_44 : decode cX4_make 44 = .ok (.aload_n 3, 1) := by decide +kernel
theorem dX4_make_45 : decode cX4_make 45 = .ok (.invokevirtual 73, 3) := by decide +kernel
theorem dX4_make_48 : decode cX4_make 48 = .ok (.goto 8, 3) := by decide +kernel
theorem dX4_make_51 : decode cX4_make 51 = .ok (.aload_n 0, 1) := by decide +kernel
theorem dX4_make_52 : decode cX4_make 52 = .ok (.aload_n 3, 1) := by decide +kernel
theorem dX4_make_53 : decode cX4_make 53 = .ok (.invokevirtual 77, 3) := by decide +kernel
theorem dX4_make_56 : decode cX4_make 56 = .ok (.aload_n 0, 1) := by decide +kernel
theorem dX4_make_57 : decode cX4_make 57 = .ok (.getfield 12, 3) := by decide +kernel
theorem dX4_make_60 : decode cX4_make 60 = .ok (.iconst 0, 1) := by decide +kernel
theorem dX4_make_61 : decode cX4_make 61 = .ok (.putfield 51, 3) := by decide +kernel
theorem dX4_make_64 : decode cX4_make 64 = .ok (.aload_n 0, 1) := by decide +kernel
theorem dX4_make_65 : decode cX4_make 65 = .ok (.aload_n 0, 1) := by decide +kernel
theorem dX4_make_66 : decode cX4_make 66 = .ok (.getfield 40, 3) := by decide +kernel
theorem dX4_make_69 : decode cX4_make 69 = .ok (.iconst 1, 1) := by decide +kernel
theorem dX4_make_70 : decode cX4_make 70 = .ok (.isub, 1) := by decide +kernel
theorem dX4_make_71 : decode cX4_make 71 = .ok (.invokevirtual 62, 3) := by decide +kernel
theorem dX4_make_74 : decode cX4_make 74 = .ok (.ireturn, 1) := by decide +kernel
theorem dX4_raw_0 : decode cX4_raw 0 = .ok (.iload_n 1, 1) := by decide +kernel
theorem dX4_raw_1 : decode cX4_raw 1 = .ok (.ifCond .lt 8, 3) := by decide +kernel
theorem dX4_raw_4 : decode cX4_raw 4 = .ok (.iload_n 1, 1) := by decide +kernel
theorem dX4_raw_5 : decode cX4_raw 5 = .ok (.iconst 3, 1) := by decide +kernel
theorem dX4_raw_6 : decode cX4_raw 6 = .ok (.if_icmp .le 6, 3) := by decide +kernel
theorem dX4_raw_9 : decode cX4_raw 9 = .ok (.ldc 65, 2) := by decide +kernel
theorem dX4_raw_11 : decode cX4_raw 11 = .ok (.ireturn, 1) := by decide +kernel
theorem dX4_raw_12 : decode cX4_raw 12 = .ok (.iload_n 2, 1) := by decide +kernel
theorem dX4_raw_13 : decode cX4_raw 13 = .ok (.ifCond .ge 9, 3) := by decide +kernel
theorem dX4_raw_16 : decode cX4_raw 16 = .ok (.aload_n 0, 1) := by decide +kernel
theorem dX4_raw_17 : decode cX4_raw 17 = .ok (.iconst 4, 1) := by decide +kernel
theorem dX4_raw_18 : decode cX4_raw 18 = .ok (.invokevirtual 54, 3) := by decide +kernel
theorem dX4_raw_21 : decode cX4_raw 21 = .ok (.ireturn, 1) := by decide +kernel
theorem dX4_raw_22 : decode cX4_raw 22 = .ok (.iload_n 2, 1) := by decide +kernel
theorem dX4_raw_23 : decode cX4_raw 23 = .ok (.sipush 500, 3) := by decide +kernel
theorem dX4_raw_26 : decode cX4_raw 26 = .ok (.if_icmp .le 9, 3) := by decide +kernel
theorem dX4_raw_29 : decode cX4_raw 29 = .ok (.aload_n 0, 1) := by decide +kernel
theorem dX4_raw_30 : decode cX4_raw 30 = .ok (.iconst 5, 1) := by decide +kernel
theorem dX4_raw_31 : decode cX4_raw 31 = .ok (.invokevirtual 54, 3) := by decide +kernel
theorem dX4_raw_34 : decode cX4_raw 34 = .ok (.ireturn, 1) := by decide +kernel
theorem dX4_raw_35 : decode cX4_raw 35 = .ok (.aload_n 0, 1) := by decide +kernel
theorem dX4_raw_36 : decode cX4_raw 36 = .ok (.iconst 1, 1) := by decide +kernel
theorem dX4_raw_37 : decode cX4_raw 37 = .ok (.iload_n 2, 1) := by decide +kernel
theorem dX4_raw_38 : decode cX4_raw 38 = .ok (.invokevirtual 80, 3) := by decide +kernel
theorem dX4_raw_41 : decode cX4_raw 41 = .ok (.ifCond .ne 10, 3) := by decide +kernel
theorem dX4_raw_44 : decode cX4_raw 44 = .ok (.aload_n 0, 1) := by decide +kernel
theorem dX4_raw_45 : decode cX4_raw 45 = .ok (.bipush 8, 2) := by decide +kernel
theorem dX4_raw_47 : decode cX4_raw 47 = .ok (.invokevirtual 54, 3) := by decide +kernel
theorem dX4_raw_50 : decode cX4_raw 50 = .ok (.ireturn, 1) := by decide +kernel
theorem dX4_raw_51 : decode cX4_raw 51 = .ok (.aload_n 0, 1) := by decide +kernel
theorem dX4_raw_52 : decode cX4_raw 52 = .ok (.iload_n 1, 1) := by decide +kernel
theorem dX4_raw_53 : decode cX4_raw 53 = .ok (.invokevirtual 84, 3) := by decide +kernel
theorem dX4_raw_56 : decode cX4_raw 56 = .ok (.astore_n 3, 1) := by decide +kernel
theorem dX4_raw_57 : decode cX4_raw 57 = .ok (.aload_n 3, 1) := by decide +kernel
theorem dX4_raw_58 : decode cX4_raw 58 = .ok (.getfield 88, 3) := by decide +kernel
theorem dX4_raw_61 : decode cX4_raw 61 = .ok (.iconst 0, 1) := by decide +kernel
theorem dX4_raw_62 : decode cX4_raw 62 = .ok (.iload_n 2, 1) := by decide +kernel
theorem dX4_raw_63 : decode cX4_raw 63 = .ok (.iconst 1, 1) := by decide +kernel
theorem dX4_raw_64 : decode cX4_raw 64 = .ok (.isub, 1) := by decide +kernel
theorem dX4_raw_65 : decode cX4_raw 65 = .ok (.invokevirtual 58, 3) := by decide +kernel
theorem dX4_raw_68 : decode cX4_raw 68 = .ok (.aload_n 0, 1) := by decide +kernel
theorem dX4_raw_69 : decode cX4_raw 69 = .ok (.aload_n 3, 1) := by decide +kernel
theorem dX4_raw_70 : decode cX4_raw 70 = .ok (.invokevirtual 77, 3) := by decide +kernel
theorem dX4_raw_73 : decode cX4_raw 73 = .ok (.aload_n 0, 1) := by decide +kernel
theorem dX4_raw_74 : decode cX4_raw 74 = .ok (.aload_n 0, 1) := by decide +kernel
theorem dX4_raw_75 : decode cX4_raw 75 = .ok (.getfield 40, 3) := by decide +kernel
theorem dX4_raw_78 : decode cX4_raw 78 = .ok (.iconst 1, 1) := by decide +kernel
theorem dX4_raw_79 : decode cX4_raw 79 = .ok (.isub, 1) := by decide +kernel
theorem dX4_raw_80 : decode cX4_raw 80 = .ok (.invokevirtual 62, 3) := by decide +kernel
theorem dX4_raw_83 : decode cX4_raw 83 = .ok (.ireturn, 1) := by decide +kernel
theorem dX4_see_0 : decode cX4_see 0 = .ok (.aload_n 0, 1) := by decide +kernel
theorem dX4_see_1 : decode cX4_see 1 = .ok (.iload_n 1, 1) := by decide +kernel
theorem dX4_see_2 : decode cX4_see 2 = .ok (.invokevirtual 89, 3) := by decide +kernel
theorem dX4_see_5 : decode cX4_see 5 = .ok (.astore_n 2, 1) := by decide +kernel
theorem dX4_see_6 : decode cX4_see 6 = .ok (.aload_n 0, 1) := by decide +kernel
theorem dX4_see_7 : decode cX4_see 7 = .ok (.aload_n 2, 1) := by decide +kernel
theorem dX4_see_8 : decode cX4_see 8 = .ok (.invokevirtual 92, 3) := by decide +kernel
theorem dX4_see_11 : decode cX4_see 11 = .ok (.istore_n 3, 1) := by decide +kernel
theorem dX4_see_12 : decode cX4_see 12 = .ok (.iload_n 3, 1) := by decide +kernel
theorem dX4_see_13 : decode cX4_see 13 = .ok (.ifCond .eq 9, 3) := by decide +kernel
theorem dX4_see_16 : decode cX4_see 16 = .ok (.aload_n 0, 1) := by decide +kernel
theorem dX4_see_17 : decode cX4_see 17 = .ok (.iload_n 3, 1) := by decide +kernel
theorem dX4_see_18 : decode cX4_see 18 = .ok (.invokevirtual 54, 3) := by decide +kernel
theorem dX4_see_21 : decode cX4_see 21 = .ok (.ireturn, 1) := by decide +kernel
theorem dX4_see_22 : decode cX4_see 22 = .ok (.aload_n 0, 1) := by decide +kernel
theorem dX4_see_23 : decode cX4_see 23 = .ok (.getfield 12, 3) := by decide +kernel
theorem dX4_see_26 : decode cX4_see 26 = .ok (.getfield 51, 3) := by decide +kernel
theorem dX4_see_29 : decode cX4_see 29 = .ok (.ifCond .ne 10, 3) := by decide +kernel
theorem dX4_see_32 : decode cX4_see 32 = .ok (.aload_n 0, 1) := by decide +kernel
theorem dX4_see_33 : decode cX4_see 33 = .ok (.bipush 9, 2) := by decide +kernel
theorem dX4_see_35 : decode cX4_see 35 = .ok (.invokevirtual 54, 3) := by decide +kernel
theorem dX4_see_38 : decode cX4_see 38 = .ok (.ireturn, 1) := by decide +kernel
theorem dX4_see_39 : decode cX4_see 39 = .ok (.aload_n 0, 1) := by decide +kernel
theorem dX4_see_40 : decode cX4_see 40 = .ok (.getfield 12, 3) := by decide +kernel
theorem dX4_see_43 : decode cX4_see 43 = .ok (.invokevirtual 96, 3) := by decide +kernel
theorem dX4_see_46 : decode cX4_see 46 = .ok (.aload_n 0, 1) := by decide +kernel
theorem dX4_see_47 : decode cX4_see 47 = .ok (.getfield 26, 3) := by decide +kernel
theorem dX4_see_50 : decode cX4_see 50 = .ok (.aload_n 2, 1) := by decide +kernel
theorem dX4_see_51 : decode cX4_see 51 = .ok (.getfield 100, 3) := by decide +kernel
theorem dX4_see_54 : decode cX4_see 54 = .ok (.invokevirtual 103, 3) := by decide +kernel
theorem dX4_see_57 : decode cX4_see 57 = .ok (.if_icmp .eq 10, 3) := by decide +kernel
theorem dX4_see_60 : decode cX4_see 60 = .ok (.aload_n 0, 1) := by decide +kernel
theorem dX4_see_61 : decode cX4_see 61 = .ok (.bipush 10, 2) := by decide +kernel
theorem dX4_see_63 : decode cX4_see 63 = .ok (.invokevirtual 54, 3) := by decide +kernel
theorem dX4_see_66 : decode cX4_see 66 = .ok (.ireturn, 1) := by decide +kernel
theorem dX4_see_67 : decode cX4_see 67 = .ok (.aload_n 0, 1) := by decide +kernel
theorem dX4_see_68 : decode cX4_see 68 = .ok (.iconst 0, 1) := by decide +kernel
theorem dX4_see_69 : decode cX4_see 69 = .ok (.iconst 0, 1) := by decide +kernel
theorem dX4_see_70 : decode cX4_see 70 = .ok (.invokevirtual 80, 3) := by decide +kernel
theorem dX4_see_73 : decode cX4_see 73 = .ok (.ifCond .ne 10, 3) := by decide +kernel
theorem dX4_see_76 : decode cX4_see 76 = .ok (.aload_n 0, 1) := by decide +kernel
theorem dX4_see_77 : decode cX4_see 77 = .ok (.bipush 8, 2) := by decide +kernel
theorem dX4_see_79 : decode cX4_see 79 = .ok (.invokevirtual 54, 3) := by decide +kernel
theorem dX4_see_82 : decode cX4_see 82 = .ok (.ireturn, 1) := by decide +kernel
theorem dX4_see_83 : decode cX4_see 83 = .ok (.aload_n 0, 1) := by decide +kernel
theorem dX4_see_84 : decode cX4_see 84 = .ok (.aload_n 0, 1) := by decide +kernel
theorem dX4_see_85 : decode cX4_see 85 = .ok (.getfield 12, 3) := by decide +kernel
theorem dX4_see_88 : decode cX4_see 88 = .ok (.aload_n 2, 1) := by decide +kernel
theorem dX4_see_89 : decode cX4_see 89 = .ok (.getfield 106, 3) := by decide +kernel
theorem dX4_see_92 : decode cX4_see 92 = .ok (.invokevirtual 69, 3) := by decide +kernel
theorem dX4_see_95 : decode cX4_see 95 = .ok (.aload_n 2, 1) := by decide +kernel
theorem dX4_see_96 : decode cX4_see 96 = .ok (.getfield 100, 3) := by decide +kernel
theorem dX4_see_99 : decode cX4_see 99 = .ok (.putfield 100, 3) := by decide +kernel
theorem dX4_see_102 : decode cX4_see 102 = .ok (.aload_n 0, 1) := by decide +kernel
theorem dX4_see_103 : decode cX4_see 103 = .ok (.getfield 12, 3) := by decide +kernel
theorem dX4_see_106 : decode cX4_see 106 = .ok (.iconst 0, 1) := by decide +kernel
theorem dX4_see_107 : decode cX4_see 107 = .ok (.putfield 51, 3) := by decide +kernel
theorem dX4_see_110 : decode cX4_see 110 = .ok (.aload_n 0, 1) := by decide +kernel
theorem dX4_see_111 : decode cX4_see 111 = .ok (.aload_n 0, 1) := by decide +kernel
theorem dX4_see_112 : decode cX4_see 112 = .ok (.getfield 40, 3) := by decide +kernel
theorem dX4_see_115 : decode cX4_see 115 = .ok (.iconst 1, 1) := by decide +kernel
theorem dX4_see_116 : decode cX4_see 116 = .ok (.isub, 1) := by decide +kernel
theorem dX4_see_117 : decode cX4_see 117 = .ok (.invokevirtual 62, 3) := by decide +kernel
theorem dX4_see_120 : decode cX4_see 120 = .ok (.ireturn, 1) := by decide +kernel
theorem dX4_turn_0 : decode cX4_turn 0 = .ok (.aload_n 0, 1) := by decide +kernel
theorem dX4_turn_1 : decode cX4_turn 1 = .ok (.iload_n 1, 1) := by decide +kernel
theorem dX4_turn_2 : decode cX4_turn 2 = .ok (.invokevirtual 89, 3) := by decide +kernel
theorem dX4_turn_5 : decode cX4_turn 5 = .ok (.astore_n 2, 1) := by decide +kernel
theorem dX4_turn_6 : decode cX4_turn 6 = .ok (.aload_n 0, 1) := by decide +kernel
theorem dX4_turn_7 : decode cX4_turn 7 = .ok (.aload_n 2, 1) := by decide +kernel
theorem dX4_turn_8 : decode cX4_turn 8 = .ok (.invokevirtual 92, 3) := by decide +kernel
theorem dX4_turn_11 : decode cX4_turn 11 = .ok (.istore_n 3, 1) := by decide +kernel
theorem dX4_turn_12 : decode cX4_turn 12 = .ok (.iload_n 3, 1) := by decide +kernel
theorem dX4_turn_13 : decode cX4_turn 13 = .ok (.ifCond .eq 9, 3) := by decide +kernel
theorem dX4_turn_16 : decode cX4_turn 16 = .ok (.aload_n 0, 1) := by decide +kernel
theorem dX4_turn_17 : decode cX4_turn 17 = .ok (.iload_n 3, 1) := by decide +kernel
theorem dX4_turn_18 : decode cX4_turn 18 = .ok (.invokevirtual 54, 3) := by decide +kernel
theorem dX4_turn_21 : decode cX4_turn 21 = .ok (.ireturn, 1) := by decide +kernel
theorem dX4_turn_22 : decode cX4_turn 22 = .ok (.aload_n 2, 1) := by decide +kernel
theorem dX4_turn_23 : decode cX4_turn 23 = .ok (.getfield 88, 3) := by decide +kernel
theorem dX4_turn_26 : decode cX4_turn 26 = .ok (.getfield 51, 3) := by decide +kernel
theorem dX4_turn_29 : decode cX4_turn 29 = .ok (.iconst 2, 1) := by decide +kernel
theorem dX4_turn_30 : decode cX4_turn 30 = .ok (.if_icmp .ge 10, 3) := by decide +kernel
theorem dX4_turn_33 : decode cX4_turn 33 = .ok (.aload_n 0, 1) := by decide +kernel
theorem dX4_turn_34 : decode cX4_turn 34 = .ok (.bipush 9, 2) := by decide +kernel
theorem dX4_turn_36 : decode cX4_turn 36 = .ok (.invokevirtual 54, 3) := by decide +kernel
theorem dX4_turn_39 : decode cX4_turn 39 = .ok (.ireturn, 1) := by decide +kernel
theorem dX4_turn_40 : decode cX4_turn 40 = .ok (.aload_n 0, 1) := by decide +kernel
theorem dX4_turn_41 : decode cX4_turn 41 = .ok (.iconst 1, 1) := by decide +kernel
theorem dX4_turn_42 : decode cX4_turn 42 = .ok (.aload_n 0, 1) := by decide +kernel
theorem dX4_turn_43 : decode cX4_turn 43 = .ok (.getfield 26, 3) := by decide +kernel
theorem dX4_turn_46 : decode cX4_turn 46 = .ok (.aload_n 2, 1) := by decide +kernel
theorem dX4_turn_47 : decode cX4_turn 47 = .ok (.getfield 100, 3) := by decide +kernel
theorem dX4_turn_50 : decode cX4_turn 50 = .ok (.invokevirtual 103, 3) := by decide +kernel
theorem dX4_turn_53 : decode cX4_turn 53 = .ok (.invokevirtual 80, 3) := by decide +kernel
theorem dX4_turn_56 : decode cX4_turn 56 = .ok (.ifCond .ne 10, 3) := by decide +kernel
theorem dX4_turn_59 : decode cX4_turn 59 = .ok (.aload_n 0, 1) := by decide +kernel
theorem dX4_turn_60 : decode cX4_turn 60 = .ok (.bipush 8, 2) := by decide +kernel
theorem dX4_turn_62 : decode cX4_turn 62 = .ok (.invokevirtual 54, 3) := by decide +kernel
theorem dX4_turn_65 : decode cX4_turn 65 = .ok (.ireturn, 1) := by decide +kernel
theorem dX4_turn_66 : decode cX4_turn 66 = .ok (.aload_n 0, 1) := by decide +kernel
theorem dX4_turn_67 : decode cX4_turn 67 = .ok (.aload_n 2, 1) := by decide +kernel
theorem dX4_turn_68 : decode cX4_turn 68 = .ok (.invokevirtual 109, 3) := by decide +kernel
theorem dX4_turn_71 : decode cX4_turn 71 = .ok (.aload_n 0, 1) := by decide +kernel
theorem dX4_turn_72 : decode cX4_turn 72 = .ok (.aload_n 2, 1) := by decide +kernel
theorem dX4_turn_73 : decode cX4_turn 73 = .ok (.getfield 88, 3) := by decide +kernel
theorem dX4_turn_76 : decode cX4_turn 76 = .ok (.aload_n 2, 1) := by decide +kernel
theorem dX4_turn_77 : decode cX4_turn 77 = .ok (.getfield 106, 3) := by decide +kernel
theorem dX4_turn_80 : decode cX4_turn 80 = .ok (.invokevirtual 69, 3) := by decide +kernel
theorem dX4_turn_83 : decode cX4_turn 83 = .ok (.astore 4, 2) := by decide +kernel
theorem dX4_turn_85 : decode cX4_turn 85 = .ok (.aload 4, 2) := by decide +kernel
theorem dX4_turn_87 : decode cX4_turn 87 = .ok (.getfield 88, 3) := by decide +kernel
theorem dX4_turn_90 : decode cX4_turn 90 = .ok (.invokevirtual 112, 3) := by decide +kernel
theorem dX4_turn_93 : decode cX4_turn 93 = .ok (.aload_n 0, 1) := by decide +kernel
theorem dX4_turn_94 : decode cX4_turn 94 = .ok (.aload 4, 2) := by decide +kernel
theorem dX4_turn_96 : decode cX4_turn 96 = .ok (.invokevirtual 77, 3) := by decide +kernel
theorem dX4_turn_99 : decode cX4_turn 99 = .ok (.aload_n 0, 1) := by decide +kernel
theorem dX4_turn_100 : decode cX4_turn 100 = .ok (.aload 4, 2) := by decide +kernel
theorem dX4_turn_102 : decode cX4_turn 102 = .ok (.invokevirtual 115, 3) := by decide +kernel
theorem dX4_turn_105 : decode cX4_turn 105 = .ok (.aload_n 0, 1) := by decide +kernel
theorem dX4_turn_106 : decode cX4_turn 106 = .ok (.aload_n 0, 1) := by decide +kernel
theorem dX4_turn_107 : decode cX4_turn 107 = .ok (.getfield 40, 3) := by decide +kernel
theorem dX4_turn_110 : decode cX4_turn 110 = .ok (.iconst 1, 1) := by decide +kernel
theorem dX4_turn_111 : decode cX4_turn 111 = .ok (.isub, 1) := by decide +kernel
theorem dX4_turn_112 : decode cX4_turn 112 = .ok (.invokevirtual 62, 3) := by decide +kernel
theorem dX4_turn_115 : decode cX4_turn 115 = .ok (.ireturn, 1) := by decide +kernel
theorem dX4_cut_0 : decode cX4_cut 0 = .ok (.aload_n 0, 1) := by decide +kernel
theorem dX4_cut_1 : decode cX4_cut 1 = .ok (.iload_n 1, 1) := by decide +kernel
theorem dX4_cut_2 : decode cX4_cut 2 = .ok (.invokevirtual 89, 3) := by decide +kernel
theorem dX4_cut_5 : decode cX4_cut 5 = .ok (.astore_n 2, 1) := by decide +kernel
theorem dX4_cut_6 : decode cX4_cut 6 = .ok (.aload_n 0, 1) := by decide +kernel
theorem dX4_cut_7 : decode cX4_cut 7 = .ok (.aload_n 2, 1) := by decide +kernel
theorem dX4_cut_8 : decode cX4_cut 8 = .ok (.invokevirtual 92, 3) := by decide +kernel
theorem dX4_cut_11 : decode cX4_cut 11 = .ok (.istore_n 3, 1) := by decide +kernel
theorem dX4_cut_12 : decode cX4_cut 12 = .ok (.iload_n 3, 1) := by decide +kernel
theorem dX4_cut_13 : decode cX4_cut 13 = .ok (.ifCond .eq 9, 3) := by decide +kernel
theorem dX4_cut_16 : decode cX4_cut 16 = .ok (.aload_n 0, 1) := by decide +kernel
theorem dX4_cut_17 : decode cX4_cut 17 = .ok (.iload_n 3, 1) := by decide +kernel
theorem dX4_cut_18 : decode cX4_cut 18 = .ok (.invokevirtual 54, 3) := by decide +kernel
theorem dX4_cut_21 : decode cX4_cut 21 = .ok (.ireturn, 1) := by decide +kernel
theorem dX4_cut_22 : decode cX4_cut 22 = .ok (.aload_n 0, 1) := by decide +kernel
theorem dX4_cut_23 : decode cX4_cut 23 = .ok (.getfield 12, 3) := by decide +kernel
theorem dX4_cut_26 : decode cX4_cut 26 = .ok (.getfield 51, 3) := by decide +kernel
theorem dX4_cut_29 : decode cX4_cut 29 = .ok (.aload_n 2, 1) := by decide +kernel
theorem dX4_cut_30 : decode cX4_cut 30 = .ok (.getfield 88, 3) := by decide +kernel
theorem dX4_cut_33 : decode cX4_cut 33 = .ok (.getfield 51, 3) := by decide +kernel
theorem dX4_cut_36 : decode cX4_cut 36 = .ok (.if_icmp .eq 10, 3) := by decide +kernel
theorem dX4_cut_39 : decode cX4_cut 39 = .ok (.aload_n 0, 1) := by decide +kernel
theorem dX4_cut_40 : decode cX4_cut 40 = .ok (.bipush 9, 2) := by decide +kernel
theorem dX4_cut_42 : decode cX4_cut 42 = .ok (.invokevirtual 54, 3) := by decide +kernel
theorem dX4_cut_45 : decode cX4_cut 45 = .ok (.ireturn, 1) := by decide +kernel
theorem dX4_cut_46 : decode cX4_cut 46 = .ok (.aload_n 0, 1) := by decide +kernel
theorem dX4_cut_47 : decode cX4_cut 47 = .ok (.getfield 12, 3) := by decide +kernel
theorem dX4_cut_50 : decode cX4_cut 50 = .ok (.invokevirtual 96, 3) := by decide +kernel
theorem dX4_cut_53 : decode cX4_cut 53 = .ok (.istore 4, 2) := by decide +kernel
theorem dX4_cut_55 : decode cX4_cut 55 = .ok (.iload 4, 2) := by decide +kernel
theorem dX4_cut_57 : decode cX4_cut 57 = .ok (.sipush 500, 3) := by decide +kernel
theorem dX4_cut_60 : decode cX4_cut 60 = .ok (.if_icmp .le 9, 3) := by decide +kernel
theorem dX4_cut_63 : decode cX4_cut 63 = .ok (.aload_n 0, 1) := by decide +kernel
theorem dX4_cut_64 : decode cX4_cut 64 = .ok (.iconst 5, 1) := by decide +kernel
theorem dX4_cut_65 : decode cX4_cut 65 = .ok (.invokevirtual 54, 3) := by decide +kernel
theorem dX4_cut_68 : decode cX4_cut 68 = .ok (.ireturn, 1) := by decide +kernel
theorem dX4_cut_69 : decode cX4_cut 69 = .ok (.aload_n 0, 1) := by decide +kernel
theorem dX4_cut_70 : decode cX4_cut 70 = .ok (.aload_n 2, 1) := by decide +kernel
theorem dX4_cut_71 : decode cX4_cut 71 = .ok (.invokevirtual 118, 3) := by decide +kernel
theorem dX4_cut_74 : decode cX4_cut 74 = .ok (.istore 5, 2) := by decide +kernel
theorem dX4_cut_76 : decode cX4_cut 76 = .ok (.iload 5, 2) := by decide +kernel
theorem dX4_cut_78 : decode cX4_cut 78 = .ok (.iconst (-1), 1) := by decide +kernel
theorem dX4_cut_79 : decode cX4_cut 79 = .ok (.if_icmp .eq 10, 3) := by decide +kernel
theorem dX4_cut_82 : decode cX4_cut 82 = .ok (.aload_n 0, 1) := by decide +kernel
theorem dX4_cut_83 : decode cX4_cut 83 = .ok (.iload 5, 2) := by decide +kernel
theorem dX4_cut_85 : decode cX4_cut 85 = .ok (.invokevirtual 121, 3) := by decide +kernel
theorem dX4_cut_88 : decode cX4_cut 88 = .ok (.ireturn, 1) := by decide +kernel
theorem dX4_cut_89 : decode cX4_cut 89 = .ok (.aload_n 0, 1) := by decide +kernel
theorem dX4_cut_90 : decode cX4_cut 90 = .ok (.iconst 1, 1) := by decide +kernel
theorem dX4_cut_91 : decode cX4_cut 91 = .ok (.iload 4, 2) := by decide +kernel
theorem dX4_cut_93 : decode cX4_cut 93 = .ok (.invokevirtual 80, 3) := by decide +kernel
theorem dX4_cut_96 : decode cX4_cut 96 = .ok (.ifCond .ne 10, 3) := by decide +kernel
theorem dX4_cut_99 : decode cX4_cut 99 = .ok (.aload_n 0, 1) := by decide +kernel
theorem dX4_cut_100 : decode cX4_cut 100 = .ok (.bipush 8, 2) := by decide +kernel
theorem dX4_cut_102 : decode cX4_cut 102 = .ok (.invokevirtual 54, 3) := by decide +kernel
theorem dX4_cut_105 : decode cX4_cut 105 = .ok (.ireturn, 1) := by decide +kernel
theorem dX4_cut_106 : decode cX4_cut 106 = .ok (.aload_n 0, 1) := by decide +kernel
theorem dX4_cut_107 : decode cX4_cut 107 = .ok (.aload_n 0, 1) := by decide +kernel
theorem dX4_cut_108 : decode cX4_cut 108 = .ok (.getfield 12, 3) := by decide +kernel
theorem dX4_cut_111 : decode cX4_cut 111 = .ok (.aload_n 2, 1) := by decide +kernel
theorem dX4_cut_112 : decode cX4_cut 112 = .ok (.getfield 106, 3) := by decide +kernel
theorem dX4_cut_115 : decode cX4_cut 115 = .ok (.invokevirtual 69, 3) := by decide +kernel
theorem dX4_cut_118 : decode cX4_cut 118 = .ok (.astore 6, 2) := by decide +kernel
theorem dX4_cut_120 : decode cX4_cut 120 = .ok (.aload_n 0, 1) := by decide +kernel
theorem dX4_cut_121 : decode cX4_cut 121 = .ok (.aload 6, 2) := by decide +kernel
theorem dX4_cut_123 : decode cX4_cut 123 = .ok (.invokevirtual 77, 3) := by decide +kernel
theorem dX4_cut_126 : decode cX4_cut 126 = .ok (.aload_n 0, 1) := by decide +kernel
theorem dX4_cut_127 : decode cX4_cut 127 = .ok (.aload 6, 2) := by decide +kernel
theorem dX4_cut_129 : decode cX4_cut 129 = .ok (.invokevirtual 115, 3) := by decide +kernel
theorem dX4_cut_132 : decode cX4_cut 132 = .ok (.aload_n 0, 1) := by decide +kernel
theorem dX4_cut_133 : decode cX4_cut 133 = .ok (.getfield 12, 3) := by decide +kernel
theorem dX4_cut_136 : decode cX4_cut 136 = .ok (.iconst 0, 1) := by decide +kernel
theorem dX4_cut_137 : decode cX4_cut 137 = .ok (.putfield 51, 3) := by decide +kernel
theorem dX4_cut_140 : decode cX4_cut 140 = .ok (.aload_n 0, 1) := by decide +kernel
theorem dX4_cut_141 : decode cX4_cut 141 = .ok (.aload_n 0, 1) := by decide +kernel
theorem dX4_cut_142 : decode cX4_cut 142 = .ok (.getfield 40, 3) := by decide +kernel
theorem dX4_cut_145 : decode cX4_cut 145 = .ok (.iconst 1, 1) := by decide +kernel
theorem dX4_cut_146 : decode cX4_cut 146 = .ok (.isub, 1) := by decide +kernel
theorem dX4_cut_147 : decode cX4_cut 147 = .ok (.invokevirtual 62, 3) := by decide +kernel
theorem dX4_cut_150 : decode cX4_cut 150 = .ok (.ireturn, 1) := by decide +kernel
theorem dX4_deep_0 : decode cX4_deep 0 = .ok (.aload_n 0, 1) := by decide +kernel
theorem dX4_deep_1 : decode cX4_deep 1 = .ok (.iload_n 1, 1) := by decide +kernel
theorem dX4_deep_2 : decode cX4_deep 2 = .ok (.invokevirtual 89, 3) := by decide +kernel
theorem dX4_deep_5 : decode cX4_deep 5 = .ok (.astore_n 2, 1) := by decide +kernel
theorem dX4_deep_6 : decode cX4_deep 6 = .ok (.aload_n 0, 1) := by decide +kernel
theorem dX4_deep_7 : decode cX4_deep 7 = .ok (.aload_n 2, 1) := by decide +kernel
theorem dX4_deep_8 : decode cX4_deep 8 = .ok (.invokevirtual 124, 3) := by decide +kernel
theorem dX4_deep_11 : decode cX4_deep 11 = .ok (.istore_n 3, 1) := by decide +kernel
theorem dX4_deep_12 : decode cX4_deep 12 = .ok (.iload_n 3, 1) := by decide +kernel
theorem dX4_deep_13 : decode cX4_deep 13 = .ok (.ifCond .eq 9, 3) := by decide +kernel
theorem dX4_deep_16 : decode cX4_deep 16 = .ok (.aload_n 0, 1) := by decide +kernel
theorem dX4_deep_17 : decode cX4_deep 17 = .ok (.iload_n 3, 1) := by decide +kernel
theorem dX4_deep_18 : decode cX4_deep 18 = .ok (.invokevirtual 54, 3) := by decide +kernel
theorem dX4_deep_21 : decode cX4_deep 21 = .ok (.ireturn, 1) := by decide +kernel
theorem dX4_deep_22 : decode cX4_deep 22 = .ok (.aload_n 0, 1) := by decide +kernel
theorem dX4_deep_23 : decode cX4_deep 23 = .ok (.aload_n 2, 1) := by decide +kernel
theorem dX4_deep_24 : decode cX4_deep 24 = .ok (.getfield 88, 3) := by decide +kernel
theorem dX4_deep_27 : decode cX4_deep 27 = .ok (.iconst 4, 1) := by decide +kernel
theorem dX4_deep_28 : decode cX4_deep 28 = .ok (.invokevirtual 69, 3) := by decide +kernel
theorem dX4_deep_31 : decode cX4_deep 31 = .ok (.astore 4, 2) := by decide +kernel
theorem dX4_deep_33 : decode cX4_deep 33 = .ok (.aload_n 0, 1) := by decide +kernel
theorem dX4_deep_34 : decode cX4_deep 34 = .ok (.aload 4, 2) := by decide +kernel
theorem dX4_deep_36 : decode cX4_deep 36 = .ok (.invokevirtual 73, 3) := by decide +kernel
theorem dX4_deep_39 : decode cX4_deep 39 = .ok (.aload_n 0, 1) := by decide +kernel
theorem dX4_deep_40 : decode cX4_deep 40 = .ok (.getfield 26, 3) := by decide +kernel
theorem dX4_deep_43 : decode cX4_deep 43 = .ok (.aload_n 2, 1) := by decide +kernel
theorem dX4_deep_44 : decode cX4_deep 44 = .ok (.getfield 100, 3) := by decide +kernel
theorem dX4_deep_47 : decode cX4_deep 47 = .ok (.invokevirtual 127, 3) := by decide +kernel
theorem dX4_deep_50 : decode cX4_deep 50 = .ok (.istore 5, 2) := by decide +kernel
theorem dX4_deep_52 : decode cX4_deep 52 = .ok (.iconst 0, 1) := by decide +kernel
theorem dX4_deep_53 : decode cX4_deep 53 = .ok (.istore 6, 2) := by decide +kernel
theorem dX4_deep_55 : decode cX4_deep 55 = .ok (.iload 6, 2) := by decide +kernel
theorem dX4_deep_57 : decode cX4_deep 57 = .ok (.aload 4, 2) := by decide +kernel
theorem dX4_deep_59 : decode cX4_deep 59 = .ok (.invokevirtual 130, 3) := by decide +kernel
theorem dX4_deep_62 : decode cX4_deep 62 = .ok (.if_icmp .ge 60, 3) := by decide +kernel
theorem dX4_deep_65 : decode cX4_deep 65 = .ok (.aload 4, 2) := by decide +kernel
theorem dX4_deep_67 : decode cX4_deep 67 = .ok (.getfield 133, 3) := by decide +kernel
theorem dX4_deep_70 : decode cX4_deep 70 = .ok (.iload 6, 2) := by decide +kernel
theorem dX4_deep_72 : decode cX4_deep 72 = .ok (.iaload, 1) := by decide +kernel
theorem dX4_deep_73 : decode cX4_deep 73 = .ok (.istore 7, 2) := by decide +kernel
theorem dX4_deep_75 : decode cX4_deep 75 = .ok (.aload_n 0, 1) := by decide +kernel
theorem dX4_deep_76 : decode cX4_deep 76 = .ok (.getfield 26, 3) := by decide +kernel
theorem dX4_deep_79 : decode cX4_deep 79 = .ok (.iload 5, 2) := by decide +kernel
theorem dX4_deep_81 : decode cX4_deep 81 = .ok (.aload_n 0, 1) := by decide +kernel
theorem dX4_deep_82 : decode cX4_deep 82 = .ok (.getfield 26, 3) := by decide +kernel
theorem dX4_deep_85 : decode cX4_deep 85 = .ok (.iload 7, 2) := by decide +kernel
theorem dX4_deep_87 : decode cX4_deep 87 = .ok (.invokevirtual 127, 3) := by decide +kernel
theorem dX4_deep_90 : decode cX4_deep 90 = .ok (.aload_n 0, 1) := by decide +kernel
theorem dX4_deep_91 : decode cX4_deep 91 = .ok (.getfield 26, 3) := by decide +kernel
theorem dX4_deep_94 : decode cX4_deep 94 = .ok (.iload 7, 2) := by decide +kernel
theorem dX4_deep_96 : decode cX4_deep 96 = .ok (.invokevirtual 103, 3) := by decide +kernel
theorem dX4_deep_99 : decode cX4_deep 99 = .ok (.invokevirtual 136, 3) := by decide +kernel
theorem dX4_deep_102 : decode cX4_deep 102 = .ok (.iload 5, 2) := by decide +kernel
theorem dX4_deep_104 : decode cX4_deep 104 = .ok (.aload_n 0, 1) := by decide +kernel
theorem dX4_deep_105 : decode cX4_deep 105 = .ok (.getfield 26, 3) := by decide +kernel
theorem dX4_deep_108 : decode cX4_deep 108 = .ok (.iload 7, 2) := by decide +kernel
theorem dX4_deep_110 : decode cX4_deep 110 = .ok (.invokevirtual 103, 3) := by decide +kernel
theorem dX4_deep_113 : decode cX4_deep 113 = .ok (.iadd, 1) := by decide +kernel
theorem dX4_deep_114 : decode cX4_deep 114 = .ok (.istore 5, 2) := by decide +kernel
theorem dX4_deep_116 : decode cX4_deep 116 = .ok (.iinc 6 1, 3) := by decide +kernel
theorem dX4_deep_119 : decode cX4_deep 119 = .ok (.goto (-64), 3) := by decide +kernel
theorem dX4_deep_122 : decode cX4_deep 122 = .ok (.aload_n 0, 1) := by decide +kernel
theorem dX4_deep_123 : decode cX4_deep 123 = .ok (.aload_n 0, 1) := by decide +kernel
theorem dX4_deep_124 : decode cX4_deep 124 = .ok (.getfield 40, 3) := by decide +kernel
theorem dX4_deep_127 : decode cX4_deep 127 = .ok (.iconst 1, 1) := by decide +kernel
theorem dX4_deep_128 : decode cX4_deep 128 = .ok (.isub, 1) := by decide +kernel
theorem dX4_deep_129 : decode cX4_deep 129 = .ok (.invokevirtual 62, 3) := by decide +kernel
theorem dX4_deep_132 : decode cX4_deep 132 = .ok (.ireturn, 1) := by decide +kernel
theorem dX4_flat_0 : decode cX4_flat 0 = .ok (.aload_n 0, 1) := by decide +kernel
theorem dX4_flat_1 : decode cX4_flat 1 = .ok (.iload_n 1, 1) := by decide +kernel
theorem dX4_flat_2 : decode cX4_flat 2 = .ok (.invokevirtual 89, 3) := by decide +kernel
theorem dX4_flat_5 : decode cX4_flat 5 = .ok (.astore_n 2, 1) := by decide +kernel
theorem dX4_flat_6 : decode cX4_flat 6 = .ok (.aload_n 0, 1) := by decide +kernel
theorem dX4_flat_7 : decode cX4_flat 7 = .ok (.aload_n 2, 1) := by decide +kernel
theorem dX4_flat_8 : decode cX4_flat 8 = .ok (.invokevirtual 140, 3) := by decide +kernel
theorem dX4_flat_11 : decode cX4_flat 11 = .ok (.istore_n 3, 1) := by decide +kernel
theorem dX4_flat_12 : decode cX4_flat 12 = .ok (.iload_n 3, 1) := by decide +kernel
theorem dX4_flat_13 : decode cX4_flat 13 = .ok (.ifCond .eq 9, 3) := by decide +kernel
theorem dX4_flat_16 : decode cX4_flat 16 = .ok (.aload_n 0, 1) := by decide +kernel
theorem dX4_flat_17 : decode cX4_flat 17 = .ok (.iload_n 3, 1) := by decide +kernel
theorem dX4_flat_18 : decode cX4_flat 18 = .ok (.invokevirtual 54, 3) := by decide +kernel
theorem dX4_flat_21 : decode cX4_flat 21 = .ok (.ireturn, 1) := by decide +kernel
theorem dX4_flat_22 : decode cX4_flat 22 = .ok (.aload_n 0, 1) := by decide +kernel
theorem dX4_flat_23 : decode cX4_flat 23 = .ok (.aload_n 2, 1) := by decide +kernel
theorem dX4_flat_24 : decode cX4_flat 24 = .ok (.getfield 88, 3) := by decide +kernel
theorem dX4_flat_27 : decode cX4_flat 27 = .ok (.iconst 1, 1) := by decide +kernel
theorem dX4_flat_28 : decode cX4_flat 28 = .ok (.invokevirtual 69, 3) := by decide +kernel
theorem dX4_flat_31 : decode cX4_flat 31 = .ok (.astore 4, 2) := by decide +kernel
theorem dX4_flat_33 : decode cX4_flat 33 = .ok (.aload_n 0, 1) := by decide +kernel
theorem dX4_flat_34 : decode cX4_flat 34 = .ok (.aload 4, 2) := by decide +kernel
theorem dX4_flat_36 : decode cX4_flat 36 = .ok (.invokevirtual 77, 3) := by decide +kernel
theorem dX4_flat_39 : decode cX4_flat 39 = .ok (.aload_n 0, 1) := by decide +kernel
theorem dX4_flat_40 : decode cX4_flat 40 = .ok (.getfield 26, 3) := by decide +kernel
theorem dX4_flat_43 : decode cX4_flat 43 = .ok (.aload 4, 2) := by decide +kernel
theorem dX4_flat_45 : decode cX4_flat 45 = .ok (.getfield 100, 3) := by decide +kernel
theorem dX4_flat_48 : decode cX4_flat 48 = .ok (.invokevirtual 127, 3) := by decide +kernel
theorem dX4_flat_51 : decode cX4_flat 51 = .ok (.istore 5, 2) := by decide +kernel
theorem dX4_flat_53 : decode cX4_flat 53 = .ok (.iconst 0, 1) := by decide +kernel
theorem dX4_flat_54 : decode cX4_flat 54 = .ok (.istore 6, 2) := by decide +kernel
theorem dX4_flat_56 : decode cX4_flat 56 = .ok (.iload 6, 2) := by decide +kernel
theorem dX4_flat_58 : decode cX4_flat 58 = .ok (.aload_n 2, 1) := by decide +kernel
theorem dX4_flat_59 : decode cX4_flat 59 = .ok (.invokevirtual 130, 3) := by decide +kernel
theorem dX4_flat_62 : decode cX4_flat 62 = .ok (.if_icmp .ge 59, 3) := by decide +kernel
theorem dX4_flat_65 : decode cX4_flat 65 = .ok (.aload_n 2, 1) := by decide +kernel
theorem dX4_flat_66 : decode cX4_flat 66 = .ok (.getfield 133, 3) := by decide +kernel
theorem dX4_flat_69 : decode cX4_flat 69 = .ok (.iload 6, 2) := by decide +kernel
theorem dX4_flat_71 : decode cX4_flat 71 = .ok (.iaload, 1) := by decide +kernel
theorem dX4_flat_72 : decode cX4_flat 72 = .ok (.istore 7, 2) := by decide +kernel
theorem dX4_flat_74 : decode cX4_flat 74 = .ok (.aload_n 0, 1) := by decide +kernel
theorem dX4_flat_75 : decode cX4_flat 75 = .ok (.getfield 26, 3) := by decide +kernel
theorem dX4_flat_78 : decode cX4_flat 78 = .ok (.aload_n 0, 1) := by decide +kernel
theorem dX4_flat_79 : decode cX4_flat 79 = .ok (.getfield 26, 3) := by decide +kernel
theorem dX4_flat_82 : decode cX4_flat 82 = .ok (.iload 7, 2) := by decide +kernel
theorem dX4_flat_84 : decode cX4_flat 84 = .ok (.invokevirtual 127, 3) := by decide +kernel
theorem dX4_flat_87 : decode cX4_flat 87 = .ok (.iload 5, 2) := by decide +kernel
theorem dX4_flat_89 : decode cX4_flat 89 = .ok (.aload_n 0, 1) := by decide +kernel
theorem dX4_flat_90 : decode cX4_flat 90 = .ok (.getfield 26, 3) := by decide +kernel
theorem dX4_flat_93 : decode cX4_flat 93 = .ok (.iload 7, 2) := by decide +kernel
theorem dX4_flat_95 : decode cX4_flat 95 = .ok (.invokevirtual 103, 3) := by decide +kernel
theorem dX4_flat_98 : decode cX4_flat 98 = .ok (.invokevirtual 136, 3) := by decide +kernel
theorem dX4_flat_101 : decode cX4_flat 101 = .ok (.iload 5, 2) := by decide +kernel
theorem dX4_flat_103 : decode cX4_flat 103 = .ok (.aload_n 0, 1) := by decide +kernel
theorem dX4_flat_104 : decode cX4_flat 104 = .ok (.getfield 26, 3) := by decide +kernel
theorem dX4_flat_107 : decode cX4_flat 107 = .ok (.iload 7, 2) := by decide +kernel
theorem dX4_flat_109 : decode cX4_flat 109 = .ok (.invokevirtual 103, 3) := by decide +kernel
theorem dX4_flat_112 : decode cX4_flat 112 = .ok (.iadd, 1) := by decide +kernel
theorem dX4_flat_113 : decode cX4_flat 113 = .ok (.istore 5, 2) := by decide +kernel
theorem dX4_flat_115 : decode cX4_flat 115 = .ok (.iinc 6 1, 3) := by decide +kernel
theorem dX4_flat_118 : decode cX4_flat 118 = .ok (.goto (-62), 3) := by decide +kernel
theorem dX4_flat_121 : decode cX4_flat 121 = .ok (.aload_n 0, 1) := by decide +kernel
theorem dX4_flat_122 : decode cX4_flat 122 = .ok (.aload_n 0, 1) := by decide +kernel
theorem dX4_flat_123 : decode cX4_flat 123 = .ok (.getfield 40, 3) := by decide +kernel
theorem dX4_flat_126 : decode cX4_flat 126 = .ok (.iconst 1, 1) := by decide +kernel
theorem dX4_flat_127 : decode cX4_flat 127 = .ok (.isub, 1) := by decide +kernel
theorem dX4_flat_128 : decode cX4_flat 128 = .ok (.invokevirtual 62, 3) := by decide +kernel
theorem dX4_flat_131 : decode cX4_flat 131 = .ok (.ireturn, 1) := by decide +kernel
theorem dX4_ragged_0 : decode cX4_ragged 0 = .ok (.aload_n 0, 1) := by decide +kernel
theorem dX4_ragged_1 : decode cX4_ragged 1 = .ok (.iload_n 1, 1) := by decide +kernel
theorem dX4_ragged_2 : decode cX4_ragged 2 = .ok (.invokevirtual 89, 3) := by decide +kernel
theorem dX4_ragged_5 : decode cX4_ragged 5 = .ok (.astore 4, 2) := by decide +kernel
theorem dX4_ragged_7 : decode cX4_ragged 7 = .ok (.aload_n 0, 1) := by decide +kernel
theorem dX4_ragged_8 : decode cX4_ragged 8 = .ok (.aload 4, 2) := by decide +kernel
theorem dX4_ragged_10 : decode cX4_ragged 10 = .ok (.iload_n 2, 1) := by decide +kernel
theorem dX4_ragged_11 : decode cX4_ragged 11 = .ok (.invokevirtual 143, 3) := by decide +kernel
theorem dX4_ragged_14 : decode cX4_ragged 14 = .ok (.istore 5, 2) := by decide +kernel
theorem dX4_ragged_16 : decode cX4_ragged 16 = .ok (.iload 5, 2) := by decide +kernel
theorem dX4_ragged_18 : decode cX4_ragged 18 = .ok (.ifCond .eq 10, 3) := by decide +kernel
theorem dX4_ragged_21 : decode cX4_ragged 21 = .ok (.aload_n 0, 1) := by decide +kernel
theorem dX4_ragged_22 : decode cX4_ragged 22 = .ok (.iload 5, 2) := by decide +kernel
theorem dX4_ragged_24 : decode cX4_ragged 24 = .ok (.invokevirtual 54, 3) := by decide +kernel
theorem dX4_ragged_27 : decode cX4_ragged 27 = .ok (.ireturn, 1) := by decide +kernel
theorem dX4_ragged_28 : decode cX4_ragged 28 = .ok (.iload_n 3, 1) := by decide +kernel
theorem dX4_ragged_29 : decode cX4_ragged 29 = .ok (.ifCond .ge 9, 3) := by decide +kernel
theorem dX4_ragged_32 : decode cX4_ragged 32 = .ok (.aload_n 0, 1) := by decide +kernel
theorem dX4_ragged_33 : decode cX4_ragged 33 = .ok (.iconst 4, 1) := by decide +kernel
theorem dX4_ragged_34 : decode cX4_ragged 34 = .ok (.invokevirtual 54, 3) := by decide +kernel
theorem dX4_ragged_37 : decode cX4_ragged 37 = .ok (.ireturn, 1) := by decide +kernel
theorem dX4_ragged_38 : decode cX4_ragged 38 = .ok (.iload_n 3, 1) := by decide +kernel
theorem dX4_ragged_39 : decode cX4_ragged 39 = .ok (.bipush 100, 2) := by decide +kernel
theorem dX4_ragged_41 : decode cX4_ragged 41 = .ok (.if_icmp .le 9, 3) := by decide +kernel
theorem dX4_ragged_44 : decode cX4_ragged 44 = .ok (.aload_n 0, 1) := by decide +kernel
theorem dX4_ragged_45 : decode cX4_ragged 45 = .ok (.iconst 5, 1) := by decide +kernel
theorem dX4_ragged_46 : decode cX4_ragged 46 = .ok (.invokevirtual 54, 3) := by decide +kernel
theorem dX4_ragged_49 : decode cX4_ragged 49 = .ok (.ireturn, 1) := by decide +kernel
theorem dX4_ragged_50 : decode cX4_ragged 50 = .ok (.aload_n 0, 1) := by decide +kernel
theorem dX4_ragged_51 : decode cX4_ragged 51 = .ok (.getfield 26, 3) := by decide +kernel
theorem dX4_ragged_54 : decode cX4_ragged 54 = .ok (.iconst 1, 1) := by decide +kernel
theorem dX4_ragged_55 : decode cX4_ragged 55 = .ok (.iload_n 3, 1) := by decide +kernel
theorem dX4_ragged_56 : decode cX4_ragged 56 = .ok (.invokevirtual 147, 3) := by decide +kernel
theorem dX4_ragged_59 : decode cX4_ragged 59 = .ok (.ifCond .ne 10, 3) := by decide +kernel
theorem dX4_ragged_62 : decode cX4_ragged 62 = .ok (.aload_n 0, 1) := by decide +kernel
theorem dX4_ragged_63 : decode cX4_ragged 63 = .ok (.bipush 8, 2) := by decide +kernel
theorem dX4_ragged_65 : decode cX4_ragged 65 = .ok (.invokevirtual 54, 3) := by decide +kernel
theorem dX4_ragged_68 : decode cX4_ragged 68 = .ok (.ireturn, 1) := by decide +kernel
theorem dX4_ragged_69 : decode cX4_ragged 69 = .ok (.aload 4, 2) := by decide +kernel
theorem dX4_ragged_71 : decode cX4_ragged 71 = .ok (.getfield 133, 3) := by decide +kernel
theorem dX4_ragged_74 : decode cX4_ragged 74 = .ok (.aload 4, 2) := by decide +kernel
theorem dX4_ragged_76 : decode cX4_ragged 76 = .ok (.getfield 88, 3) := by decide +kernel
theorem dX4_ragged_79 : decode cX4_ragged 79 = .ok (.iconst 0, 1) := by decide +kernel
theorem dX4_ragged_80 : decode cX4_ragged 80 = .ok (.iload_n 2, 1) := by decide +kernel
theorem dX4_ragged_81 : decode cX4_ragged 81 = .ok (.invokevirtual 150, 3) := by decide +kernel
theorem dX4_ragged_84 : decode cX4_ragged 84 = .ok (.aload_n 0, 1) := by decide +kernel
theorem dX4_ragged_85 : decode cX4_ragged 85 = .ok (.getfield 26, 3) := by decide +kernel
theorem dX4_ragged_88 : decode cX4_ragged 88 = .ok (.iload_n 3, 1) := by decide +kernel
theorem dX4_ragged_89 : decode cX4_ragged 89 = .ok (.iconst 1, 1) := by decide +kernel
theorem dX4_ragged_90 : decode cX4_ragged 90 = .ok (.invokevirtual 154, 3) := by decide +kernel
theorem dX4_ragged_93 : decode cX4_ragged 93 = .ok (.iastore, 1) := by decide +kernel
theorem dX4_ragged_94 : decode cX4_ragged 94 = .ok (.aload_n 0, 1) := by decide +kernel
theorem dX4_ragged_95 : decode cX4_ragged 95 = .ok (.iconst 1, 1) := by decide +kernel
theorem dX4_ragged_96 : decode cX4_ragged 96 = .ok (.invokevirtual 62, 3) := by decide +kernel
theorem dX4_ragged_99 : decode cX4_ragged 99 = .ok (.ireturn, 1) := by decide +kernel
theorem dX4_without_0 : decode cX4_without 0 = .ok (.aload_n 0, 1) := by decide +kernel
theorem dX4_without_1 : decode cX4_without 1 = .ok (.iload_n 1, 1) := by decide +kernel
theorem dX4_without_2 : decode cX4_without 2 = .ok (.invokevirtual 89, 3) := by decide +kernel
theorem dX4_without_5 : decode cX4_without 5 = .ok (.astore_n 3, 1) := by decide +kernel
theorem dX4_without_6 : decode cX4_without 6 = .ok (.aload_n 0, 1) := by decide +kernel
theorem dX4_without_7 : decode cX4_without 7 = .ok (.aload_n 3, 1) := by decide +kernel
theorem dX4_without_8 : decode cX4_without 8 = .ok (.iload_n 2, 1) := by decide +kernel
theorem dX4_without_9 : decode cX4_without 9 = .ok (.invokevirtual 143, 3) := by decide +kernel
theorem dX4_without_12 : decode cX4_without 12 = .ok (.istore 4, 2) := by decide +kernel
theorem dX4_without_14 : decode cX4_without 14 = .ok (.iload 4, 2) := by decide +kernel
theorem dX4_without_16 : decode cX4_without 16 = .ok (.ifCond .eq 10, 3) := by decide +kernel
theorem dX4_without_19 : decode cX4_without 19 = .ok (.aload_n 0, 1) := by decide +kernel
theorem dX4_without_20 : decode cX4_without 20 = .ok (.iload 4, 2) := by decide +kernel
theorem dX4_without_22 : decode cX4_without 22 = .ok (.invokevirtual 54, 3) := by decide +kernel
theorem dX4_without_25 : decode cX4_without 25 = .ok (.ireturn, 1) := by decide +kernel
theorem dX4_without_26 : decode cX4_without 26 = .ok (.aload_n 3, 1) := by decide +kernel
theorem dX4_without_27 : decode cX4_without 27 = .ok (.getfield 133, 3) := by decide +kernel
theorem dX4_without_30 : decode cX4_without 30 = .ok (.aload_n 3, 1) := by decide +kernel
theorem dX4_without_31 : decode cX4_without 31 = .ok (.getfield 88, 3) := by decide +kernel
theorem dX4_without_34 : decode cX4_without 34 = .ok (.iconst 0, 1) := by decide +kernel
theorem dX4_without_35 : decode cX4_without 35 = .ok (.iload_n 2, 1) := by decide +kernel
theorem dX4_without_36 : decode cX4_without 36 = .ok (.invokevirtual 150, 3) := by decide +kernel
theorem dX4_without_39 : decode cX4_without 39 = .ok (.iconst (-1), 1) := by decide +kernel
theorem dX4_without_40 : decode cX4_without 40 = .ok (.iastore, 1) := by decide +kernel
theorem dX4_without_41 : decode cX4_without 41 = .ok (.aload_n 0, 1) := by decide +kernel
theorem dX4_without_42 : decode cX4_without 42 = .ok (.iconst 1, 1) := by decide +kernel
theorem dX4_without_43 : decode cX4_without 43 = .ok (.invokevirtual 62, 3) := by decide +kernel
theorem dX4_without_46 : decode cX4_without 46 = .ok (.ireturn, 1) := by decide +kernel
theorem dX4_tie_0 : decode cX4_tie 0 = .ok (.aload_n 0, 1) := by decide +kernel
theorem dX4_tie_1 : decode cX4_tie 1 = .ok (.iload_n 1, 1) := by decide +kernel
theorem dX4_tie_2 : decode cX4_tie 2 = .ok (.invokevirtual 89, 3) := by decide +kernel
theorem dX4_tie_5 : decode cX4_tie 5 = .ok (.astore 5, 2) := by decide +kernel
theorem dX4_tie_7 : decode cX4_tie 7 = .ok (.aload_n 0, 1) := by decide +kernel
theorem dX4_tie_8 : decode cX4_tie 8 = .ok (.iload_n 3, 1) := by decide +kernel
theorem dX4_tie_9 : decode cX4_tie 9 = .ok (.invokevirtual 89, 3) := by decide +kernel
theorem dX4_tie_12 : decode cX4_tie 12 = .ok (.astore 6, 2) := by decide +kernel
theorem dX4_tie_14 : decode cX4_tie 14 = .ok (.aload 5, 2) := by decide +kernel
theorem dX4_tie_16 : decode cX4_tie 16 = .ok (.ifnull 8, 3) := by decide +kernel
theorem dX4_tie_19 : decode cX4_tie 19 = .ok (.aload 6, 2) := by decide +kernel
theorem dX4_tie_21 : decode cX4_tie 21 = .ok (.ifnonnull 10, 3) := by decide +kernel
theorem dX4_tie_24 : decode cX4_tie 24 = .ok (.aload_n 0, 1) := by decide +kernel
theorem dX4_tie_25 : decode cX4_tie 25 = .ok (.bipush 7, 2) := by decide +kernel
theorem dX4_tie_27 : decode cX4_tie 27 = .ok (.invokevirtual 54, 3) := by decide +kernel
theorem dX4_tie_30 : decode cX4_tie 30 = .ok (.ireturn, 1) := by decide +kernel
theorem dX4_tie_31 : decode cX4_tie 31 = .ok (.aload 5, 2) := by decide +kernel
theorem dX4_tie_33 : decode cX4_tie 33 = .ok (.getfield 106, 3) := by decide +kernel
theorem dX4_tie_36 : decode cX4_tie 36 = .ok (.iconst 4, 1) := by decide +kernel
theorem dX4_tie_37 : decode cX4_tie 37 = .ok (.if_icmp .ne 12, 3) := by decide +kernel
theorem dX4_tie_40 : decode cX4_tie 40 = .ok (.aload 6, 2) := by decide +kernel
theorem dX4_tie_42 : decode cX4_tie 42 = .ok (.getfield 106, 3) := by decide +kernel
theorem dX4_tie_45 : decode cX4_tie 45 = .ok (.iconst 4, 1) := by decide +kernel
theorem dX4_tie_46 : decode cX4_tie 46 = .ok (.if_icmp .eq 9, 3) := by decide +kernel
theorem dX4_tie_49 : decode cX4_tie 49 = .ok (.aload_n 0, 1) := by decide +kernel
theorem dX4_tie_50 : decode cX4_tie 50 = .ok (.iconst 2, 1) := by decide +kernel
theorem dX4_tie_51 : decode cX4_tie 51 = .ok (.invokevirtual 54, 3) := by decide +kernel
theorem dX4_tie_54 : decode cX4_tie 54 = .ok (.ireturn, 1) := by decide +kernel
theorem dX4_tie_55 : decode cX4_tie 55 = .ok (.aload 5, 2) := by decide +kernel
theorem dX4_tie_57 : decode cX4_tie 57 = .ok (.getfield 88, 3) := by decide +kernel
theorem dX4_tie_60 : decode cX4_tie 60 = .ok (.iconst 0, 1) := by decide +kernel
theorem dX4_tie_61 : decode cX4_tie 61 = .ok (.iload_n 2, 1) := by decide +kernel
theorem dX4_tie_62 : decode cX4_tie 62 = .ok (.invokevirtual 158, 3) := by decide +kernel
theorem dX4_tie_65 : decode cX4_tie 65 = .ok (.ifCond .ne 9, 3) := by decide +kernel
theorem dX4_tie_68 : decode cX4_tie 68 = .ok (.aload_n 0, 1) := by decide +kernel
theorem dX4_tie_69 : decode cX4_tie 69 = .ok (.iconst 0, 1) := by decide +kernel
theorem dX4_tie_70 : decode cX4_tie 70 = .ok (.invokevirtual 121, 3) := by decide +kernel
theorem dX4_tie_73 : decode cX4_tie 73 = .ok (.ireturn, 1) := by decide +kernel
theorem dX4_tie_74 : decode cX4_tie 74 = .ok (.aload 6, 2) := by decide +kernel
theorem dX4_tie_76 : decode cX4_tie 76 = .ok (.getfield 88, 3) := by decide +kernel
theorem dX4_tie_79 : decode cX4_tie 79 = .ok (.iconst 0, 1) := by decide +kernel
theorem dX4_tie_80 : decode cX4_tie 80 = .ok (.iload 4, 2) := by decide +kernel
theorem dX4_tie_82 : decode cX4_tie 82 = .ok (.invokevirtual 158, 3) := by decide +kernel
theorem dX4_tie_85 : decode cX4_tie 85 = .ok (.ifCond .ne 9, 3) := by decide +kernel
theorem dX4_tie_88 : decode cX4_tie 88 = .ok (.aload_n 0, 1) := by decide +kernel
theorem dX4_tie_89 : decode cX4_tie 89 = .ok (.iconst 1, 1) := by decide +kernel
theorem dX4_tie_90 : decode cX4_tie 90 = .ok (.invokevirtual 121, 3) := by decide +kernel
theorem dX4_tie_93 : decode cX4_tie 93 = .ok (.ireturn, 1) := by decide +kernel
theorem dX4_tie_94 : decode cX4_tie 94 = .ok (.aload 5, 2) := by decide +kernel
theorem dX4_tie_96 : decode cX4_tie 96 = .ok (.getfield 133, 3) := by decide +kernel
theorem dX4_tie_99 : decode cX4_tie 99 = .ok (.aload 5, 2) := by decide +kernel
theorem dX4_tie_101 : decode cX4_tie 101 = .ok (.getfield 88, 3) := by decide +kernel
theorem dX4_tie_104 : decode cX4_tie 104 = .ok (.iconst 0, 1) := by decide +kernel
theorem dX4_tie_105 : decode cX4_tie 105 = .ok (.iload_n 2, 1) := by decide +kernel
theorem dX4_tie_106 : decode cX4_tie 106 = .ok (.invokevirtual 150, 3) := by decide +kernel
theorem dX4_tie_109 : decode cX4_tie 109 = .ok (.aload 6, 2) := by decide +kernel
theorem dX4_tie_111 : decode cX4_tie 111 = .ok (.getfield 133, 3) := by decide +kernel
theorem dX4_tie_114 : decode cX4_tie 114 = .ok (.aload 6, 2) := by decide +kernel
theorem dX4_tie_116 : decode cX4_tie 116 = .ok (.getfield 88, 3) := by decide +kernel
theorem dX4_tie_119 : decode cX4_tie 119 = .ok (.iconst 0, 1) := by decide +kernel
theorem dX4_tie_120 : decode cX4_tie 120 = .ok (.iload 4, 2) := by decide +kernel
theorem dX4_tie_122 : decode cX4_tie 122 = .ok (.invokevirtual 150, 3) := by decide +kernel
theorem dX4_tie_125 : decode cX4_tie 125 = .ok (.iaload, 1) := by decide +kernel
theorem dX4_tie_126 : decode cX4_tie 126 = .ok (.iastore, 1) := by decide +kernel
theorem dX4_tie_127 : decode cX4_tie 127 = .ok (.aload_n 0, 1) := by decide +kernel
theorem dX4_tie_128 : decode cX4_tie 128 = .ok (.iconst 1, 1) := by decide +kernel
theorem dX4_tie_129 : decode cX4_tie 129 = .ok (.invokevirtual 62, 3) := by decide +kernel
theorem dX4_tie_132 : decode cX4_tie 132 = .ok (.ireturn, 1) := by decide +kernel
theorem dX4_get_0 : decode cX4_get 0 = .ok (.aload_n 0, 1) := by decide +kernel
theorem dX4_get_1 : decode cX4_get 1 = .ok (.aload_n 0, 1) := by decide +kernel
theorem dX4_get_2 : decode cX4_get 2 = .ok (.iload_n 1, 1) := by decide +kernel
theorem dX4_get_3 : decode cX4_get 3 = .ok (.invokevirtual 89, 3) := by decide +kernel
theorem dX4_get_6 : decode cX4_get 6 = .ok (.iload_n 2, 1) := by decide +kernel
theorem dX4_get_7 : decode cX4_get 7 = .ok (.iload_n 3, 1) := by decide +kernel
theorem dX4_get_8 : decode cX4_get 8 = .ok (.iload 4, 2) := by decide +kernel
theorem dX4_get_10 : decode cX4_get 10 = .ok (.invokevirtual 161, 3) := by decide +kernel
theorem dX4_get_13 : decode cX4_get 13 = .ok (.istore 5, 2) := by decide +kernel
theorem dX4_get_15 : decode cX4_get 15 = .ok (.iload 5, 2) := by decide +kernel
theorem dX4_get_17 : decode cX4_get 17 = .ok (.iconst (-1), 1) := by decide +kernel
theorem dX4_get_18 : decode cX4_get 18 = .ok (.if_icmp .ne 5, 3) := by decide +kernel
theorem dX4_get_21 : decode cX4_get 21 = .ok (.lconst 0, 1) := by decide +kernel
theorem dX4_get_22 : decode cX4_get 22 = .ok (.lreturn, 1) := by decide +kernel
theorem dX4_get_23 : decode cX4_get 23 = .ok (.aload_n 0, 1) := by decide +kernel
theorem dX4_get_24 : decode cX4_get 24 = .ok (.getfield 26, 3) := by decide +kernel
theorem dX4_get_27 : decode cX4_get 27 = .ok (.getfield 165, 3) := by decide +kernel
theorem dX4_get_30 : decode cX4_get 30 = .ok (.iload 5, 2) := by decide +kernel
theorem dX4_get_32 : decode cX4_get 32 = .ok (.baload, 1) := by decide +kernel
theorem dX4_get_33 : decode cX4_get 33 = .ok (.ifCond .ne 10, 3) := by decide +kernel
theorem dX4_get_36 : decode cX4_get 36 = .ok (.aload_n 0, 1) := by decide +kernel
theorem dX4_get_37 : decode cX4_get 37 = .ok (.iconst 1, 1) := by decide +kernel
theorem dX4_get_38 : decode cX4_get 38 = .ok (.invokevirtual 54, 3) := by decide +kernel
theorem dX4_get_41 : decode cX4_get 41 = .ok (.i2l, 1) := by decide +kernel
theorem dX4_get_42 : decode cX4_get 42 = .ok (.lreturn, 1) := by decide +kernel
theorem dX4_get_43 : decode cX4_get 43 = .ok (.aload_n 0, 1) := by decide +kernel
theorem dX4_get_44 : decode cX4_get 44 = .ok (.iconst 0, 1) := by decide +kernel
theorem dX4_get_45 : decode cX4_get 45 = .ok (.putfield 44, 3) := by decide +kernel
theorem dX4_get_48 : decode cX4_get 48 = .ok (.aload_n 0, 1) := by decide +kernel
theorem dX4_get_49 : decode cX4_get 49 = .ok (.getfield 26, 3) := by decide +kernel
theorem dX4_get_52 : decode cX4_get 52 = .ok (.getfield 169, 3) := by decide +kernel
theorem dX4_get_55 : decode cX4_get 55 = .ok (.iload 5, 2) := by decide +kernel
theorem dX4_get_57 : decode cX4_get 57 = .ok (.laload, 1) := by decide +kernel
theorem dX4_get_58 : decode cX4_get 58 = .ok (.lreturn, 1) := by decide +kernel
theorem dX4_put_0 : decode cX4_put 0 = .ok (.aload_n 0, 1) := by decide +kernel
theorem dX4_put_1 : decode cX4_put 1 = .ok (.iload_n 1, 1) := by decide +kernel
theorem dX4_put_2 : decode cX4_put 2 = .ok (.invokevirtual 89, 3) := by decide +kernel
theorem dX4_put_5 : decode cX4_put 5 = .ok (.astore 7, 2) := by decide +kernel
theorem dX4_put_7 : decode cX4_put 7 = .ok (.aload_n 0, 1) := by decide +kernel
theorem dX4_put_8 : decode cX4_put 8 = .ok (.aload 7, 2) := by decide +kernel
theorem dX4_put_10 : decode cX4_put 10 = .ok (.iload_n 2, 1) := by decide +kernel
theorem dX4_put_11 : decode cX4_put 11 = .ok (.iload_n 3, 1) := by decide +kernel
theorem dX4_put_12 : decode cX4_put 12 = .ok (.iload 4, 2) := by decide +kernel
theorem dX4_put_14 : decode cX4_put 14 = .ok (.invokevirtual 161, 3) := by decide +kernel
theorem dX4_put_17 : decode cX4_put 17 = .ok (.istore 8, 2) := by decide +kernel
theorem dX4_put_19 : decode cX4_put 19 = .ok (.iload 8, 2) := by decide +kernel
theorem dX4_put_21 : decode cX4_put 21 = .ok (.iconst (-1), 1) := by decide +kernel
theorem dX4_put_22 : decode cX4_put 22 = .ok (.if_icmp .eq 8, 3) := by decide +kernel
theorem dX4_put_25 : decode cX4_put 25 = .ok (.aload 7, 2) := by decide +kernel
theorem dX4_put_27 : decode cX4_put 27 = .ok (.ifnonnull 5, 3) := by decide +kernel
theorem dX4_put_30 : decode cX4_put 30 = .ok (.iconst 0, 1) := by decide +kernel
theorem dX4_put_31 : decode cX4_put 31 = .ok (.ireturn, 1) := by decide +kernel
theorem dX4_put_32 : decode cX4_put 32 = .ok (.aload_n 0, 1) := by decide +kernel
theorem dX4_put_33 : decode cX4_put 33 = .ok (.getfield 26, 3) := by decide +kernel
theorem dX4_put_36 : decode cX4_put 36 = .ok (.iload 8, 2) := by decide +kernel
theorem dX4_put_38 : decode cX4_put 38 = .ok (.aload 7, 2) := by decide +kernel
theorem dX4_put_40 : decode cX4_put 40 = .ok (.getfield 106, 3) := by decide +kernel
theorem dX4_put_43 : decode cX4_put 43 = .ok (.lload 5, 2) := by decide +kernel
theorem dX4_put_45 : decode cX4_put 45 = .ok (.invokestatic 173, 3) := by decide +kernel
theorem dX4_put_48 : decode cX4_put 48 = .ok (.invokevirtual 177, 3) := by decide +kernel
theorem dX4_put_51 : decode cX4_put 51 = .ok (.aload_n 0, 1) := by decide +kernel
theorem dX4_put_52 : decode cX4_put 52 = .ok (.iconst 1, 1) := by decide +kernel
theorem dX4_put_53 : decode cX4_put 53 = .ok (.invokevirtual 62, 3) := by decide +kernel
theorem dX4_put_56 : decode cX4_put 56 = .ok (.ireturn, 1) := by decide +kernel
theorem dX4_empty_0 : decode cX4_empty 0 = .ok (.aload_n 0, 1) := by decide +kernel
theorem dX4_empty_1 : decode cX4_empty 1 = .ok (.iload_n 1, 1) := by decide +kernel
theorem dX4_empty_2 : decode cX4_empty 2 = .ok (.invokevirtual 89, 3) := by decide +kernel
theorem dX4_empty_5 : decode cX4_empty 5 = .ok (.astore 5, 2) := by decide +kernel
theorem dX4_empty_7 : decode cX4_empty 7 = .ok (.aload 5, 2) := by decide +kernel
theorem dX4_empty_9 : decode cX4_empty 9 = .ok (.ifnonnull 10, 3) := by decide +kernel
theorem dX4_empty_12 : decode cX4_empty 12 = .ok (.aload_n 0, 1) := by decide +kernel
theorem dX4_empty_13 : decode cX4_empty 13 = .ok (.bipush 7, 2) := by decide +kernel
theorem dX4_empty_15 : decode cX4_empty 15 = .ok (.invokevirtual 54, 3) := by decide +kernel
theorem dX4_empty_18 : decode cX4_empty 18 = .ok (.ireturn, 1) := by decide +kernel
theorem dX4_empty_19 : decode cX4_empty 19 = .ok (.aload 5, 2) := by decide +kernel
theorem dX4_empty_21 : decode cX4_empty 21 = .ok (.getfield 106, 3) := by decide +kernel
theorem dX4_empty_24 : decode cX4_empty 24 = .ok (.iconst 3, 1) := by decide +kernel
theorem dX4_empty_25 : decode cX4_empty 25 = .ok (.if_icmp .eq 9, 3) := by decide +kernel
theorem dX4_empty_28 : decode cX4_empty 28 = .ok (.aload_n 0, 1) := by decide +kernel
theorem dX4_empty_29 : decode cX4_empty 29 = .ok (.iconst 2, 1) := by decide +kernel
theorem dX4_empty_30 : decode cX4_empty 30 = .ok (.invokevirtual 54, 3) := by decide +kernel
theorem dX4_empty_33 : decode cX4_empty 33 = .ok (.ireturn, 1) := by decide +kernel
theorem dX4_empty_34 : decode cX4_empty 34 = .ok (.aload_n 0, 1) := by decide +kernel
theorem dX4_empty_35 : decode cX4_empty 35 = .ok (.aload 5, 2) := by decide +kernel
theorem dX4_empty_37 : decode cX4_empty 37 = .ok (.iload_n 2, 1) := by decide +kernel
theorem dX4_empty_38 : decode cX4_empty 38 = .ok (.iload_n 3, 1) := by decide +kernel
theorem dX4_empty_39 : decode cX4_empty 39 = .ok (.iload 4, 2) := by decide +kernel
theorem dX4_empty_41 : decode cX4_empty 41 = .ok (.invokevirtual 161, 3) := by decide +kernel
theorem dX4_empty_44 : decode cX4_empty 44 = .ok (.istore 6, 2) := by decide +kernel
theorem dX4_empty_46 : decode cX4_empty 46 = .ok (.iload 6, 2) := by decide +kernel
theorem dX4_empty_48 : decode cX4_empty 48 = .ok (.iconst (-1), 1) := by decide +kernel
theorem dX4_empty_49 : decode cX4_empty 49 = .ok (.if_icmp .ne 5, 3) := by decide +kernel
theorem dX4_empty_52 : decode cX4_empty 52 = .ok (.iconst 0, 1) := by decide +kernel
theorem dX4_empty_53 : decode cX4_empty 53 = .ok (.ireturn, 1) := by decide +kernel
theorem dX4_empty_54 : decode cX4_empty 54 = .ok (.aload_n 0, 1) := by decide +kernel
theorem dX4_empty_55 : decode cX4_empty 55 = .ok (.getfield 26, 3) := by decide +kernel
theorem dX4_empty_58 : decode cX4_empty 58 = .ok (.iload 6, 2) := by decide +kernel
theorem dX4_empty_60 : decode cX4_empty 60 = .ok (.invokevirtual 181, 3) := by decide +kernel
theorem dX4_empty_63 : decode cX4_empty 63 = .ok (.aload_n 0, 1) := by decide +kernel
theorem dX4_empty_64 : decode cX4_empty 64 = .ok (.iconst 1, 1) := by decide +kernel
theorem dX4_empty_65 : decode cX4_empty 65 = .ok (.invokevirtual 62, 3) := by decide +kernel
theorem dX4_empty_68 : decode cX4_empty 68 = .ok (.ireturn, 1) := by decide +kernel
theorem dX4_pair_0 : decode cX4_pair 0 = .ok (.aload_n 0, 1) := by decide +kernel
theorem dX4_pair_1 : decode cX4_pair 1 = .ok (.getfield 19, 3) := by decide +kernel
theorem dX4_pair_4 : decode cX4_pair 4 = .ok (.getfield 185, 3) := by decide +kernel
theorem dX4_pair_7 : decode cX4_pair 7 = .ok (.bipush 30, 2) := by decide +kernel
theorem dX4_pair_9 : decode cX4_pair 9 = .ok (.if_icmp .lt 10, 3) := by decide +kernel
theorem dX4_pair_12 : decode cX4_pair 12 = .ok (.aload_n 0, 1) := by decide +kernel
theorem dX4_pair_13 : decode cX4_pair 13 = .ok (.bipush 8, 2) := by decide +kernel
theorem dX4_pair_15 : decode cX4_pair 15 = .ok (.invokevirtual 54, 3) := by decide +kernel
theorem dX4_pair_18 : decode cX4_pair 18 = .ok (.ireturn, 1) := by decide +kernel
theorem dX4_pair_19 : decode cX4_pair 19 = .ok (.aload_n 0, 1) := by decide +kernel
theorem dX4_pair_20 : decode cX4_pair 20 = .ok (.getfield 19, 3) := by decide +kernel
theorem dX4_pair_23 : decode cX4_pair 23 = .ok (.iload_n 1, 1) := by decide +kernel
theorem dX4_pair_24 : decode cX4_pair 24 = .ok (.iload_n 2, 1) := by decide +kernel
theorem dX4_pair_25 : decode cX4_pair 25 = .ok (.iload_n 3, 1) := by decide +kernel
theorem dX4_pair_26 : decode cX4_pair 26 = .ok (.lload 4, 2) := by decide +kernel
theorem dX4_pair_28 : decode cX4_pair 28 = .ok (.invokevirtual 186, 3) := by decide +kernel
theorem dX4_pair_31 : decode cX4_pair 31 = .ok (.aload_n 0, 1) := by decide +kernel
theorem dX4_pair_32 : decode cX4_pair 32 = .ok (.aload_n 0, 1) := by decide +kernel
theorem dX4_pair_33 : decode cX4_pair 33 = .ok (.getfield 19, 3) := by decide +kernel
theorem dX4_pair_36 : decode cX4_pair 36 = .ok (.getfield 185, 3) := by decide +kernel
theorem dX4_pair_39 : decode cX4_pair 39 = .ok (.invokevirtual 62, 3) := by decide +kernel
theorem dX4_pair_42 : decode cX4_pair 42 = .ok (.ireturn, 1) := by decide +kernel
theorem dX4_gather_0 : decode cX4_gather 0 = .ok (.iload_n 2, 1) := by decide +kernel
theorem dX4_gather_1 : decode cX4_gather 1 = .ok (.ifCond .lt 8, 3) := by decide +kernel
theorem dX4_gather_4 : decode cX4_gather 4 = .ok (.iload_n 2, 1) := by decide +kernel
theorem dX4_gather_5 : decode cX4_gather 5 = .ok (.iconst 5, 1) := by decide +kernel
theorem dX4_gather_6 : decode cX4_gather 6 = .ok (.if_icmp .le 6, 3) := by decide +kernel
theorem dX4_gather_9 : decode cX4_gather 9 = .ok (.ldc 65, 2) := by decide +kernel
theorem dX4_gather_11 : decode cX4_gather 11 = .ok (.ireturn, 1) := by decide +kernel
theorem dX4_gather_12 : decode cX4_gather 12 = .ok (.aload_n 0, 1) := by decide +kernel
theorem dX4_gather_13 : decode cX4_gather 13 = .ok (.iload_n 1, 1) := by decide +kernel
theorem dX4_gather_14 : decode cX4_gather 14 = .ok (.invokevirtual 89, 3) := by decide +kernel
theorem dX4_gather_17 : decode cX4_gather 17 = .ok (.astore_n 3, 1) := by decide +kernel
theorem dX4_gather_18 : decode cX4_gather 18 = .ok (.aload_n 0, 1) := by decide +kernel
theorem dX4_gather_19 : decode cX4_gather 19 = .ok (.aload_n 3, 1) := by decide +kernel
theorem dX4_gather_20 : decode cX4_gather 20 = .ok (.invokevirtual 92, 3) := by decide +kernel
theorem dX4_gather_23 : decode cX4_gather 23 = .ok (.istore 4, 2) := by decide +kernel
theorem dX4_gather_25 : decode cX4_gather 25 = .ok (.iload 4, 2) := by decide +kernel
theorem dX4_gather_27 : decode cX4_gather 27 = .ok (.ifCond .eq 10, 3) := by decide +kernel
theorem dX4_gather_30 : decode cX4_gather 30 = .ok (.aload_n 0, 1) := by decide +kernel
theorem dX4_gather_31 : decode cX4_gather 31 = .ok (.iload 4, 2) := by decide +kernel
theorem dX4_gather_33 : decode cX4_gather 33 = .ok (.invokevirtual 54, 3) := by decide +kernel
theorem dX4_gather_36 : decode cX4_gather 36 = .ok (.ireturn, 1) := by decide +kernel
theorem dX4_gather_37 : decode cX4_gather 37 = .ok (.iconst 0, 1) := by decide +kernel
theorem dX4_gather_38 : decode cX4_gather 38 = .ok (.istore 5, 2) := by decide +kernel
theorem dX4_gather_40 : decode cX4_gather 40 = .ok (.iload 5, 2) := by decide +kernel
theorem dX4_gather_42 : decode cX4_gather 42 = .ok (.aload_n 0, 1) := by decide +kernel
theorem dX4_gather_43 : decode cX4_gather 43 = .ok (.getfield 19, 3) := by decide +kernel
theorem dX4_gather_46 : decode cX4_gather 46 = .ok (.getfield 185, 3) := by decide +kernel
theorem dX4_gather_49 : decode cX4_gather 49 = .ok (.if_icmp .ge 88, 3) := by decide +kernel
theorem dX4_gather_52 : decode cX4_gather 52 = .ok (.aload_n 0, 1) := by decide +kernel
theorem dX4_gather_53 : decode cX4_gather 53 = .ok (.aload_n 3, 1) := by decide +kernel
theorem dX4_gather_54 : decode cX4_gather 54 = .ok (.aload_n 0, 1) := by decide +kernel
theorem dX4_gather_55 : decode cX4_gather 55 = .ok (.getfield 19, 3) := by decide +kernel
theorem dX4_gather_58 : decode cX4_gather 58 = .ok (.getfield 189, 3) := by decide +kernel
theorem dX4_gather_61 : decode cX4_gather 61 = .ok (.iload 5, 2) := by decide +kernel
theorem dX4_gather_63 : decode cX4_gather 63 = .ok (.iaload, 1) := by decide +kernel
theorem dX4_gather_64 : decode cX4_gather 64 = .ok (.aload_n 0, 1) := by decide +kernel
theorem dX4_gather_65 : decode cX4_gather 65 = .ok (.getfield 19, 3) := by decide +kernel
theorem dX4_gather_68 : decode cX4_gather 68 = .ok (.getfield 192, 3) := by decide +kernel
theorem dX4_gather_71 : decode cX4_gather 71 = .ok (.iload 5, 2) := by decide +kernel
theorem dX4_gather_73 : decode cX4_gather 73 = .ok (.iaload, 1) := by decide +kernel
theorem dX4_gather_74 : decode cX4_gather 74 = .ok (.aload_n 0, 1) := by decide +kernel
theorem dX4_gather_75 : decode cX4_gather 75 = .ok (.getfield 19, 3) := by decide +kernel
theorem dX4_gather_78 : decode cX4_gather 78 = .ok (.getfield 195, 3) := by decide +kernel
theorem dX4_gather_81 : decode cX4_gather 81 = .ok (.iload 5, 2) := by decide +kernel
theorem dX4_gather_83 : decode cX4_gather 83 = .ok (.iaload, 1) := by decide +kernel
theorem dX4_gather_84 : decode cX4_gather 84 = .ok (.invokevirtual 161, 3) := by decide +kernel
theorem dX4_gather_87 : decode cX4_gather 87 = .ok (.istore 6, 2) := by decide +kernel
theorem dX4_gather_89 : decode cX4_gather 89 = .ok (.iload 6, 2) := by decide +kernel
theorem dX4_gather_91 : decode cX4_gather 91 = .ok (.iconst (-1), 1) := by decide +kernel
theorem dX4_gather_92 : decode cX4_gather 92 = .ok (.if_icmp .ne 6, 3) := by decide +kernel
theorem dX4_gather_95 : decode cX4_gather 95 = .ok (.iload 5, 2) := by decide +kernel
theorem dX4_gather_97 : decode cX4_gather 97 = .ok (.ireturn, 1) := by decide +kernel
theorem dX4_gather_98 : decode cX4_gather 98 = .ok (.aload_n 0, 1) := by decide +kernel
theorem dX4_gather_99 : decode cX4_gather 99 = .ok (.aload_n 3, 1) := by decide +kernel
theorem dX4_gather_100 : decode cX4_gather 100 = .ok (.getfield 106, 3) := by decide +kernel
theorem dX4_gather_103 : decode cX4_gather 103 = .ok (.iload 6, 2) := by decide +kernel
theorem dX4_gather_105 : decode cX4_gather 105 = .ok (.aload_n 0, 1) := by decide +kernel
theorem dX4_gather_106 : decode cX4_gather 106 = .ok (.getfield 19, 3) := by decide +kernel
theorem dX4_gather_109 : decode cX4_gather 109 = .ok (.getfield 198, 3) := by decide +kernel
theorem dX4_gather_112 : decode cX4_gather 112 = .ok (.iload 5, 2) := by decide +kernel
theorem dX4_gather_114 : decode cX4_gather 114 = .ok (.laload, 1) := by decide +kernel
theorem dX4_gather_115 : decode cX4_gather 115 = .ok (.iload_n 2, 1) := by decide +kernel
theorem dX4_gather_116 : decode cX4_gather 116 = .ok (.invokevirtual 201, 3) := by decide +kernel
theorem dX4_gather_119 : decode cX4_gather 119 = .ok (.ifCond .ne 12, 3) := by decide +kernel
theorem dX4_gather_122 : decode cX4_gather 122 = .ok (.aload_n 0, 1) := by decide +kernel
theorem dX4_gather_123 : decode cX4_gather 123 = .ok (.bipush 6, 2) := by decide +kernel
theorem dX4_gather_125 : decode cX4_gather 125 = .ok (.iload 5, 2) := by decide +kernel
theorem dX4_gather_127 : decode cX4_gather 127 = .ok (.invokevirtual 205, 3) := by decide +kernel
theorem dX4_gather_130 : decode cX4_gather 130 = .ok (.ireturn, 1) := by decide +kernel
theorem dX4_gather_131 : decode cX4_gather 131 = .ok (.iinc 5 1, 3) := by decide +kernel
theorem dX4_gather_134 : decode cX4_gather 134 = .ok (.goto (-94), 3) := by decide +kernel
theorem dX4_gather_137 : decode cX4_gather 137 = .ok (.aload_n 0, 1) := by decide +kernel
theorem dX4_gather_138 : decode cX4_gather 138 = .ok (.getfield 19, 3) := by decide +kernel
theorem dX4_gather_141 : decode cX4_gather 141 = .ok (.getfield 185, 3) := by decide +kernel
theorem dX4_gather_144 : decode cX4_gather 144 = .ok (.istore 5, 2) := by decide +kernel
theorem dX4_gather_146 : decode cX4_gather 146 = .ok (.aload_n 0, 1) := by decide +kernel
theorem dX4_gather_147 : decode cX4_gather 147 = .ok (.getfield 19, 3) := by decide +kernel
theorem dX4_gather_150 : decode cX4_gather 150 = .ok (.iconst 0, 1) := by decide +kernel
theorem dX4_gather_151 : decode cX4_gather 151 = .ok (.putfield 185, 3) := by decide +kernel
theorem dX4_gather_154 : decode cX4_gather 154 = .ok (.aload_n 0, 1) := by decide +kernel
theorem dX4_gather_155 : decode cX4_gather 155 = .ok (.iload 5, 2) := by decide +kernel
theorem dX4_gather_157 : decode cX4_gather 157 = .ok (.invokevirtual 62, 3) := by decide +kernel
theorem dX4_gather_160 : decode cX4_gather 160 = .ok (.ireturn, 1) := by decide +kernel
theorem dX4_join_0 : decode cX4_join 0 = .ok (.iload_n 3, 1) := by decide +kernel
theorem dX4_join_1 : decode cX4_join 1 = .ok (.ifCond .lt 8, 3) := by decide +kernel
theorem dX4_join_4 : decode cX4_join 4 = .ok (.iload_n 3, 1) := by decide +kernel
theorem dX4_join_5 : decode cX4_join 5 = .ok (.iconst 5, 1) := by decide +kernel
theorem dX4_join_6 : decode cX4_join 6 = .ok (.if_icmp .le 6, 3) := by decide +kernel
theorem dX4_join_9 : decode cX4_join 9 = .ok (.ldc 65, 2) := by decide +kernel
theorem dX4_join_11 : decode cX4_join 11 = .ok (.ireturn, 1) := by decide +kernel
theorem dX4_join_12 : decode cX4_join 12 = .ok (.aload_n 0, 1) := by decide +kernel
theorem dX4_join_13 : decode cX4_join 13 = .ok (.iload_n 1, 1) := by decide +kernel
theorem dX4_join_14 : decode cX4_join 14 = .ok (.invokevirtual 89, 3) := by decide +kernel
theorem dX4_join_17 : decode cX4_join 17 = .ok (.astore 4, 2) := by decide +kernel
theorem dX4_join_19 : decode cX4_join 19 = .ok (.aload_n 0, 1) := by decide +kernel
theorem dX4_join_20 : decode cX4_join 20 = .ok (.iload_n 2, 1) := by decide +kernel
theorem dX4_join_21 : decode cX4_join 21 = .ok (.invokevirtual 89, 3) := by decide +kernel
theorem dX4_join_24 : decode cX4_join 24 = .ok (.astore 5, 2) := by decide +kernel
theorem dX4_join_26 : decode cX4_join 26 = .ok (.aload_n 0, 1) := by decide +kernel
theorem dX4_join_27 : decode cX4_join 27 = .ok (.aload 4, 2) := by decide +kernel
theorem dX4_join_29 : decode cX4_join 29 = .ok (.aload 5, 2) := by decide +kernel
theorem dX4_join_31 : decode cX4_join 31 = .ok (.invokevirtual 208, 3) := by decide +kernel
theorem dX4_join_34 : decode cX4_join 34 = .ok (.istore 6, 2) := by decide +kernel
theorem dX4_join_36 : decode cX4_join 36 = .ok (.iload 6, 2) := by decide +kernel
theorem dX4_join_38 : decode cX4_join 38 = .ok (.ifCond .eq 10, 3) := by decide +kernel
theorem dX4_join_41 : decode cX4_join 41 = .ok (.aload_n 0, 1) := by decide +kernel
theorem dX4_join_42 : decode cX4_join 42 = .ok (.iload 6, 2) := by decide +kernel
theorem dX4_join_44 : decode cX4_join 44 = .ok (.invokevirtual 54, 3) := by decide +kernel
theorem dX4_join_47 : decode cX4_join 47 = .ok (.ireturn, 1) := by decide +kernel
theorem dX4_join_48 : decode cX4_join 48 = .ok (.aload_n 0, 1) := by decide +kernel
theorem dX4_join_49 : decode cX4_join 49 = .ok (.getfield 26, 3) := by decide +kernel
theorem dX4_join_52 : decode cX4_join 52 = .ok (.aload 4, 2) := by decide +kernel
theorem dX4_join_54 : decode cX4_join 54 = .ok (.getfield 100, 3) := by decide +kernel
theorem dX4_join_57 : decode cX4_join 57 = .ok (.invokevirtual 127, 3) := by decide +kernel
theorem dX4_join_60 : decode cX4_join 60 = .ok (.istore 7, 2) := by decide +kernel
theorem dX4_join_62 : decode cX4_join 62 = .ok (.aload_n 0, 1) := by decide +kernel
theorem dX4_join_63 : decode cX4_join 63 = .ok (.getfield 26, 3) := by decide +kernel
theorem dX4_join_66 : decode cX4_join 66 = .ok (.aload 5, 2) := by decide +kernel
theorem dX4_join_68 : decode cX4_join 68 = .ok (.getfield 100, 3) := by decide +kernel
theorem dX4_join_71 : decode cX4_join 71 = .ok (.invokevirtual 127, 3) := by decide +kernel
theorem dX4_join_74 : decode cX4_join 74 = .ok (.istore 8, 2) := by decide +kernel
theorem dX4_join_76 : decode cX4_join 76 = .ok (.aload_n 0, 1) := by decide +kernel
theorem dX4_join_77 : decode cX4_join 77 = .ok (.getfield 26, 3) := by decide +kernel
theorem dX4_join_80 : decode cX4_join 80 = .ok (.aload 4, 2) := by decide +kernel
theorem dX4_join_82 : decode cX4_join 82 = .ok (.getfield 100, 3) := by decide +kernel
theorem dX4_join_85 : decode cX4_join 85 = .ok (.invokevirtual 103, 3) := by decide +kernel
theorem dX4_join_88 : decode cX4_join 88 = .ok (.istore 9, 2) := by decide +kernel
theorem dX4_join_90 : decode cX4_join 90 = .ok (.iconst 0, 1) := by decide +kernel
theorem dX4_join_91 : decode cX4_join 91 = .ok (.istore 10, 2) := by decide +kernel
theorem dX4_join_93 : decode cX4_join 93 = .ok (.iload 10, 2) := by decide +kernel
theorem dX4_join_95 : decode cX4_join 95 = .ok (.iload 9, 2) := by decide +kernel
theorem dX4_join_97 : decode cX4_join 97 = .ok (.if_icmp .ge 73, 3) := by decide +kernel
theorem dX4_join_100 : decode cX4_join 100 = .ok (.aload_n 0, 1) := by decide +kernel
theorem dX4_join_101 : decode cX4_join 101 = .ok (.getfield 26, 3) := by decide +kernel
theorem dX4_join_104 : decode cX4_join 104 = .ok (.getfield 165, 3) := by decide +kernel
theorem dX4_join_107 : decode cX4_join 107 = .ok (.iload 8, 2) := by decide +kernel
theorem dX4_join_109 : decode cX4_join 109 = .ok (.iload 10, 2) := by decide +kernel
theorem dX4_join_111 : decode cX4_join 111 = .ok (.iadd, 1) := by decide +kernel
theorem dX4_join_112 : decode cX4_join 112 = .ok (.baload, 1) := by decide +kernel
theorem dX4_join_113 : decode cX4_join 113 = .ok (.ifCond .ne 11, 3) := by decide +kernel
theorem dX4_join_116 : decode cX4_join 116 = .ok (.aload_n 0, 1) := by decide +kernel
theorem dX4_join_117 : decode cX4_join 117 = .ok (.iconst 1, 1) := by decide +kernel
theorem dX4_join_118 : decode cX4_join 118 = .ok (.iload 10, 2) := by decide +kernel
theorem dX4_join_120 : decode cX4_join 120 = .ok (.invokevirtual 205, 3) := by decide +kernel
theorem dX4_join_123 : decode cX4_join 123 = .ok (.ireturn, 1) := by decide +kernel
theorem dX4_join_124 : decode cX4_join 124 = .ok (.aload_n 0, 1) := by decide +kernel
theorem dX4_join_125 : decode cX4_join 125 = .ok (.aload 4, 2) := by decide +kernel
theorem dX4_join_127 : decode cX4_join 127 = .ok (.getfield 106, 3) := by decide +kernel
theorem dX4_join_130 : decode cX4_join 130 = .ok (.iload 7, 2) := by decide +kernel
theorem dX4_join_132 : decode cX4_join 132 = .ok (.iload 10, 2) := by decide +kernel
theorem dX4_join_134 : decode cX4_join 134 = .ok (.iadd, 1) := by decide +kernel
theorem dX4_join_135 : decode cX4_join 135 = .ok (.aload_n 0, 1) := by decide +kernel
theorem dX4_join_136 : decode cX4_join 136 = .ok (.getfield 26, 3) := by decide +kernel
theorem dX4_join_139 : decode cX4_join 139 = .ok (.getfield 169, 3) := by decide +kernel
theorem dX4_join_142 : decode cX4_join 142 = .ok (.iload 8, 2) := by decide +kernel
theorem dX4_join_144 : decode cX4_join 144 = .ok (.iload 10, 2) := by decide +kernel
theorem dX4_join_146 : decode cX4_join 146 = .ok (.iadd, 1) := by decide +kernel
theorem dX4_join_147 : decode cX4_join 147 = .ok (.laload, 1) := by decide +kernel
theorem dX4_join_148 : decode cX4_join 148 = .ok (.iload_n 3, 1) := by decide +kernel
theorem dX4_join_149 : decode cX4_join 149 = .ok (.invokevirtual 201, 3) := by decide +kernel
theorem dX4_join_152 : decode cX4_join 152 = .ok (.ifCond .ne 12, 3) := by decide +kernel
theorem dX4_join_155 : decode cX4_join 155 = .ok (.aload_n 0, 1) := by decide +kernel
theorem dX4_join_156 : decode cX4_join 156 = .ok (.bipush 6, 2) := by decide +kernel
theorem dX4_join_158 : decode cX4_join 158 = .ok (.iload 10, 2) := by decide +kernel
theorem dX4_join_160 : decode cX4_join 160 = .ok (.invokevirtual 205, 3) := by decide +kernel
theorem dX4_join_163 : decode cX4_join 163 = .ok (.ireturn, 1) := by decide +kernel
theorem dX4_join_164 : decode cX4_join 164 = .ok (.iinc 10 1, 3) := by decide +kernel
theorem dX4_join_167 : decode cX4_join 167 = .ok (.goto (-74), 3) := by decide +kernel
theorem dX4_join_170 : decode cX4_join 170 = .ok (.aload_n 0, 1) := by decide +kernel
theorem dX4_join_171 : decode cX4_join 171 = .ok (.iload 9, 2) := by decide +kernel
theorem dX4_join_173 : decode cX4_join 173 = .ok (.invokevirtual 62, 3) := by decide +kernel
theorem dX4_join_176 : decode cX4_join 176 = .ok (.ireturn, 1) := by decide +kernel
theorem dX4_sum_0 : decode cX4_sum 0 = .ok (.aload_n 0, 1) := by decide +kernel
theorem dX4_sum_1 : decode cX4_sum 1 = .ok (.iload_n 1, 1) := by decide +kernel
theorem dX4_sum_2 : decode cX4_sum 2 = .ok (.invokevirtual 89, 3) := by decide +kernel
theorem dX4_sum_5 : decode cX4_sum 5 = .ok (.astore_n 2, 1) := by decide +kernel
theorem dX4_sum_6 : decode cX4_sum 6 = .ok (.aload_n 2, 1) := by decide +kernel
theorem dX4_sum_7 : decode cX4_sum 7 = .ok (.ifnonnull 11, 3) := by decide +kernel
theorem dX4_sum_10 : decode cX4_sum 10 = .ok (.aload_n 0, 1) := by decide +kernel
theorem dX4_sum_11 : decode cX4_sum 11 = .ok (.bipush 7, 2) := by decide +kernel
theorem dX4_sum_13 : decode cX4_sum 13 = .ok (.invokevirtual 54, 3) := by decide +kernel
theorem dX4_sum_16 : decode cX4_sum 16 = .ok (.i2l, 1) := by decide +kernel
theorem dX4_sum_17 : decode cX4_sum 17 = .ok (.lreturn, 1) := by decide +kernel
theorem dX4_sum_18 : decode cX4_sum 18 = .ok (.aload_n 0, 1) := by decide +kernel
theorem dX4_sum_19 : decode cX4_sum 19 = .ok (.iconst 0, 1) := by decide +kernel
theorem dX4_sum_20 : decode cX4_sum 20 = .ok (.putfield 44, 3) := by decide +kernel
theorem dX4_sum_23 : decode cX4_sum 23 = .ok (.aload_n 2, 1) := by decide +kernel
theorem dX4_sum_24 : decode cX4_sum 24 = .ok (.getfield 106, 3) := by decide +kernel
theorem dX4_sum_27 : decode cX4_sum 27 = .ok (.iconst 4, 1) := by decide +kernel
theorem dX4_sum_28 : decode cX4_sum 28 = .ok (.if_icmp .eq 15, 3) := by decide +kernel
theorem dX4_sum_31 : decode cX4_sum 31 = .ok (.aload_n 0, 1) := by decide +kernel
theorem dX4_sum_32 : decode cX4_sum 32 = .ok (.getfield 26, 3) := by decide +kernel
theorem dX4_sum_35 : decode cX4_sum 35 = .ok (.aload_n 2, 1) := by decide +kernel
theorem dX4_sum_36 : decode cX4_sum 36 = .ok (.getfield 100, 3) := by decide +kernel
theorem dX4_sum_39 : decode cX4_sum 39 = .ok (.invokevirtual 212, 3) := by decide +kernel
theorem dX4_sum_42 : decode cX4_sum 42 = .ok (.lreturn, 1) := by decide +kernel
theorem dX4_sum_43 : decode cX4_sum 43 = .ok (.lconst 0, 1) := by decide +kernel
theorem dX4_sum_44 : decode cX4_sum 44 = .ok (.lstore_n 3, 1) := by decide +kernel
theorem dX4_sum_45 : decode cX4_sum 45 = .ok (.iconst 0, 1) := by decide +kernel
theorem dX4_sum_46 : decode cX4_sum 46 = .ok (.istore 5, 2) := by decide +kernel
theorem dX4_sum_48 : decode cX4_sum 48 = .ok (.iload 5, 2) := by decide +kernel
theorem dX4_sum_50 : decode cX4_sum 50 = .ok (.aload_n 2, 1) := by decide +kernel
