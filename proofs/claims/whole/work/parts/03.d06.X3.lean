theorem dX3_init_0 : decode cX3_init 0 = .ok (.aload_n 0, 1) := by decide +kernel
theorem dX3_init_1 : decode cX3_init 1 = .ok (.invokespecial 3, 3) := by decide +kernel
theorem dX3_init_4 : decode cX3_init 4 = .ok (.aload_n 0, 1) := by decide +kernel
theorem dX3_init_5 : decode cX3_init 5 = .ok (.bipush 64, 2) := by decide +kernel
theorem dX3_init_7 : decode cX3_init 7 = .ok (.newarray .long, 2) := by decide +kernel
theorem dX3_init_9 : decode cX3_init 9 = .ok (.putfield 9, 3) := by decide +kernel
theorem dX3_init_12 : decode cX3_init 12 = .ok (.aload_n 0, 1) := by decide +kernel
theorem dX3_init_13 : decode cX3_init 13 = .ok (.bipush 64, 2) := by decide +kernel
theorem dX3_init_15 : decode cX3_init 15 = .ok (.newarray .boolean, 2) := by decide +kernel
theorem dX3_init_17 : decode cX3_init 17 = .ok (.putfield 15, 3) := by decide +kernel
theorem dX3_init_20 : decode cX3_init 20 = .ok (.aload_n 0, 1) := by decide +kernel
theorem dX3_init_21 : decode cX3_init 21 = .ok (.bipush 32, 2) := by decide +kernel
theorem dX3_init_23 : decode cX3_init 23 = .ok (.newarray .int, 2) := by decide +kernel
theorem dX3_init_25 : decode cX3_init 25 = .ok (.putfield 19, 3) := by decide +kernel
theorem dX3_init_28 : decode cX3_init 28 = .ok (.aload_n 0, 1) := by decide +kernel
theorem dX3_init_29 : decode cX3_init 29 = .ok (.bipush 32, 2) := by decide +kernel
theorem dX3_init_31 : decode cX3_init 31 = .ok (.newarray .int, 2) := by decide +kernel
theorem dX3_init_33 : decode cX3_init 33 = .ok (.putfield 23, 3) := by decide +kernel
theorem dX3_init_36 : decode cX3_init 36 = .ok (.return_, 1) := by decide +kernel
theorem dX3_reserve_0 : decode cX3_reserve 0 = .ok (.iload_n 1, 1) := by decide +kernel
theorem dX3_reserve_1 : decode cX3_reserve 1 = .ok (.sipush 12512, 3) := by decide +kernel
theorem dX3_reserve_4 : decode cX3_reserve 4 = .ok (.aload_n 0, 1) := by decide +kernel
theorem dX3_reserve_5 : decode cX3_reserve 5 = .ok (.getfield 26, 3) := by decide +kernel
theorem dX3_reserve_8 : decode cX3_reserve 8 = .ok (.isub, 1) := by decide +kernel
theorem dX3_reserve_9 : decode cX3_reserve 9 = .ok (.if_icmp .gt 14, 3) := by decide +kernel
theorem dX3_reserve_12 : decode cX3_reserve 12 = .ok (.iload_n 2, 1) := by decide +kernel
theorem dX3_reserve_13 : decode cX3_reserve 13 = .ok (.ldc 30, 2) := by decide +kernel
theorem dX3_reserve_15 : decode cX3_reserve 15 = .ok (.aload_n 0, 1) := by decide +kernel
theorem dX3_reserve_16 : decode cX3_reserve 16 = .ok (.getfield 31, 3) := by decide +kernel
theorem dX3_reserve_19 : decode cX3_reserve 19 = .ok (.isub, 1) := by decide +kernel
theorem dX3_reserve_20 : decode cX3_reserve 20 = .ok (.if_icmp .le 5, 3) := by decide +kernel
theorem dX3_reserve_23 : decode cX3_reserve 23 = .ok (.iconst 0, 1) := by decide +kernel
theorem dX3_reserve_24 : decode cX3_reserve 24 = .ok (.ireturn, 1) := by decide +kernel
theorem dX3_reserve_25 : decode cX3_reserve 25 = .ok (.aload_n 0, 1) := by decide +kernel
theorem dX3_reserve_26 : decode cX3_reserve 26 = .ok (.aload_n 0, 1) := by decide +kernel
theorem dX3_reserve_27 : decode cX3_reserve 27 = .ok (.getfield 26, 3) := by decide +kernel
theorem dX3_reserve_30 : decode cX3_reserve 30 = .ok (.iload_n 1, 1) := by decide +kernel
theorem dX3_reserve_31 : decode cX3_reserve 31 = .ok (.iadd, 1) := by decide +kernel
theorem dX3_reserve_32 : decode cX3_reserve 32 = .ok (.invokevirtual 34, 3) := by decide +kernel
theorem dX3_reserve_35 : decode cX3_reserve 35 = .ok (.aload_n 0, 1) := by decide +kernel
theorem dX3_reserve_36 : decode cX3_reserve 36 = .ok (.aload_n 0, 1) := by decide +kernel
theorem dX3_reserve_37 : decode cX3_reserve 37 = .ok (.getfield 31, 3) := by decide +kernel
theorem dX3_reserve_40 : decode cX3_reserve 40 = .ok (.iload_n 2, 1) := by decide +kernel
theorem dX3_reserve_41 : decode cX3_reserve 41 = .ok (.iadd, 1) := by decide +kernel
theorem dX3_reserve_42 : decode cX3_reserve 42 = .ok (.invokevirtual 38, 3) := by decide +kernel
theorem dX3_reserve_45 : decode cX3_reserve 45 = .ok (.iconst 1, 1) := by decide +kernel
theorem dX3_reserve_46 : decode cX3_reserve 46 = .ok (.ireturn, 1) := by decide +kernel
theorem dX3_growRows_0 : decode cX3_growRows 0 = .ok (.iload_n 1, 1) := by decide +kernel
theorem dX3_growRows_1 : decode cX3_growRows 1 = .ok (.aload_n 0, 1) := by decide +kernel
theorem dX3_growRows_2 : decode cX3_growRows 2 = .ok (.getfield 19, 3) := by decide +kernel
theorem dX3_growRows_5 : decode cX3_growRows 5 = .ok (.arraylength, 1) := by decide +kernel
theorem dX3_growRows_6 : decode cX3_growRows 6 = .ok (.if_icmp .le 39, 3) := by decide +kernel
theorem dX3_growRows_9 : decode cX3_growRows 9 = .ok (.iload_n 1, 1) := by decide +kernel
theorem dX3_growRows_10 : decode cX3_growRows 10 = .ok (.iconst 2, 1) := by decide +kernel
theorem dX3_growRows_11 : decode cX3_growRows 11 = .ok (.aload_n 0, 1) := by decide +kernel
theorem dX3_growRows_12 : decode cX3_growRows 12 = .ok (.getfield 19, 3) := by decide +kernel
theorem dX3_growRows_15 : decode cX3_growRows 15 = .ok (.arraylength, 1) := by decide +kernel
theorem dX3_growRows_16 : decode cX3_growRows 16 = .ok (.imul, 1) := by decide +kernel
theorem dX3_growRows_17 : decode cX3_growRows 17 = .ok (.invokestatic 41, 3) := by decide +kernel
theorem dX3_growRows_20 : decode cX3_growRows 20 = .ok (.istore_n 2, 1) := by decide +kernel
theorem dX3_growRows_21 : decode cX3_growRows 21 = .ok (.aload_n 0, 1) := by decide +kernel
theorem dX3_growRows_22 : decode cX3_growRows 22 = .ok (.aload_n 0, 1) := by decide +kernel
theorem dX3_growRows_23 : decode cX3_growRows 23 = .ok (.getfield 19, 3) := by decide +kernel
theorem dX3_growRows_26 : decode cX3_growRows 26 = .ok (.iload_n 2, 1) := by decide +kernel
theorem dX3_growRows_27 : decode cX3_growRows 27 = .ok (.invokestatic 47, 3) := by decide +kernel
theorem dX3_growRows_30 : decode cX3_growRows 30 = .ok (.putfield 19, 3) := by decide +kernel
theorem dX3_growRows_33 : decode cX3_growRows 33 = .ok (.aload_n 0, 1) := by decide +kernel
theorem dX3_growRows_34 : decode cX3_growRows 34 = .ok (.aload_n 0, 1) := by decide +kernel
theorem dX3_growRows_35 : decode cX3_growRows 35 = .ok (.getfield 23, 3) := by decide +kernel
theorem dX3_growRows_38 : decode cX3_growRows 38 = .ok (.iload_n 2, 1) := by decide +kernel
theorem dX3_growRows_39 : decode cX3_growRows 39 = .ok (.invokestatic 47, 3) := by decide +kernel
theorem dX3_growRows_42 : decode cX3_growRows 42 = .ok (.putfield 23, 3) := by decide +kernel
theorem dX3_growRows_45 : decode cX3_growRows 45 = .ok (.return_, 1) := by decide +kernel
theorem dX3_growCells_0 : decode cX3_growCells 0 = .ok (.iload_n 1, 1) := by decide +kernel
theorem dX3_growCells_1 : decode cX3_growCells 1 = .ok (.aload_n 0, 1) := by decide +kernel
theorem dX3_growCells_2 : decode cX3_growCells 2 = .ok (.getfield 9, 3) := by decide +kernel
theorem dX3_growCells_5 : decode cX3_growCells 5 = .ok (.arraylength, 1) := by decide +kernel
theorem dX3_growCells_6 : decode cX3_growCells 6 = .ok (.if_icmp .le 39, 3) := by decide +kernel
theorem dX3_growCells_9 : decode cX3_growCells 9 = .ok (.iload_n 1, 1) := by decide +kernel
theorem dX3_growCells_10 : decode cX3_growCells 10 = .ok (.iconst 2, 1) := by decide +kernel
theorem dX3_growCells_11 : decode cX3_growCells 11 = .ok (.aload_n 0, 1) := by decide +kernel
theorem dX3_growCells_12 : decode cX3_growCells 12 = .ok (.getfield 9, 3) := by decide +kernel
theorem dX3_growCells_15 : decode cX3_growCells 15 = .ok (.arraylength, 1) := by decide +kernel
theorem dX3_growCells_16 : decode cX3_growCells 16 = .ok (.imul, 1) := by decide +kernel
theorem dX3_growCells_17 : decode cX3_growCells 17 = .ok (.invokestatic 41, 3) := by decide +kernel
theorem dX3_growCells_20 : decode cX3_growCells 20 = .ok (.istore_n 2, 1) := by decide +kernel
theorem dX3_growCells_21 : decode cX3_growCells 21 = .ok (.aload_n 0, 1) := by decide +kernel
theorem dX3_growCells_22 : decode cX3_growCells 22 = .ok (.aload_n 0, 1) := by decide +kernel
theorem dX3_growCells_23 : decode cX3_growCells 23 = .ok (.getfield 9, 3) := by decide +kernel
theorem dX3_growCells_26 : decode cX3_growCells 26 = .ok (.iload_n 2, 1) := by decide +kernel
theorem dX3_growCells_27 : decode cX3_growCells 27 = .ok (.invokestatic 53, 3) := by decide +kernel
theorem dX3_growCells_30 : decode cX3_growCells 30 = .ok (.putfield 9, 3) := by decide +kernel
theorem dX3_growCells_33 : decode cX3_growCells 33 = .ok (.aload_n 0, 1) := by decide +kernel
theorem dX3_growCells_34 : decode cX3_growCells 34 = .ok (.aload_n 0, 1) := by decide +kernel
theorem dX3_growCells_35 : decode cX3_growCells 35 = .ok (.getfield 15, 3) := by decide +kernel
theorem dX3_growCells_38 : decode cX3_growCells 38 = .ok (.iload_n 2, 1) := by decide +kernel
theorem dX3_growCells_39 : decode cX3_growCells 39 = .ok (.invokestatic 56, 3) := by decide +kernel
theorem dX3_growCells_42 : decode cX3_growCells 42 = .ok (.putfield 15, 3) := by decide +kernel
theorem dX3_growCells_45 : decode cX3_growCells 45 = .ok (.return_, 1) := by decide +kernel
theorem dX3_grown_0 : decode cX3_grown 0 = .ok (.iload_n 1, 1) := by decide +kernel
theorem dX3_grown_1 : decode cX3_grown 1 = .ok (.newarray .boolean, 2) := by decide +kernel
theorem dX3_grown_3 : decode cX3_grown 3 = .ok (.astore_n 2, 1) := by decide +kernel
theorem dX3_grown_4 : decode cX3_grown 4 = .ok (.iconst 0, 1) := by decide +kernel
theorem dX3_grown_5 : decode cX3_grown 5 = .ok (.istore_n 3, 1) := by decide +kernel
theorem dX3_grown_6 : decode cX3_grown 6 = .ok (.iload_n 3, 1) := by decide +kernel
theorem dX3_grown_7 : decode cX3_grown 7 = .ok (.aload_n 0, 1) := by decide +kernel
theorem dX3_grown_8 : decode cX3_grown 8 = .ok (.arraylength, 1) := by decide +kernel
theorem dX3_grown_9 : decode cX3_grown 9 = .ok (.if_icmp .ge 20, 3) := by decide +kernel
theorem dX3_grown_12 : decode cX3_grown 12 = .ok (.iload_n 3, 1) := by decide +kernel
theorem dX3_grown_13 : decode cX3_grown 13 = .ok (.iload_n 1, 1) := by decide +kernel
theorem dX3_grown_14 : decode cX3_grown 14 = .ok (.if_icmp .ge 15, 3) := by decide +kernel
theorem dX3_grown_17 : decode cX3_grown 17 = .ok (.aload_n 2, 1) := by decide +kernel
theorem dX3_grown_18 : decode cX3_grown 18 = .ok (.iload_n 3, 1) := by decide +kernel
theorem dX3_grown_19 : decode cX3_grown 19 = .ok (.aload_n 0, 1) := by decide +kernel
theorem dX3_grown_20 : decode cX3_grown 20 = .ok (.iload_n 3, 1) := by decide +kernel
theorem dX3_grown_21 : decode cX3_grown 21 = .ok (.baload, 1) := by decide +kernel
theorem dX3_grown_22 : decode cX3_grown 22 = .ok (.bastore, 1) := by decide +kernel
theorem dX3_grown_23 : decode cX3_grown 23 = .ok (.iinc 3 1, 3) := by decide +kernel
theorem dX3_grown_26 : decode cX3_grown 26 = .ok (.goto (-20), 3) := by decide +kernel
theorem dX3_grown_29 : decode cX3_grown 29 = .ok (.aload_n 2, 1) := by decide +kernel
theorem dX3_grown_30 : decode cX3_grown 30 = .ok (.areturn, 1) := by decide +kernel
theorem dX3_addRow_0 : decode cX3_addRow 0 = .ok (.aload_n 0, 1) := by decide +kernel
theorem dX3_addRow_1 : decode cX3_addRow 1 = .ok (.getfield 26, 3) := by decide +kernel
theorem dX3_addRow_4 : decode cX3_addRow 4 = .ok (.istore_n 3, 1) := by decide +kernel
theorem dX3_addRow_5 : decode cX3_addRow 5 = .ok (.aload_n 0, 1) := by decide +kernel
theorem dX3_addRow_6 : decode cX3_addRow 6 = .ok (.getfield 19, 3) := by decide +kernel
theorem dX3_addRow_9 : decode cX3_addRow 9 = .ok (.iload_n 3, 1) := by decide +kernel
theorem dX3_addRow_10 : decode cX3_addRow 10 = .ok (.aload_n 0, 1) := by decide +kernel
theorem dX3_addRow_11 : decode cX3_addRow 11 = .ok (.getfield 31, 3) := by decide +kernel
theorem dX3_addRow_14 : decode cX3_addRow 14 = .ok (.iastore, 1) := by decide +kernel
theorem dX3_addRow_15 : decode cX3_addRow 15 = .ok (.aload_n 0, 1) := by decide +kernel
theorem dX3_addRow_16 : decode cX3_addRow 16 = .ok (.getfield 23, 3) := by decide +kernel
theorem dX3_addRow_19 : decode cX3_addRow 19 = .ok (.iload_n 3, 1) := by decide +kernel
theorem dX3_addRow_20 : decode cX3_addRow 20 = .ok (.iload_n 1, 1) := by decide +kernel
theorem dX3_addRow_21 : decode cX3_addRow 21 = .ok (.iastore, 1) := by decide +kernel
theorem dX3_addRow_22 : decode cX3_addRow 22 = .ok (.aload_n 0, 1) := by decide +kernel
theorem dX3_addRow_23 : decode cX3_addRow 23 = .ok (.getfield 31, 3) := by decide +kernel
theorem dX3_addRow_26 : decode cX3_addRow 26 = .ok (.istore 4, 2) := by decide +kernel
theorem dX3_addRow_28 : decode cX3_addRow 28 = .ok (.iload 4, 2) := by decide +kernel
theorem dX3_addRow_30 : decode cX3_addRow 30 = .ok (.aload_n 0, 1) := by decide +kernel
theorem dX3_addRow_31 : decode cX3_addRow 31 = .ok (.getfield 31, 3) := by decide +kernel
theorem dX3_addRow_34 : decode cX3_addRow 34 = .ok (.iload_n 1, 1) := by decide +kernel
theorem dX3_addRow_35 : decode cX3_addRow 35 = .ok (.iadd, 1) := by decide +kernel
theorem dX3_addRow_36 : decode cX3_addRow 36 = .ok (.if_icmp .ge 25, 3) := by decide +kernel
theorem dX3_addRow_39 : decode cX3_addRow 39 = .ok (.aload_n 0, 1) := by decide +kernel
theorem dX3_addRow_40 : decode cX3_addRow 40 = .ok (.getfield 9, 3) := by decide +kernel
theorem dX3_addRow_43 : decode cX3_addRow 43 = .ok (.iload 4, 2) := by decide +kernel
theorem dX3_addRow_45 : decode cX3_addRow 45 = .ok (.lconst 0, 1) := by decide +kernel
theorem dX3_addRow_46 : decode cX3_addRow 46 = .ok (.lastore, 1) := by decide +kernel
theorem dX3_addRow_47 : decode cX3_addRow 47 = .ok (.aload_n 0, 1) := by decide +kernel
theorem dX3_addRow_48 : decode cX3_addRow 48 = .ok (.getfield 15, 3) := by decide +kernel
theorem dX3_addRow_51 : decode cX3_addRow 51 = .ok (.iload 4, 2) := by decide +kernel
theorem dX3_addRow_53 : decode cX3_addRow 53 = .ok (.iload_n 2, 1) := by decide +kernel
theorem dX3_addRow_54 : decode cX3_addRow 54 = .ok (.bastore, 1) := by decide +kernel
theorem dX3_addRow_55 : decode cX3_addRow 55 = .ok (.iinc 4 1, 3) := by decide +kernel
theorem dX3_addRow_58 : decode cX3_addRow 58 = .ok (.goto (-30), 3) := by decide +kernel
theorem dX3_addRow_61 : decode cX3_addRow 61 = .ok (.aload_n 0, 1) := by decide +kernel
theorem dX3_addRow_62 : decode cX3_addRow 62 = .ok (.dup, 1) := by decide +kernel
theorem dX3_addRow_63 : decode cX3_addRow 63 = .ok (.getfield 26, 3) := by decide +kernel
theorem dX3_addRow_66 : decode cX3_addRow 66 = .ok (.iconst 1, 1) := by decide +kernel
theorem dX3_addRow_67 : decode cX3_addRow 67 = .ok (.iadd, 1) := by decide +kernel
theorem dX3_addRow_68 : decode cX3_addRow 68 = .ok (.putfield 26, 3) := by decide +kernel
theorem dX3_addRow_71 : decode cX3_addRow 71 = .ok (.aload_n 0, 1) := by decide +kernel
theorem dX3_addRow_72 : decode cX3_addRow 72 = .ok (.dup, 1) := by decide +kernel
theorem dX3_addRow_73 : decode cX3_addRow 73 = .ok (.getfield 31, 3) := by decide +kernel
theorem dX3_addRow_76 : decode cX3_addRow 76 = .ok (.iload_n 1, 1) := by decide +kernel
theorem dX3_addRow_77 : decode cX3_addRow 77 = .ok (.iadd, 1) := by decide +kernel
theorem dX3_addRow_78 : decode cX3_addRow 78 = .ok (.putfield 31, 3) := by decide +kernel
theorem dX3_addRow_81 : decode cX3_addRow 81 = .ok (.iload_n 3, 1) := by decide +kernel
theorem dX3_addRow_82 : decode cX3_addRow 82 = .ok (.ireturn, 1) := by decide +kernel
theorem dX3_forget_0 : decode cX3_forget 0 = .ok (.aload_n 0, 1) := by decide +kernel
theorem dX3_forget_1 : decode cX3_forget 1 = .ok (.iconst 0, 1) := by decide +kernel
theorem dX3_forget_2 : decode cX3_forget 2 = .ok (.putfield 31, 3) := by decide +kernel
theorem dX3_forget_5 : decode cX3_forget 5 = .ok (.aload_n 0, 1) := by decide +kernel
theorem dX3_forget_6 : decode cX3_forget 6 = .ok (.iconst 0, 1) := by decide +kernel
theorem dX3_forget_7 : decode cX3_forget 7 = .ok (.putfield 26, 3) := by decide +kernel
theorem dX3_forget_10 : decode cX3_forget 10 = .ok (.return_, 1) := by decide +kernel
theorem dX3_startOf_0 : decode cX3_startOf 0 = .ok (.iload_n 1, 1) := by decide +kernel
theorem dX3_startOf_1 : decode cX3_startOf 1 = .ok (.iconst (-1), 1) := by decide +kernel
theorem dX3_startOf_2 : decode cX3_startOf 2 = .ok (.if_icmp .ne 7, 3) := by decide +kernel
theorem dX3_startOf_5 : decode cX3_startOf 5 = .ok (.iconst 0, 1) := by decide +kernel
theorem dX3_startOf_6 : decode cX3_startOf 6 = .ok (.goto 9, 3) := by decide +kernel
theorem dX3_startOf_9 : decode cX3_startOf 9 = .ok (.aload_n 0, 1) := by decide +kernel
theorem dX3_startOf_10 : decode cX3_startOf 10 = .ok (.getfield 19, 3) := by decide +kernel
theorem dX3_startOf_13 : decode cX3_startOf 13 = .ok (.iload_n 1, 1) := by decide +kernel
theorem dX3_startOf_14 : decode cX3_startOf 14 = .ok (.iaload, 1) := by decide +kernel
theorem dX3_startOf_15 : decode cX3_startOf 15 = .ok (.ireturn, 1) := by decide +kernel
theorem dX3_lengthOf_0 : decode cX3_lengthOf 0 = .ok (.iload_n 1, 1) := by decide +kernel
theorem dX3_lengthOf_1 : decode cX3_lengthOf 1 = .ok (.iconst (-1), 1) := by decide +kernel
theorem dX3_lengthOf_2 : decode cX3_lengthOf 2 = .ok (.if_icmp .ne 7, 3) := by decide +kernel
theorem dX3_lengthOf_5 : decode cX3_lengthOf 5 = .ok (.iconst 0, 1) := by decide +kernel
theorem dX3_lengthOf_6 : decode cX3_lengthOf 6 = .ok (.goto 9, 3) := by decide +kernel
theorem dX3_lengthOf_9 : decode cX3_lengthOf 9 = .ok (.aload_n 0, 1) := by decide +kernel
theorem dX3_lengthOf_10 : decode cX3_lengthOf 10 = .ok (.getfield 23, 3) := by decide +kernel
theorem dX3_lengthOf_13 : decode cX3_lengthOf 13 = .ok (.iload_n 1, 1) := by decide +kernel
theorem dX3_lengthOf_14 : decode cX3_lengthOf 14 = .ok (.iaload, 1) := by decide +kernel
theorem dX3_lengthOf_15 : decode cX3_lengthOf 15 = .ok (.ireturn, 1) := by decide +kernel
theorem dX3_fill_0 : decode cX3_fill 0 = .ok (.aload_n 0, 1) := by decide +kernel
theorem dX3_fill_1 : decode cX3_fill 1 = .ok (.getfield 9, 3) := by decide +kernel
theorem dX3_fill_4 : decode cX3_fill 4 = .ok (.iload_n 1, 1) := by decide +kernel
theorem dX3_fill_5 : decode cX3_fill 5 = .ok (.lload_n 2, 1) := by decide +kernel
theorem dX3_fill_6 : decode cX3_fill 6 = .ok (.lastore, 1) := by decide +kernel
theorem dX3_fill_7 : decode cX3_fill 7 = .ok (.aload_n 0, 1) := by decide +kernel
theorem dX3_fill_8 : decode cX3_fill 8 = .ok (.getfield 15, 3) := by decide +kernel
theorem dX3_fill_11 : decode cX3_fill 11 = .ok (.iload_n 1, 1) := by decide +kernel
theorem dX3_fill_12 : decode cX3_fill 12 = .ok (.iconst 1, 1) := by decide +kernel
theorem dX3_fill_13 : decode cX3_fill 13 = .ok (.bastore, 1) := by decide +kernel
theorem dX3_fill_14 : decode cX3_fill 14 = .ok (.return_, 1) := by decide +kernel
theorem dX3_drain_0 : decode cX3_drain 0 = .ok (.aload_n 0, 1) := by decide +kernel
theorem dX3_drain_1 : decode cX3_drain 1 = .ok (.getfield 9, 3) := by decide +kernel
theorem dX3_drain_4 : decode cX3_drain 4 = .ok (.iload_n 1, 1) := by decide +kernel
theorem dX3_drain_5 : decode cX3_drain 5 = .ok (.lconst 0, 1) := by decide +kernel
theorem dX3_drain_6 : decode cX3_drain 6 = .ok (.lastore, 1) := by decide +kernel
theorem dX3_drain_7 : decode cX3_drain 7 = .ok (.aload_n 0, 1) := by decide +kernel
theorem dX3_drain_8 : decode cX3_drain 8 = .ok (.getfield 15, 3) := by decide +kernel
theorem dX3_drain_11 : decode cX3_drain 11 = .ok (.iload_n 1, 1) := by decide +kernel
theorem dX3_drain_12 : decode cX3_drain 12 = .ok (.iconst 0, 1) := by decide +kernel
theorem dX3_drain_13 : decode cX3_drain 13 = .ok (.bastore, 1) := by decide +kernel
theorem dX3_drain_14 : decode cX3_drain 14 = .ok (.return_, 1) := by decide +kernel
theorem dX3_copyCells_0 : decode cX3_copyCells 0 = .ok (.iconst 0, 1) := by decide +kernel
theorem dX3_copyCells_1 : decode cX3_copyCells 1 = .ok (.istore 4, 2) := by decide +kernel
theorem dX3_copyCells_3 : decode cX3_copyCells 3 = .ok (.iload 4, 2) := by decide +kernel
theorem dX3_copyCells_5 : decode cX3_copyCells 5 = .ok (.iload_n 3, 1) := by decide +kernel
theorem dX3_copyCells_6 : decode cX3_copyCells 6 = .ok (.if_icmp .ge 45, 3) := by decide +kernel
theorem dX3_copyCells_9 : decode cX3_copyCells 9 = .ok (.aload_n 0, 1) := by decide +kernel
theorem dX3_copyCells_10 : decode cX3_copyCells 10 = .ok (.getfield 9, 3) := by decide +kernel
theorem dX3_copyCells_13 : decode cX3_copyCells 13 = .ok (.iload_n 2, 1) := by decide +kernel
theorem dX3_copyCells_14 : decode cX3_copyCells 14 = .ok (.iload 4, 2) := by decide +kernel
theorem dX3_copyCells_16 : decode cX3_copyCells 16 = .ok (.iadd, 1) := by decide +kernel
theorem dX3_copyCells_17 : decode cX3_copyCells 17 = .ok (.aload_n 0, 1) := by decide +kernel
theorem dX3_copyCells_18 : decode cX3_copyCells 18 = .ok (.getfield 9, 3) := by decide +kernel
theorem dX3_copyCells_21 : decode cX3_copyCells 21 = .ok (.iload_n 1, 1) := by decide +kernel
theorem dX3_copyCells_22 : decode cX3_copyCells 22 = .ok (.iload 4, 2) := by decide +kernel
theorem dX3_copyCells_24 : decode cX3_copyCells 24 = .ok (.iadd, 1) := by decide +kernel
theorem dX3_copyCells_25 : decode cX3_copyCells 25 = .ok (.laload, 1) := by decide +kernel
theorem dX3_copyCells_26 : decode cX3_copyCells 26 = .ok (.lastore, 1) := by decide +kernel
theorem dX3_copyCells_27 : decode cX3_copyCells 27 = .ok (.aload_n 0, 1) := by decide +kernel
theorem dX3_copyCells_28 : decode cX3_copyCells 28 = .ok (.getfield 15, 3) := by decide +kernel
theorem dX3_copyCells_31 : decode cX3_copyCells 31 = .ok (.iload_n 2, 1) := by decide +kernel
theorem dX3_copyCells_32 : decode cX3_copyCells 32 = .ok (.iload 4, 2) := by decide +kernel
theorem dX3_copyCells_34 : decode cX3_copyCells 34 = .ok (.iadd, 1) := by decide +kernel
theorem dX3_copyCells_35 : decode cX3_copyCells 35 = .ok (.aload_n 0, 1) := by decide +kernel
theorem dX3_copyCells_36 : decode cX3_copyCells 36 = .ok (.getfield 15, 3) := by decide +kernel
theorem dX3_copyCells_39 : decode cX3_copyCells 39 = .ok (.iload_n 1, 1) := by decide +kernel
theorem dX3_copyCells_40 : decode cX3_copyCells 40 = .ok (.iload 4, 2) := by decide +kernel
theorem dX3_copyCells_42 : decode cX3_copyCells 42 = .ok (.iadd, 1) := by decide +kernel
theorem dX3_copyCells_43 : decode cX3_copyCells 43 = .ok (.baload, 1) := by decide +kernel
theorem dX3_copyCells_44 : decode cX3_copyCells 44 = .ok (.bastore, 1) := by decide +kernel
theorem dX3_copyCells_45 : decode cX3_copyCells 45 = .ok (.iinc 4 1, 3) := by decide +kernel
theorem dX3_copyCells_48 : decode cX3_copyCells 48 = .ok (.goto (-45), 3) := by decide +kernel
theorem dX3_copyCells_51 : decode cX3_copyCells 51 = .ok (.return_, 1) := by decide +kernel
theorem dX3_totalOf_0 : decode cX3_totalOf 0 = .ok (.lconst 0, 1) := by decide +kernel
theorem dX3_totalOf_1 : decode cX3_totalOf 1 = .ok (.lstore_n 2, 1) := by decide +kernel
theorem dX3_totalOf_2 : decode cX3_totalOf 2 = .ok (.iconst 0, 1) := by decide +kernel
theorem dX3_totalOf_3 : decode cX3_totalOf 3 = .ok (.istore 4, 2) := by decide +kernel
theorem dX3_totalOf_5 : decode cX3_totalOf 5 = .ok (.iload 4, 2) := by decide +kernel
theorem dX3_totalOf_7 : decode cX3_totalOf 7 = .ok (.aload_n 0, 1) := by decide +kernel
theorem dX3_totalOf_8 : decode cX3_totalOf 8 = .ok (.iload_n 1, 1) := by decide +kernel
theorem dX3_totalOf_9 : decode cX3_totalOf 9 = .ok (.invokevirtual 60, 3) := by decide +kernel
theorem dX3_totalOf_12 : decode cX3_totalOf 12 = .ok (.if_icmp .ge 25, 3) := by decide +kernel
theorem dX3_totalOf_15 : decode cX3_totalOf 15 = .ok (.lload_n 2, 1) := by decide +kernel
theorem dX3_totalOf_16 : decode cX3_totalOf 16 = .ok (.aload_n 0, 1) := by decide +kernel
theorem dX3_totalOf_17 : decode cX3_totalOf 17 = .ok (.getfield 9, 3) := by decide +kernel
theorem dX3_totalOf_20 : decode cX3_totalOf 20 = .ok (.aload_n 0, 1) := by decide +kernel
theorem dX3_totalOf_21 : decode cX3_totalOf 21 = .ok (.iload_n 1, 1) := by decide +kernel
theorem dX3_totalOf_22 : decode cX3_totalOf 22 = .ok (.invokevirtual 64, 3) := by decide +kernel
theorem dX3_totalOf_25 : decode cX3_totalOf 25 = .ok (.iload 4, 2) := by decide +kernel
theorem dX3_totalOf_27 : decode cX3_totalOf 27 = .ok (.iadd, 1) := by decide +kernel
theorem dX3_totalOf_28 : decode cX3_totalOf 28 = .ok (.laload, 1) := by decide +kernel
theorem dX3_totalOf_29 : decode cX3_totalOf 29 = .ok (.ladd, 1) := by decide +kernel
theorem dX3_totalOf_30 : decode cX3_totalOf 30 = .ok (.lstore_n 2, 1) := by decide +kernel
theorem dX3_totalOf_31 : decode cX3_totalOf 31 = .ok (.iinc 4 1, 3) := by decide +kernel
theorem dX3_totalOf_34 : decode cX3_totalOf 34 = .ok (.goto (-29), 3) := by decide +kernel
theorem dX3_totalOf_37 : decode cX3_totalOf 37 = .ok (.lload_n 2, 1) := by decide +kernel
theorem dX3_totalOf_38 : decode cX3_totalOf 38 = .ok (.lreturn, 1) := by decide +kernel
theorem dX3_orderOf_0 : decode cX3_orderOf 0 = .ok (.aload_n 0, 1) := by decide +kernel
theorem dX3_orderOf_1 : decode cX3_orderOf 1 = .ok (.iload_n 1, 1) := by decide +kernel
theorem dX3_orderOf_2 : decode cX3_orderOf 2 = .ok (.invokevirtual 60, 3) := by decide +kernel
theorem dX3_orderOf_5 : decode cX3_orderOf 5 = .ok (.aload_n 0, 1) := by decide +kernel
theorem dX3_orderOf_6 : decode cX3_orderOf 6 = .ok (.iload_n 2, 1) := by decide +kernel
theorem dX3_orderOf_7 : decode cX3_orderOf 7 = .ok (.invokevirtual 60, 3) := by decide +kernel
theorem dX3_orderOf_10 : decode cX3_orderOf 10 = .ok (.invokestatic 67, 3) := by decide +kernel
theorem dX3_orderOf_13 : decode cX3_orderOf 13 = .ok (.istore_n 3, 1) := by decide +kernel
theorem dX3_orderOf_14 : decode cX3_orderOf 14 = .ok (.iconst 0, 1) := by decide +kernel
theorem dX3_orderOf_15 : decode cX3_orderOf 15 = .ok (.istore 4, 2) := by decide +kernel
theorem dX3_orderOf_17 : decode cX3_orderOf 17 = .ok (.iload 4, 2) := by decide +kernel
theorem dX3_orderOf_19 : decode cX3_orderOf 19 = .ok (.iload_n 3, 1) := by decide +kernel
theorem dX3_orderOf_20 : decode cX3_orderOf 20 = .ok (.if_icmp .ge 48, 3) := by decide +kernel
theorem dX3_orderOf_23 : decode cX3_orderOf 23 = .ok (.aload_n 0, 1) := by decide +kernel
theorem dX3_orderOf_24 : decode cX3_orderOf 24 = .ok (.getfield 9, 3) := by decide +kernel
theorem dX3_orderOf_27 : decode cX3_orderOf 27 = .ok (.aload_n 0, 1) := by decide +kernel
theorem dX3_orderOf_28 : decode cX3_orderOf 28 = .ok (.iload_n 1, 1) := by decide +kernel
theorem dX3_orderOf_29 : decode cX3_orderOf 29 = .ok (.invokevirtual 64, 3) := by decide +kernel
theorem dX3_orderOf_32 : decode cX3_orderOf 32 = .ok (.iload 4, 2) := by decide +kernel
theorem dX3_orderOf_34 : decode cX3_orderOf 34 = .ok (.iadd, 1) := by decide +kernel
theorem dX3_orderOf_35 : decode cX3_orderOf 35 = .ok (.laload, 1) := by decide +kernel
theorem dX3_orderOf_36 : decode cX3_orderOf 36 = .ok (.aload_n 0, 1) := by decide +kernel
theorem dX3_orderOf_37 : decode cX3_orderOf 37 = .ok (.getfield 9, 3) := by decide +kernel
theorem dX3_orderOf_40 : decode cX3_orderOf 40 = .ok (.aload_n 0, 1) := by decide +kernel
theorem dX3_orderOf_41 : decode cX3_orderOf 41 = .ok (.iload_n 2, 1) := by decide +kernel
theorem dX3_orderOf_42 : decode cX3_orderOf 42 = .ok (.invokevirtual 64, 3) := by decide +kernel
theorem dX3_orderOf_45 : decode cX3_orderOf 45 = .ok (.iload 4, 2) := by decide +kernel
theorem dX3_orderOf_47 : decode cX3_orderOf 47 = .ok (.iadd, 1) := by decide +kernel
theorem dX3_orderOf_48 : decode cX3_orderOf 48 = .ok (.laload, 1) := by decide +kernel
theorem dX3_orderOf_49 : decode cX3_orderOf 49 = .ok (.invokestatic 70, 3) := by decide +kernel
theorem dX3_orderOf_52 : decode cX3_orderOf 52 = .ok (.istore 5, 2) := by decide +kernel
theorem dX3_orderOf_54 : decode cX3_orderOf 54 = .ok (.iload 5, 2) := by decide +kernel
theorem dX3_orderOf_56 : decode cX3_orderOf 56 = .ok (.ifCond .eq 6, 3) := by decide +kernel
theorem dX3_orderOf_59 : decode cX3_orderOf 59 = .ok (.iload 5, 2) := by decide +kernel
theorem dX3_orderOf_61 : decode cX3_orderOf 61 = .ok (.ireturn, 1) := by decide +kernel
theorem dX3_orderOf_62 : decode cX3_orderOf 62 = .ok (.iinc 4 1, 3) := by decide +kernel
theorem dX3_orderOf_65 : decode cX3_orderOf 65 = .ok (.goto (-48), 3) := by decide +kernel
theorem dX3_orderOf_68 : decode cX3_orderOf 68 = .ok (.aload_n 0, 1) := by decide +kernel
theorem dX3_orderOf_69 : decode cX3_orderOf 69 = .ok (.iload_n 1, 1) := by decide +kernel
theorem dX3_orderOf_70 : decode cX3_orderOf 70 = .ok (.invokevirtual 60, 3) := by decide +kernel
theorem dX3_orderOf_73 : decode cX3_orderOf 73 = .ok (.aload_n 0, 1) := by decide +kernel
theorem dX3_orderOf_74 : decode cX3_orderOf 74 = .ok (.iload_n 2, 1) := by decide +kernel
theorem dX3_orderOf_75 : decode cX3_orderOf 75 = .ok (.invokevirtual 60, 3) := by decide +kernel
theorem dX3_orderOf_78 : decode cX3_orderOf 78 = .ok (.invokestatic 76, 3) := by decide +kernel
theorem dX3_orderOf_81 : decode cX3_orderOf 81 = .ok (.ireturn, 1) := by decide +kernel
