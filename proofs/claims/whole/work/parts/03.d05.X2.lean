theorem dX2_init_0 : decode cX2_init 0 = .ok (.aload_n 0, 1) := by decide +kernel
theorem dX2_init_1 : decode cX2_init 1 = .ok (.invokespecial 3, 3) := by decide +kernel
theorem dX2_init_4 : decode cX2_init 4 = .ok (.aload_n 0, 1) := by decide +kernel
theorem dX2_init_5 : decode cX2_init 5 = .ok (.iconst 3, 1) := by decide +kernel
theorem dX2_init_6 : decode cX2_init 6 = .ok (.newarray .int, 2) := by decide +kernel
theorem dX2_init_8 : decode cX2_init 8 = .ok (.putfield 9, 3) := by decide +kernel
theorem dX2_init_11 : decode cX2_init 11 = .ok (.aload_n 0, 1) := by decide +kernel
theorem dX2_init_12 : decode cX2_init 12 = .ok (.iconst 3, 1) := by decide +kernel
theorem dX2_init_13 : decode cX2_init 13 = .ok (.newarray .int, 2) := by decide +kernel
theorem dX2_init_15 : decode cX2_init 15 = .ok (.putfield 15, 3) := by decide +kernel
theorem dX2_init_18 : decode cX2_init 18 = .ok (.return_, 1) := by decide +kernel
theorem dX2_add_0 : decode cX2_add 0 = .ok (.aload_n 0, 1) := by decide +kernel
theorem dX2_add_1 : decode cX2_add 1 = .ok (.getfield 18, 3) := by decide +kernel
theorem dX2_add_4 : decode cX2_add 4 = .ok (.iconst 3, 1) := by decide +kernel
theorem dX2_add_5 : decode cX2_add 5 = .ok (.if_icmp .ge 33, 3) := by decide +kernel
theorem dX2_add_8 : decode cX2_add 8 = .ok (.aload_n 0, 1) := by decide +kernel
theorem dX2_add_9 : decode cX2_add 9 = .ok (.getfield 9, 3) := by decide +kernel
theorem dX2_add_12 : decode cX2_add 12 = .ok (.aload_n 0, 1) := by decide +kernel
theorem dX2_add_13 : decode cX2_add 13 = .ok (.getfield 18, 3) := by decide +kernel
theorem dX2_add_16 : decode cX2_add 16 = .ok (.iload_n 1, 1) := by decide +kernel
theorem dX2_add_17 : decode cX2_add 17 = .ok (.iastore, 1) := by decide +kernel
theorem dX2_add_18 : decode cX2_add 18 = .ok (.aload_n 0, 1) := by decide +kernel
theorem dX2_add_19 : decode cX2_add 19 = .ok (.getfield 15, 3) := by decide +kernel
theorem dX2_add_22 : decode cX2_add 22 = .ok (.aload_n 0, 1) := by decide +kernel
theorem dX2_add_23 : decode cX2_add 23 = .ok (.getfield 18, 3) := by decide +kernel
theorem dX2_add_26 : decode cX2_add 26 = .ok (.iload_n 2, 1) := by decide +kernel
theorem dX2_add_27 : decode cX2_add 27 = .ok (.iastore, 1) := by decide +kernel
theorem dX2_add_28 : decode cX2_add 28 = .ok (.aload_n 0, 1) := by decide +kernel
theorem dX2_add_29 : decode cX2_add 29 = .ok (.dup, 1) := by decide +kernel
theorem dX2_add_30 : decode cX2_add 30 = .ok (.getfield 18, 3) := by decide +kernel
theorem dX2_add_33 : decode cX2_add 33 = .ok (.iconst 1, 1) := by decide +kernel
theorem dX2_add_34 : decode cX2_add 34 = .ok (.iadd, 1) := by decide +kernel
theorem dX2_add_35 : decode cX2_add 35 = .ok (.putfield 18, 3) := by decide +kernel
theorem dX2_add_38 : decode cX2_add 38 = .ok (.return_, 1) := by decide +kernel
theorem dX2_addAll_0 : decode cX2_addAll 0 = .ok (.iconst 0, 1) := by decide +kernel
theorem dX2_addAll_1 : decode cX2_addAll 1 = .ok (.istore_n 2, 1) := by decide +kernel
theorem dX2_addAll_2 : decode cX2_addAll 2 = .ok (.iload_n 2, 1) := by decide +kernel
theorem dX2_addAll_3 : decode cX2_addAll 3 = .ok (.aload_n 1, 1) := by decide +kernel
theorem dX2_addAll_4 : decode cX2_addAll 4 = .ok (.getfield 18, 3) := by decide +kernel
theorem dX2_addAll_7 : decode cX2_addAll 7 = .ok (.if_icmp .ge 25, 3) := by decide +kernel
theorem dX2_addAll_10 : decode cX2_addAll 10 = .ok (.aload_n 0, 1) := by decide +kernel
theorem dX2_addAll_11 : decode cX2_addAll 11 = .ok (.aload_n 1, 1) := by decide +kernel
theorem dX2_addAll_12 : decode cX2_addAll 12 = .ok (.getfield 9, 3) := by decide +kernel
theorem dX2_addAll_15 : decode cX2_addAll 15 = .ok (.iload_n 2, 1) := by decide +kernel
theorem dX2_addAll_16 : decode cX2_addAll 16 = .ok (.iaload, 1) := by decide +kernel
theorem dX2_addAll_17 : decode cX2_addAll 17 = .ok (.aload_n 1, 1) := by decide +kernel
theorem dX2_addAll_18 : decode cX2_addAll 18 = .ok (.getfield 15, 3) := by decide +kernel
theorem dX2_addAll_21 : decode cX2_addAll 21 = .ok (.iload_n 2, 1) := by decide +kernel
theorem dX2_addAll_22 : decode cX2_addAll 22 = .ok (.iaload, 1) := by decide +kernel
theorem dX2_addAll_23 : decode cX2_addAll 23 = .ok (.invokevirtual 22, 3) := by decide +kernel
theorem dX2_addAll_26 : decode cX2_addAll 26 = .ok (.iinc 2 1, 3) := by decide +kernel
theorem dX2_addAll_29 : decode cX2_addAll 29 = .ok (.goto (-27), 3) := by decide +kernel
theorem dX2_addAll_32 : decode cX2_addAll 32 = .ok (.return_, 1) := by decide +kernel
theorem dX2_swapFirstTwo_0 : decode cX2_swapFirstTwo 0 = .ok (.aload_n 0, 1) := by decide +kernel
theorem dX2_swapFirstTwo_1 : decode cX2_swapFirstTwo 1 = .ok (.getfield 9, 3) := by decide +kernel
theorem dX2_swapFirstTwo_4 : decode cX2_swapFirstTwo 4 = .ok (.iconst 0, 1) := by decide +kernel
theorem dX2_swapFirstTwo_5 : decode cX2_swapFirstTwo 5 = .ok (.iaload, 1) := by decide +kernel
theorem dX2_swapFirstTwo_6 : decode cX2_swapFirstTwo 6 = .ok (.istore_n 1, 1) := by decide +kernel
theorem dX2_swapFirstTwo_7 : decode cX2_swapFirstTwo 7 = .ok (.aload_n 0, 1) := by decide +kernel
theorem dX2_swapFirstTwo_8 : decode cX2_swapFirstTwo 8 = .ok (.getfield 15, 3) := by decide +kernel
theorem dX2_swapFirstTwo_11 : decode cX2_swapFirstTwo 11 = .ok (.iconst 0, 1) := by decide +kernel
theorem dX2_swapFirstTwo_12 : decode cX2_swapFirstTwo 12 = .ok (.iaload, 1) := by decide +kernel
theorem dX2_swapFirstTwo_13 : decode cX2_swapFirstTwo 13 = .ok (.istore_n 2, 1) := by decide +kernel
theorem dX2_swapFirstTwo_14 : decode cX2_swapFirstTwo 14 = .ok (.aload_n 0, 1) := by decide +kernel
theorem dX2_swapFirstTwo_15 : decode cX2_swapFirstTwo 15 = .ok (.getfield 9, 3) := by decide +kernel
theorem dX2_swapFirstTwo_18 : decode cX2_swapFirstTwo 18 = .ok (.iconst 0, 1) := by decide +kernel
theorem dX2_swapFirstTwo_19 : decode cX2_swapFirstTwo 19 = .ok (.aload_n 0, 1) := by decide +kernel
theorem dX2_swapFirstTwo_20 : decode cX2_swapFirstTwo 20 = .ok (.getfield 9, 3) := by decide +kernel
theorem dX2_swapFirstTwo_23 : decode cX2_swapFirstTwo 23 = .ok (.iconst 1, 1) := by decide +kernel
theorem dX2_swapFirstTwo_24 : decode cX2_swapFirstTwo 24 = .ok (.iaload, 1) := by decide +kernel
theorem dX2_swapFirstTwo_25 : decode cX2_swapFirstTwo 25 = .ok (.iastore, 1) := by decide +kernel
theorem dX2_swapFirstTwo_26 : decode cX2_swapFirstTwo 26 = .ok (.aload_n 0, 1) := by decide +kernel
theorem dX2_swapFirstTwo_27 : decode cX2_swapFirstTwo 27 = .ok (.getfield 15, 3) := by decide +kernel
theorem dX2_swapFirstTwo_30 : decode cX2_swapFirstTwo 30 = .ok (.iconst 0, 1) := by decide +kernel
theorem dX2_swapFirstTwo_31 : decode cX2_swapFirstTwo 31 = .ok (.aload_n 0, 1) := by decide +kernel
theorem dX2_swapFirstTwo_32 : decode cX2_swapFirstTwo 32 = .ok (.getfield 15, 3) := by decide +kernel
theorem dX2_swapFirstTwo_35 : decode cX2_swapFirstTwo 35 = .ok (.iconst 1, 1) := by decide +kernel
theorem dX2_swapFirstTwo_36 : decode cX2_swapFirstTwo 36 = .ok (.iaload, 1) := by decide +kernel
theorem dX2_swapFirstTwo_37 : decode cX2_swapFirstTwo 37 = .ok (.iastore, 1) := by decide +kernel
theorem dX2_swapFirstTwo_38 : decode cX2_swapFirstTwo 38 = .ok (.aload_n 0, 1) := by decide +kernel
theorem dX2_swapFirstTwo_39 : decode cX2_swapFirstTwo 39 = .ok (.getfield 9, 3) := by decide +kernel
theorem dX2_swapFirstTwo_42 : decode cX2_swapFirstTwo 42 = .ok (.iconst 1, 1) := by decide +kernel
theorem dX2_swapFirstTwo_43 : decode cX2_swapFirstTwo 43 = .ok (.iload_n 1, 1) := by decide +kernel
theorem dX2_swapFirstTwo_44 : decode cX2_swapFirstTwo 44 = .ok (.iastore, 1) := by decide +kernel
theorem dX2_swapFirstTwo_45 : decode cX2_swapFirstTwo 45 = .ok (.aload_n 0, 1) := by decide +kernel
theorem dX2_swapFirstTwo_46 : decode cX2_swapFirstTwo 46 = .ok (.getfield 15, 3) := by decide +kernel
theorem dX2_swapFirstTwo_49 : decode cX2_swapFirstTwo 49 = .ok (.iconst 1, 1) := by decide +kernel
theorem dX2_swapFirstTwo_50 : decode cX2_swapFirstTwo 50 = .ok (.iload_n 2, 1) := by decide +kernel
theorem dX2_swapFirstTwo_51 : decode cX2_swapFirstTwo 51 = .ok (.iastore, 1) := by decide +kernel
theorem dX2_swapFirstTwo_52 : decode cX2_swapFirstTwo 52 = .ok (.return_, 1) := by decide +kernel
theorem dX2_length_0 : decode cX2_length 0 = .ok (.iload_n 1, 1) := by decide +kernel
theorem dX2_length_1 : decode cX2_length 1 = .ok (.aload_n 0, 1) := by decide +kernel
theorem dX2_length_2 : decode cX2_length 2 = .ok (.getfield 18, 3) := by decide +kernel
theorem dX2_length_5 : decode cX2_length 5 = .ok (.if_icmp .lt 5, 3) := by decide +kernel
theorem dX2_length_8 : decode cX2_length 8 = .ok (.lconst 1, 1) := by decide +kernel
theorem dX2_length_9 : decode cX2_length 9 = .ok (.lreturn, 1) := by decide +kernel
theorem dX2_length_10 : decode cX2_length 10 = .ok (.lconst 0, 1) := by decide +kernel
theorem dX2_length_11 : decode cX2_length 11 = .ok (.aload_n 0, 1) := by decide +kernel
theorem dX2_length_12 : decode cX2_length 12 = .ok (.getfield 15, 3) := by decide +kernel
theorem dX2_length_15 : decode cX2_length 15 = .ok (.iload_n 1, 1) := by decide +kernel
theorem dX2_length_16 : decode cX2_length 16 = .ok (.iaload, 1) := by decide +kernel
theorem dX2_length_17 : decode cX2_length 17 = .ok (.i2l, 1) := by decide +kernel
theorem dX2_length_18 : decode cX2_length 18 = .ok (.aload_n 0, 1) := by decide +kernel
theorem dX2_length_19 : decode cX2_length 19 = .ok (.getfield 9, 3) := by decide +kernel
theorem dX2_length_22 : decode cX2_length 22 = .ok (.iload_n 1, 1) := by decide +kernel
theorem dX2_length_23 : decode cX2_length 23 = .ok (.iaload, 1) := by decide +kernel
theorem dX2_length_24 : decode cX2_length 24 = .ok (.i2l, 1) := by decide +kernel
theorem dX2_length_25 : decode cX2_length 25 = .ok (.lsub, 1) := by decide +kernel
theorem dX2_length_26 : decode cX2_length 26 = .ok (.lconst 1, 1) := by decide +kernel
theorem dX2_length_27 : decode cX2_length 27 = .ok (.ladd, 1) := by decide +kernel
theorem dX2_length_28 : decode cX2_length 28 = .ok (.invokestatic 26, 3) := by decide +kernel
theorem dX2_length_31 : decode cX2_length 31 = .ok (.lreturn, 1) := by decide +kernel
theorem dX2_items_0 : decode cX2_items 0 = .ok (.lconst 1, 1) := by decide +kernel
theorem dX2_items_1 : decode cX2_items 1 = .ok (.lstore_n 1, 1) := by decide +kernel
theorem dX2_items_2 : decode cX2_items 2 = .ok (.iconst 0, 1) := by decide +kernel
theorem dX2_items_3 : decode cX2_items 3 = .ok (.istore_n 3, 1) := by decide +kernel
theorem dX2_items_4 : decode cX2_items 4 = .ok (.iload_n 3, 1) := by decide +kernel
theorem dX2_items_5 : decode cX2_items 5 = .ok (.aload_n 0, 1) := by decide +kernel
theorem dX2_items_6 : decode cX2_items 6 = .ok (.getfield 18, 3) := by decide +kernel
theorem dX2_items_9 : decode cX2_items 9 = .ok (.if_icmp .ge 23, 3) := by decide +kernel
theorem dX2_items_12 : decode cX2_items 12 = .ok (.lload_n 1, 1) := by decide +kernel
theorem dX2_items_13 : decode cX2_items 13 = .ok (.ldc2_w 32, 3) := by decide +kernel
theorem dX2_items_16 : decode cX2_items 16 = .ok (.invokestatic 34, 3) := by decide +kernel
theorem dX2_items_19 : decode cX2_items 19 = .ok (.aload_n 0, 1) := by decide +kernel
theorem dX2_items_20 : decode cX2_items 20 = .ok (.iload_n 3, 1) := by decide +kernel
theorem dX2_items_21 : decode cX2_items 21 = .ok (.invokevirtual 37, 3) := by decide +kernel
theorem dX2_items_24 : decode cX2_items 24 = .ok (.lmul, 1) := by decide +kernel
theorem dX2_items_25 : decode cX2_items 25 = .ok (.lstore_n 1, 1) := by decide +kernel
theorem dX2_items_26 : decode cX2_items 26 = .ok (.iinc 3 1, 3) := by decide +kernel
theorem dX2_items_29 : decode cX2_items 29 = .ok (.goto (-25), 3) := by decide +kernel
theorem dX2_items_32 : decode cX2_items 32 = .ok (.lload_n 1, 1) := by decide +kernel
theorem dX2_items_33 : decode cX2_items 33 = .ok (.ldc2_w 32, 3) := by decide +kernel
theorem dX2_items_36 : decode cX2_items 36 = .ok (.invokestatic 34, 3) := by decide +kernel
theorem dX2_items_39 : decode cX2_items 39 = .ok (.l2i, 1) := by decide +kernel
theorem dX2_items_40 : decode cX2_items 40 = .ok (.ireturn, 1) := by decide +kernel
theorem dX2_holds_0 : decode cX2_holds 0 = .ok (.aload_n 0, 1) := by decide +kernel
theorem dX2_holds_1 : decode cX2_holds 1 = .ok (.getfield 9, 3) := by decide +kernel
theorem dX2_holds_4 : decode cX2_holds 4 = .ok (.iload_n 1, 1) := by decide +kernel
theorem dX2_holds_5 : decode cX2_holds 5 = .ok (.iaload, 1) := by decide +kernel
theorem dX2_holds_6 : decode cX2_holds 6 = .ok (.iload_n 2, 1) := by decide +kernel
theorem dX2_holds_7 : decode cX2_holds 7 = .ok (.if_icmp .gt 17, 3) := by decide +kernel
theorem dX2_holds_10 : decode cX2_holds 10 = .ok (.iload_n 2, 1) := by decide +kernel
theorem dX2_holds_11 : decode cX2_holds 11 = .ok (.aload_n 0, 1) := by decide +kernel
theorem dX2_holds_12 : decode cX2_holds 12 = .ok (.getfield 15, 3) := by decide +kernel
theorem dX2_holds_15 : decode cX2_holds 15 = .ok (.iload_n 1, 1) := by decide +kernel
theorem dX2_holds_16 : decode cX2_holds 16 = .ok (.iaload, 1) := by decide +kernel
theorem dX2_holds_17 : decode cX2_holds 17 = .ok (.if_icmp .gt 7, 3) := by decide +kernel
theorem dX2_holds_20 : decode cX2_holds 20 = .ok (.iconst 1, 1) := by decide +kernel
theorem dX2_holds_21 : decode cX2_holds 21 = .ok (.goto 4, 3) := by decide +kernel
theorem dX2_holds_24 : decode cX2_holds 24 = .ok (.iconst 0, 1) := by decide +kernel
theorem dX2_holds_25 : decode cX2_holds 25 = .ok (.ireturn, 1) := by decide +kernel
theorem dX2_offset_0 : decode cX2_offset 0 = .ok (.iload_n 2, 1) := by decide +kernel
theorem dX2_offset_1 : decode cX2_offset 1 = .ok (.aload_n 0, 1) := by decide +kernel
theorem dX2_offset_2 : decode cX2_offset 2 = .ok (.getfield 9, 3) := by decide +kernel
theorem dX2_offset_5 : decode cX2_offset 5 = .ok (.iload_n 1, 1) := by decide +kernel
theorem dX2_offset_6 : decode cX2_offset 6 = .ok (.iaload, 1) := by decide +kernel
theorem dX2_offset_7 : decode cX2_offset 7 = .ok (.isub, 1) := by decide +kernel
theorem dX2_offset_8 : decode cX2_offset 8 = .ok (.ireturn, 1) := by decide +kernel
theorem dX2_firstBeyond_0 : decode cX2_firstBeyond 0 = .ok (.iconst 0, 1) := by decide +kernel
theorem dX2_firstBeyond_1 : decode cX2_firstBeyond 1 = .ok (.istore 4, 2) := by decide +kernel
theorem dX2_firstBeyond_3 : decode cX2_firstBeyond 3 = .ok (.iload 4, 2) := by decide +kernel
theorem dX2_firstBeyond_5 : decode cX2_firstBeyond 5 = .ok (.aload_n 0, 1) := by decide +kernel
theorem dX2_firstBeyond_6 : decode cX2_firstBeyond 6 = .ok (.getfield 18, 3) := by decide +kernel
theorem dX2_firstBeyond_9 : decode cX2_firstBeyond 9 = .ok (.if_icmp .ge 29, 3) := by decide +kernel
theorem dX2_firstBeyond_12 : decode cX2_firstBeyond 12 = .ok (.aload_n 0, 1) := by decide +kernel
theorem dX2_firstBeyond_13 : decode cX2_firstBeyond 13 = .ok (.iload 4, 2) := by decide +kernel
theorem dX2_firstBeyond_15 : decode cX2_firstBeyond 15 = .ok (.iload 4, 2) := by decide +kernel
theorem dX2_firstBeyond_17 : decode cX2_firstBeyond 17 = .ok (.iload_n 1, 1) := by decide +kernel
theorem dX2_firstBeyond_18 : decode cX2_firstBeyond 18 = .ok (.iload_n 2, 1) := by decide +kernel
theorem dX2_firstBeyond_19 : decode cX2_firstBeyond 19 = .ok (.iload_n 3, 1) := by decide +kernel
theorem dX2_firstBeyond_20 : decode cX2_firstBeyond 20 = .ok (.invokestatic 41, 3) := by decide +kernel
theorem dX2_firstBeyond_23 : decode cX2_firstBeyond 23 = .ok (.invokevirtual 45, 3) := by decide +kernel
theorem dX2_firstBeyond_26 : decode cX2_firstBeyond 26 = .ok (.ifCond .ne 6, 3) := by decide +kernel
theorem dX2_firstBeyond_29 : decode cX2_firstBeyond 29 = .ok (.iload 4, 2) := by decide +kernel
theorem dX2_firstBeyond_31 : decode cX2_firstBeyond 31 = .ok (.ireturn, 1) := by decide +kernel
theorem dX2_firstBeyond_32 : decode cX2_firstBeyond 32 = .ok (.iinc 4 1, 3) := by decide +kernel
theorem dX2_firstBeyond_35 : decode cX2_firstBeyond 35 = .ok (.goto (-32), 3) := by decide +kernel
theorem dX2_firstBeyond_38 : decode cX2_firstBeyond 38 = .ok (.iconst (-1), 1) := by decide +kernel
theorem dX2_firstBeyond_39 : decode cX2_firstBeyond 39 = .ok (.ireturn, 1) := by decide +kernel
theorem dX2_place_0 : decode cX2_place 0 = .ok (.iconst 0, 1) := by decide +kernel
theorem dX2_place_1 : decode cX2_place 1 = .ok (.istore 4, 2) := by decide +kernel
theorem dX2_place_3 : decode cX2_place 3 = .ok (.iconst 0, 1) := by decide +kernel
theorem dX2_place_4 : decode cX2_place 4 = .ok (.istore 5, 2) := by decide +kernel
theorem dX2_place_6 : decode cX2_place 6 = .ok (.iload 5, 2) := by decide +kernel
theorem dX2_place_8 : decode cX2_place 8 = .ok (.aload_n 0, 1) := by decide +kernel
theorem dX2_place_9 : decode cX2_place 9 = .ok (.getfield 18, 3) := by decide +kernel
theorem dX2_place_12 : decode cX2_place 12 = .ok (.if_icmp .ge 36, 3) := by decide +kernel
theorem dX2_place_15 : decode cX2_place 15 = .ok (.iload 4, 2) := by decide +kernel
theorem dX2_place_17 : decode cX2_place 17 = .ok (.aload_n 0, 1) := by decide +kernel
theorem dX2_place_18 : decode cX2_place 18 = .ok (.iload 5, 2) := by decide +kernel
theorem dX2_place_20 : decode cX2_place 20 = .ok (.invokevirtual 37, 3) := by decide +kernel
theorem dX2_place_23 : decode cX2_place 23 = .ok (.l2i, 1) := by decide +kernel
theorem dX2_place_24 : decode cX2_place 24 = .ok (.imul, 1) := by decide +kernel
theorem dX2_place_25 : decode cX2_place 25 = .ok (.aload_n 0, 1) := by decide +kernel
theorem dX2_place_26 : decode cX2_place 26 = .ok (.iload 5, 2) := by decide +kernel
theorem dX2_place_28 : decode cX2_place 28 = .ok (.iload 5, 2) := by decide +kernel
theorem dX2_place_30 : decode cX2_place 30 = .ok (.iload_n 1, 1) := by decide +kernel
theorem dX2_place_31 : decode cX2_place 31 = .ok (.iload_n 2, 1) := by decide +kernel
theorem dX2_place_32 : decode cX2_place 32 = .ok (.iload_n 3, 1) := by decide +kernel
theorem dX2_place_33 : decode cX2_place 33 = .ok (.invokestatic 41, 3) := by decide +kernel
theorem dX2_place_36 : decode cX2_place 36 = .ok (.invokevirtual 49, 3) := by decide +kernel
theorem dX2_place_39 : decode cX2_place 39 = .ok (.iadd, 1) := by decide +kernel
theorem dX2_place_40 : decode cX2_place 40 = .ok (.istore 4, 2) := by decide +kernel
theorem dX2_place_42 : decode cX2_place 42 = .ok (.iinc 5 1, 3) := by decide +kernel
theorem dX2_place_45 : decode cX2_place 45 = .ok (.goto (-39), 3) := by decide +kernel
theorem dX2_place_48 : decode cX2_place 48 = .ok (.iload 4, 2) := by decide +kernel
theorem dX2_place_50 : decode cX2_place 50 = .ok (.ireturn, 1) := by decide +kernel
theorem dX2_indexOf_0 : decode cX2_indexOf 0 = .ok (.iload_n 0, 1) := by decide +kernel
theorem dX2_indexOf_1 : decode cX2_indexOf 1 = .ok (.ifCond .ne 5, 3) := by decide +kernel
theorem dX2_indexOf_4 : decode cX2_indexOf 4 = .ok (.iload_n 1, 1) := by decide +kernel
theorem dX2_indexOf_5 : decode cX2_indexOf 5 = .ok (.ireturn, 1) := by decide +kernel
theorem dX2_indexOf_6 : decode cX2_indexOf 6 = .ok (.iload_n 0, 1) := by decide +kernel
theorem dX2_indexOf_7 : decode cX2_indexOf 7 = .ok (.iconst 1, 1) := by decide +kernel
theorem dX2_indexOf_8 : decode cX2_indexOf 8 = .ok (.if_icmp .ne 7, 3) := by decide +kernel
theorem dX2_indexOf_11 : decode cX2_indexOf 11 = .ok (.iload_n 2, 1) := by decide +kernel
theorem dX2_indexOf_12 : decode cX2_indexOf 12 = .ok (.goto 4, 3) := by decide +kernel
theorem dX2_indexOf_15 : decode cX2_indexOf 15 = .ok (.iload_n 3, 1) := by decide +kernel
theorem dX2_indexOf_16 : decode cX2_indexOf 16 = .ok (.ireturn, 1) := by decide +kernel
