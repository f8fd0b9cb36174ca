theorem dX0_init_0 : decode cX0_init 0 = .ok (.aload_n 0, 1) := by decide +kernel
theorem dX0_init_1 : decode cX0_init 1 = .ok (.invokespecial 3, 3) := by decide +kernel
theorem dX0_init_4 : decode cX0_init 4 = .ok (.aload_n 0, 1) := by decide +kernel
theorem dX0_init_5 : decode cX0_init 5 = .ok (.sipush 2040, 3) := by decide +kernel
theorem dX0_init_8 : decode cX0_init 8 = .ok (.newarray .int, 2) := by decide +kernel
theorem dX0_init_10 : decode cX0_init 10 = .ok (.putfield 11, 3) := by decide +kernel
theorem dX0_init_13 : decode cX0_init 13 = .ok (.return_, 1) := by decide +kernel
theorem dX0_forget_0 : decode cX0_forget 0 = .ok (.aload_n 0, 1) := by decide +kernel
theorem dX0_forget_1 : decode cX0_forget 1 = .ok (.iconst 0, 1) := by decide +kernel
theorem dX0_forget_2 : decode cX0_forget 2 = .ok (.putfield 17, 3) := by decide +kernel
theorem dX0_forget_5 : decode cX0_forget 5 = .ok (.return_, 1) := by decide +kernel
theorem dX0_keep_0 : decode cX0_keep 0 = .ok (.aload_n 0, 1) := by decide +kernel
theorem dX0_keep_1 : decode cX0_keep 1 = .ok (.dup, 1) := by decide +kernel
theorem dX0_keep_2 : decode cX0_keep 2 = .ok (.getfield 21, 3) := by decide +kernel
theorem dX0_keep_5 : decode cX0_keep 5 = .ok (.iconst 1, 1) := by decide +kernel
theorem dX0_keep_6 : decode cX0_keep 6 = .ok (.iadd, 1) := by decide +kernel
theorem dX0_keep_7 : decode cX0_keep 7 = .ok (.putfield 21, 3) := by decide +kernel
theorem dX0_keep_10 : decode cX0_keep 10 = .ok (.aload_n 1, 1) := by decide +kernel
theorem dX0_keep_11 : decode cX0_keep 11 = .ok (.getfield 24, 3) := by decide +kernel
theorem dX0_keep_14 : decode cX0_keep 14 = .ok (.iconst 0, 1) := by decide +kernel
theorem dX0_keep_15 : decode cX0_keep 15 = .ok (.aload_n 0, 1) := by decide +kernel
theorem dX0_keep_16 : decode cX0_keep 16 = .ok (.getfield 11, 3) := by decide +kernel
theorem dX0_keep_19 : decode cX0_keep 19 = .ok (.aload_n 0, 1) := by decide +kernel
theorem dX0_keep_20 : decode cX0_keep 20 = .ok (.getfield 21, 3) := by decide +kernel
theorem dX0_keep_23 : decode cX0_keep 23 = .ok (.bipush 40, 2) := by decide +kernel
theorem dX0_keep_25 : decode cX0_keep 25 = .ok (.invokestatic 27, 3) := by decide +kernel
theorem dX0_keep_28 : decode cX0_keep 28 = .ok (.bipush 51, 2) := by decide +kernel
theorem dX0_keep_30 : decode cX0_keep 30 = .ok (.imul, 1) := by decide +kernel
theorem dX0_keep_31 : decode cX0_keep 31 = .ok (.bipush 51, 2) := by decide +kernel
theorem dX0_keep_33 : decode cX0_keep 33 = .ok (.invokestatic 33, 3) := by decide +kernel
theorem dX0_keep_36 : decode cX0_keep 36 = .ok (.aload_n 0, 1) := by decide +kernel
theorem dX0_keep_37 : decode cX0_keep 37 = .ok (.aload_n 0, 1) := by decide +kernel
theorem dX0_keep_38 : decode cX0_keep 38 = .ok (.getfield 17, 3) := by decide +kernel
theorem dX0_keep_41 : decode cX0_keep 41 = .ok (.iconst 1, 1) := by decide +kernel
theorem dX0_keep_42 : decode cX0_keep 42 = .ok (.iadd, 1) := by decide +kernel
theorem dX0_keep_43 : decode cX0_keep 43 = .ok (.bipush 40, 2) := by decide +kernel
theorem dX0_keep_45 : decode cX0_keep 45 = .ok (.invokestatic 39, 3) := by decide +kernel
theorem dX0_keep_48 : decode cX0_keep 48 = .ok (.putfield 17, 3) := by decide +kernel
theorem dX0_keep_51 : decode cX0_keep 51 = .ok (.return_, 1) := by decide +kernel
theorem dX0_restore_0 : decode cX0_restore 0 = .ok (.aload_n 0, 1) := by decide +kernel
theorem dX0_restore_1 : decode cX0_restore 1 = .ok (.getfield 17, 3) := by decide +kernel
theorem dX0_restore_4 : decode cX0_restore 4 = .ok (.iconst 1, 1) := by decide +kernel
theorem dX0_restore_5 : decode cX0_restore 5 = .ok (.if_icmp .ge 5, 3) := by decide +kernel
theorem dX0_restore_8 : decode cX0_restore 8 = .ok (.iconst (-1), 1) := by decide +kernel
theorem dX0_restore_9 : decode cX0_restore 9 = .ok (.ireturn, 1) := by decide +kernel
theorem dX0_restore_10 : decode cX0_restore 10 = .ok (.aload_n 0, 1) := by decide +kernel
theorem dX0_restore_11 : decode cX0_restore 11 = .ok (.getfield 11, 3) := by decide +kernel
theorem dX0_restore_14 : decode cX0_restore 14 = .ok (.aload_n 0, 1) := by decide +kernel
theorem dX0_restore_15 : decode cX0_restore 15 = .ok (.getfield 21, 3) := by decide +kernel
theorem dX0_restore_18 : decode cX0_restore 18 = .ok (.bipush 40, 2) := by decide +kernel
theorem dX0_restore_20 : decode cX0_restore 20 = .ok (.invokestatic 27, 3) := by decide +kernel
theorem dX0_restore_23 : decode cX0_restore 23 = .ok (.bipush 51, 2) := by decide +kernel
theorem dX0_restore_25 : decode cX0_restore 25 = .ok (.imul, 1) := by decide +kernel
theorem dX0_restore_26 : decode cX0_restore 26 = .ok (.aload_n 1, 1) := by decide +kernel
theorem dX0_restore_27 : decode cX0_restore 27 = .ok (.getfield 24, 3) := by decide +kernel
theorem dX0_restore_30 : decode cX0_restore 30 = .ok (.iconst 0, 1) := by decide +kernel
theorem dX0_restore_31 : decode cX0_restore 31 = .ok (.bipush 51, 2) := by decide +kernel
theorem dX0_restore_33 : decode cX0_restore 33 = .ok (.invokestatic 33, 3) := by decide +kernel
theorem dX0_restore_36 : decode cX0_restore 36 = .ok (.aload_n 0, 1) := by decide +kernel
theorem dX0_restore_37 : decode cX0_restore 37 = .ok (.dup, 1) := by decide +kernel
theorem dX0_restore_38 : decode cX0_restore 38 = .ok (.getfield 21, 3) := by decide +kernel
theorem dX0_restore_41 : decode cX0_restore 41 = .ok (.iconst 1, 1) := by decide +kernel
theorem dX0_restore_42 : decode cX0_restore 42 = .ok (.isub, 1) := by decide +kernel
theorem dX0_restore_43 : decode cX0_restore 43 = .ok (.putfield 21, 3) := by decide +kernel
theorem dX0_restore_46 : decode cX0_restore 46 = .ok (.aload_n 0, 1) := by decide +kernel
theorem dX0_restore_47 : decode cX0_restore 47 = .ok (.dup, 1) := by decide +kernel
theorem dX0_restore_48 : decode cX0_restore 48 = .ok (.getfield 17, 3) := by decide +kernel
theorem dX0_restore_51 : decode cX0_restore 51 = .ok (.iconst 1, 1) := by decide +kernel
theorem dX0_restore_52 : decode cX0_restore 52 = .ok (.isub, 1) := by decide +kernel
theorem dX0_restore_53 : decode cX0_restore 53 = .ok (.putfield 17, 3) := by decide +kernel
theorem dX0_restore_56 : decode cX0_restore 56 = .ok (.aload_n 0, 1) := by decide +kernel
theorem dX0_restore_57 : decode cX0_restore 57 = .ok (.getfield 17, 3) := by decide +kernel
theorem dX0_restore_60 : decode cX0_restore 60 = .ok (.ireturn, 1) := by decide +kernel
theorem dX1_init_0 : decode cX1_init 0 = .ok (.aload_n 0, 1) := by decide +kernel
theorem dX1_init_1 : decode cX1_init 1 = .ok (.invokespecial 3, 3) := by decide +kernel
theorem dX1_init_4 : decode cX1_init 4 = .ok (.aload_n 0, 1) := by decide +kernel
theorem dX1_init_5 : decode cX1_init 5 = .ok (.sipush 128, 3) := by decide +kernel
theorem dX1_init_8 : decode cX1_init 8 = .ok (.newarray .int, 2) := by decide +kernel
theorem dX1_init_10 : decode cX1_init 10 = .ok (.putfield 11, 3) := by decide +kernel
theorem dX1_init_13 : decode cX1_init 13 = .ok (.aload_n 0, 1) := by decide +kernel
theorem dX1_init_14 : decode cX1_init 14 = .ok (.iconst 4, 1) := by decide +kernel
theorem dX1_init_15 : decode cX1_init 15 = .ok (.newarray .int, 2) := by decide +kernel
theorem dX1_init_17 : decode cX1_init 17 = .ok (.putfield 15, 3) := by decide +kernel
theorem dX1_init_20 : decode cX1_init 20 = .ok (.aload_n 0, 1) := by decide +kernel
theorem dX1_init_21 : decode cX1_init 21 = .ok (.bipush 8, 2) := by decide +kernel
theorem dX1_init_23 : decode cX1_init 23 = .ok (.newarray .int, 2) := by decide +kernel
theorem dX1_init_25 : decode cX1_init 25 = .ok (.putfield 18, 3) := by decide +kernel
theorem dX1_init_28 : decode cX1_init 28 = .ok (.return_, 1) := by decide +kernel
theorem dX1_many_0 : decode cX1_many 0 = .ok (.aload_n 0, 1) := by decide +kernel
theorem dX1_many_1 : decode cX1_many 1 = .ok (.getfield 15, 3) := by decide +kernel
theorem dX1_many_4 : decode cX1_many 4 = .ok (.iload_n 1, 1) := by decide +kernel
theorem dX1_many_5 : decode cX1_many 5 = .ok (.invokestatic 21, 3) := by decide +kernel
theorem dX1_many_8 : decode cX1_many 8 = .ok (.ireturn, 1) := by decide +kernel
theorem dX1_has_0 : decode cX1_has 0 = .ok (.iload_n 2, 1) := by decide +kernel
theorem dX1_has_1 : decode cX1_has 1 = .ok (.ifCond .lt 16, 3) := by decide +kernel
theorem dX1_has_4 : decode cX1_has 4 = .ok (.iload_n 2, 1) := by decide +kernel
theorem dX1_has_5 : decode cX1_has 5 = .ok (.aload_n 0, 1) := by decide +kernel
theorem dX1_has_6 : decode cX1_has 6 = .ok (.iload_n 1, 1) := by decide +kernel
theorem dX1_has_7 : decode cX1_has 7 = .ok (.invokevirtual 25, 3) := by decide +kernel
theorem dX1_has_10 : decode cX1_has 10 = .ok (.if_icmp .ge 7, 3) := by decide +kernel
theorem dX1_has_13 : decode cX1_has 13 = .ok (.iconst 1, 1) := by decide +kernel
theorem dX1_has_14 : decode cX1_has 14 = .ok (.goto 4, 3) := by decide +kernel
theorem dX1_has_17 : decode cX1_has 17 = .ok (.iconst 0, 1) := by decide +kernel
theorem dX1_has_18 : decode cX1_has 18 = .ok (.ireturn, 1) := by decide +kernel
theorem dX1_item_0 : decode cX1_item 0 = .ok (.aload_n 0, 1) := by decide +kernel
theorem dX1_item_1 : decode cX1_item 1 = .ok (.getfield 11, 3) := by decide +kernel
theorem dX1_item_4 : decode cX1_item 4 = .ok (.iload_n 1, 1) := by decide +kernel
theorem dX1_item_5 : decode cX1_item 5 = .ok (.iload_n 2, 1) := by decide +kernel
theorem dX1_item_6 : decode cX1_item 6 = .ok (.iload_n 3, 1) := by decide +kernel
theorem dX1_item_7 : decode cX1_item 7 = .ok (.invokestatic 29, 3) := by decide +kernel
theorem dX1_item_10 : decode cX1_item 10 = .ok (.invokestatic 21, 3) := by decide +kernel
theorem dX1_item_13 : decode cX1_item 13 = .ok (.ireturn, 1) := by decide +kernel
theorem dX1_cellOf_0 : decode cX1_cellOf 0 = .ok (.iload_n 0, 1) := by decide +kernel
theorem dX1_cellOf_1 : decode cX1_cellOf 1 = .ok (.bipush 8, 2) := by decide +kernel
theorem dX1_cellOf_3 : decode cX1_cellOf 3 = .ok (.imul, 1) := by decide +kernel
theorem dX1_cellOf_4 : decode cX1_cellOf 4 = .ok (.iload_n 1, 1) := by decide +kernel
theorem dX1_cellOf_5 : decode cX1_cellOf 5 = .ok (.iadd, 1) := by decide +kernel
theorem dX1_cellOf_6 : decode cX1_cellOf 6 = .ok (.iconst 4, 1) := by decide +kernel
theorem dX1_cellOf_7 : decode cX1_cellOf 7 = .ok (.imul, 1) := by decide +kernel
theorem dX1_cellOf_8 : decode cX1_cellOf 8 = .ok (.iload_n 2, 1) := by decide +kernel
theorem dX1_cellOf_9 : decode cX1_cellOf 9 = .ok (.iadd, 1) := by decide +kernel
theorem dX1_cellOf_10 : decode cX1_cellOf 10 = .ok (.ireturn, 1) := by decide +kernel
theorem dX1_wants_0 : decode cX1_wants 0 = .ok (.aload_n 0, 1) := by decide +kernel
theorem dX1_wants_1 : decode cX1_wants 1 = .ok (.getfield 18, 3) := by decide +kernel
theorem dX1_wants_4 : decode cX1_wants 4 = .ok (.iload_n 1, 1) := by decide +kernel
theorem dX1_wants_5 : decode cX1_wants 5 = .ok (.invokestatic 21, 3) := by decide +kernel
theorem dX1_wants_8 : decode cX1_wants 8 = .ok (.ireturn, 1) := by decide +kernel
theorem dX1_take_0 : decode cX1_take 0 = .ok (.aload_n 1, 1) := by decide +kernel
theorem dX1_take_1 : decode cX1_take 1 = .ok (.getfield 11, 3) := by decide +kernel
theorem dX1_take_4 : decode cX1_take 4 = .ok (.iconst 0, 1) := by decide +kernel
theorem dX1_take_5 : decode cX1_take 5 = .ok (.aload_n 0, 1) := by decide +kernel
theorem dX1_take_6 : decode cX1_take 6 = .ok (.getfield 11, 3) := by decide +kernel
theorem dX1_take_9 : decode cX1_take 9 = .ok (.iconst 0, 1) := by decide +kernel
theorem dX1_take_10 : decode cX1_take 10 = .ok (.aload_n 0, 1) := by decide +kernel
theorem dX1_take_11 : decode cX1_take 11 = .ok (.getfield 11, 3) := by decide +kernel
theorem dX1_take_14 : decode cX1_take 14 = .ok (.arraylength, 1) := by decide +kernel
theorem dX1_take_15 : decode cX1_take 15 = .ok (.invokestatic 33, 3) := by decide +kernel
theorem dX1_take_18 : decode cX1_take 18 = .ok (.aload_n 1, 1) := by decide +kernel
theorem dX1_take_19 : decode cX1_take 19 = .ok (.getfield 15, 3) := by decide +kernel
theorem dX1_take_22 : decode cX1_take 22 = .ok (.iconst 0, 1) := by decide +kernel
theorem dX1_take_23 : decode cX1_take 23 = .ok (.aload_n 0, 1) := by decide +kernel
theorem dX1_take_24 : decode cX1_take 24 = .ok (.getfield 15, 3) := by decide +kernel
theorem dX1_take_27 : decode cX1_take 27 = .ok (.iconst 0, 1) := by decide +kernel
theorem dX1_take_28 : decode cX1_take 28 = .ok (.aload_n 0, 1) := by decide +kernel
theorem dX1_take_29 : decode cX1_take 29 = .ok (.getfield 15, 3) := by decide +kernel
theorem dX1_take_32 : decode cX1_take 32 = .ok (.arraylength, 1) := by decide +kernel
theorem dX1_take_33 : decode cX1_take 33 = .ok (.invokestatic 33, 3) := by decide +kernel
theorem dX1_take_36 : decode cX1_take 36 = .ok (.aload_n 1, 1) := by decide +kernel
theorem dX1_take_37 : decode cX1_take 37 = .ok (.getfield 18, 3) := by decide +kernel
theorem dX1_take_40 : decode cX1_take 40 = .ok (.iconst 0, 1) := by decide +kernel
theorem dX1_take_41 : decode cX1_take 41 = .ok (.aload_n 0, 1) := by decide +kernel
theorem dX1_take_42 : decode cX1_take 42 = .ok (.getfield 18, 3) := by decide +kernel
theorem dX1_take_45 : decode cX1_take 45 = .ok (.iconst 0, 1) := by decide +kernel
theorem dX1_take_46 : decode cX1_take 46 = .ok (.aload_n 0, 1) := by decide +kernel
theorem dX1_take_47 : decode cX1_take 47 = .ok (.getfield 18, 3) := by decide +kernel
theorem dX1_take_50 : decode cX1_take 50 = .ok (.arraylength, 1) := by decide +kernel
theorem dX1_take_51 : decode cX1_take 51 = .ok (.invokestatic 33, 3) := by decide +kernel
theorem dX1_take_54 : decode cX1_take 54 = .ok (.return_, 1) := by decide +kernel
theorem dX1_read_0 : decode cX1_read 0 = .ok (.aload_n 1, 1) := by decide +kernel
theorem dX1_read_1 : decode cX1_read 1 = .ok (.invokevirtual 39, 3) := by decide +kernel
theorem dX1_read_4 : decode cX1_read 4 = .ok (.aload_n 0, 1) := by decide +kernel
theorem dX1_read_5 : decode cX1_read 5 = .ok (.getfield 15, 3) := by decide +kernel
theorem dX1_read_8 : decode cX1_read 8 = .ok (.iconst 0, 1) := by decide +kernel
theorem dX1_read_9 : decode cX1_read 9 = .ok (.invokestatic 44, 3) := by decide +kernel
theorem dX1_read_12 : decode cX1_read 12 = .ok (.aload_n 0, 1) := by decide +kernel
theorem dX1_read_13 : decode cX1_read 13 = .ok (.iconst 0, 1) := by decide +kernel
theorem dX1_read_14 : decode cX1_read 14 = .ok (.iconst 0, 1) := by decide +kernel
theorem dX1_read_15 : decode cX1_read 15 = .ok (.invokevirtual 50, 3) := by decide +kernel
theorem dX1_read_18 : decode cX1_read 18 = .ok (.aload_n 0, 1) := by decide +kernel
theorem dX1_read_19 : decode cX1_read 19 = .ok (.aload_n 1, 1) := by decide +kernel
theorem dX1_read_20 : decode cX1_read 20 = .ok (.invokevirtual 54, 3) := by decide +kernel
theorem dX1_read_23 : decode cX1_read 23 = .ok (.iconst 1, 1) := by decide +kernel
theorem dX1_read_24 : decode cX1_read 24 = .ok (.istore_n 2, 1) := by decide +kernel
theorem dX1_read_25 : decode cX1_read 25 = .ok (.iload_n 2, 1) := by decide +kernel
theorem dX1_read_26 : decode cX1_read 26 = .ok (.sipush 240, 3) := by decide +kernel
theorem dX1_read_29 : decode cX1_read 29 = .ok (.if_icmp .ge 23, 3) := by decide +kernel
theorem dX1_read_32 : decode cX1_read 32 = .ok (.aload_n 1, 1) := by decide +kernel
theorem dX1_read_33 : decode cX1_read 33 = .ok (.bipush 59, 2) := by decide +kernel
theorem dX1_read_35 : decode cX1_read 35 = .ok (.invokevirtual 58, 3) := by decide +kernel
theorem dX1_read_38 : decode cX1_read 38 = .ok (.ifCond .eq 14, 3) := by decide +kernel
theorem dX1_read_41 : decode cX1_read 41 = .ok (.aload_n 0, 1) := by decide +kernel
theorem dX1_read_42 : decode cX1_read 42 = .ok (.aload_n 1, 1) := by decide +kernel
theorem dX1_read_43 : decode cX1_read 43 = .ok (.invokevirtual 54, 3) := by decide +kernel
theorem dX1_read_46 : decode cX1_read 46 = .ok (.iinc 2 1, 3) := by decide +kernel
theorem dX1_read_49 : decode cX1_read 49 = .ok (.goto (-24), 3) := by decide +kernel
theorem dX1_read_52 : decode cX1_read 52 = .ok (.aload_n 1, 1) := by decide +kernel
theorem dX1_read_53 : decode cX1_read 53 = .ok (.invokevirtual 62, 3) := by decide +kernel
theorem dX1_read_56 : decode cX1_read 56 = .ok (.iconst (-1), 1) := by decide +kernel
theorem dX1_read_57 : decode cX1_read 57 = .ok (.if_icmp .ne 18, 3) := by decide +kernel
theorem dX1_read_60 : decode cX1_read 60 = .ok (.aload_n 0, 1) := by decide +kernel
theorem dX1_read_61 : decode cX1_read 61 = .ok (.invokevirtual 66, 3) := by decide +kernel
theorem dX1_read_64 : decode cX1_read 64 = .ok (.ifCond .ne 11, 3) := by decide +kernel
theorem dX1_read_67 : decode cX1_read 67 = .ok (.aload_n 1, 1) := by decide +kernel
theorem dX1_read_68 : decode cX1_read 68 = .ok (.aload_n 1, 1) := by decide +kernel
theorem dX1_read_69 : decode cX1_read 69 = .ok (.getfield 70, 3) := by decide +kernel
theorem dX1_read_72 : decode cX1_read 72 = .ok (.invokevirtual 74, 3) := by decide +kernel
theorem dX1_read_75 : decode cX1_read 75 = .ok (.aload_n 1, 1) := by decide +kernel
theorem dX1_read_76 : decode cX1_read 76 = .ok (.getfield 78, 3) := by decide +kernel
theorem dX1_read_79 : decode cX1_read 79 = .ok (.ireturn, 1) := by decide +kernel
theorem dX1_useUntold_0 : decode cX1_useUntold 0 = .ok (.iconst 0, 1) := by decide +kernel
theorem dX1_useUntold_1 : decode cX1_useUntold 1 = .ok (.istore_n 3, 1) := by decide +kernel
theorem dX1_useUntold_2 : decode cX1_useUntold 2 = .ok (.iload_n 3, 1) := by decide +kernel
theorem dX1_useUntold_3 : decode cX1_useUntold 3 = .ok (.iconst 4, 1) := by decide +kernel
theorem dX1_useUntold_4 : decode cX1_useUntold 4 = .ok (.if_icmp .ge 33, 3) := by decide +kernel
theorem dX1_useUntold_7 : decode cX1_useUntold 7 = .ok (.aload_n 0, 1) := by decide +kernel
theorem dX1_useUntold_8 : decode cX1_useUntold 8 = .ok (.getfield 11, 3) := by decide +kernel
theorem dX1_useUntold_11 : decode cX1_useUntold 11 = .ok (.iload_n 1, 1) := by decide +kernel
theorem dX1_useUntold_12 : decode cX1_useUntold 12 = .ok (.iload_n 2, 1) := by decide +kernel
theorem dX1_useUntold_13 : decode cX1_useUntold 13 = .ok (.iload_n 3, 1) := by decide +kernel
theorem dX1_useUntold_14 : decode cX1_useUntold 14 = .ok (.invokestatic 29, 3) := by decide +kernel
theorem dX1_useUntold_17 : decode cX1_useUntold 17 = .ok (.getstatic 81, 3) := by decide +kernel
theorem dX1_useUntold_20 : decode cX1_useUntold 20 = .ok (.iload_n 1, 1) := by decide +kernel
theorem dX1_useUntold_21 : decode cX1_useUntold 21 = .ok (.iconst 4, 1) := by decide +kernel
theorem dX1_useUntold_22 : decode cX1_useUntold 22 = .ok (.imul, 1) := by decide +kernel
theorem dX1_useUntold_23 : decode cX1_useUntold 23 = .ok (.iload_n 3, 1) := by decide +kernel
theorem dX1_useUntold_24 : decode cX1_useUntold 24 = .ok (.iadd, 1) := by decide +kernel
theorem dX1_useUntold_25 : decode cX1_useUntold 25 = .ok (.invokestatic 21, 3) := by decide +kernel
theorem dX1_useUntold_28 : decode cX1_useUntold 28 = .ok (.invokestatic 84, 3) := by decide +kernel
theorem dX1_useUntold_31 : decode cX1_useUntold 31 = .ok (.iinc 3 1, 3) := by decide +kernel
theorem dX1_useUntold_34 : decode cX1_useUntold 34 = .ok (.goto (-32), 3) := by decide +kernel
theorem dX1_useUntold_37 : decode cX1_useUntold 37 = .ok (.return_, 1) := by decide +kernel
theorem dX1_readClause_0 : decode cX1_readClause 0 = .ok (.ldc 88, 2) := by decide +kernel
theorem dX1_readClause_2 : decode cX1_readClause 2 = .ok (.aload_n 1, 1) := by decide +kernel
theorem dX1_readClause_3 : decode cX1_readClause 3 = .ok (.invokevirtual 90, 3) := by decide +kernel
theorem dX1_readClause_6 : decode cX1_readClause 6 = .ok (.invokestatic 93, 3) := by decide +kernel
theorem dX1_readClause_9 : decode cX1_readClause 9 = .ok (.istore_n 2, 1) := by decide +kernel
theorem dX1_readClause_10 : decode cX1_readClause 10 = .ok (.iload_n 2, 1) := by decide +kernel
theorem dX1_readClause_11 : decode cX1_readClause 11 = .ok (.ifCond .lt 18, 3) := by decide +kernel
theorem dX1_readClause_14 : decode cX1_readClause 14 = .ok (.aload_n 0, 1) := by decide +kernel
theorem dX1_readClause_15 : decode cX1_readClause 15 = .ok (.iload_n 2, 1) := by decide +kernel
theorem dX1_readClause_16 : decode cX1_readClause 16 = .ok (.invokevirtual 25, 3) := by decide +kernel
theorem dX1_readClause_19 : decode cX1_readClause 19 = .ok (.getstatic 97, 3) := by decide +kernel
theorem dX1_readClause_22 : decode cX1_readClause 22 = .ok (.iload_n 2, 1) := by decide +kernel
theorem dX1_readClause_23 : decode cX1_readClause 23 = .ok (.invokestatic 21, 3) := by decide +kernel
theorem dX1_readClause_26 : decode cX1_readClause 26 = .ok (.if_icmp .lt 12, 3) := by decide +kernel
theorem dX1_readClause_29 : decode cX1_readClause 29 = .ok (.aload_n 1, 1) := by decide +kernel
theorem dX1_readClause_30 : decode cX1_readClause 30 = .ok (.aload_n 1, 1) := by decide +kernel
theorem dX1_readClause_31 : decode cX1_readClause 31 = .ok (.getfield 100, 3) := by decide +kernel
theorem dX1_readClause_34 : decode cX1_readClause 34 = .ok (.invokevirtual 74, 3) := by decide +kernel
theorem dX1_readClause_37 : decode cX1_readClause 37 = .ok (.return_, 1) := by decide +kernel
theorem dX1_readClause_38 : decode cX1_readClause 38 = .ok (.aload_n 1, 1) := by decide +kernel
theorem dX1_readClause_39 : decode cX1_readClause 39 = .ok (.dup, 1) := by decide +kernel
theorem dX1_readClause_40 : decode cX1_readClause 40 = .ok (.getfield 100, 3) := by decide +kernel
theorem dX1_readClause_43 : decode cX1_readClause 43 = .ok (.iconst 1, 1) := by decide +kernel
theorem dX1_readClause_44 : decode cX1_readClause 44 = .ok (.iadd, 1) := by decide +kernel
theorem dX1_readClause_45 : decode cX1_readClause 45 = .ok (.putfield 100, 3) := by decide +kernel
theorem dX1_readClause_48 : decode cX1_readClause 48 = .ok (.aload_n 0, 1) := by decide +kernel
theorem dX1_readClause_49 : decode cX1_readClause 49 = .ok (.iload_n 2, 1) := by decide +kernel
theorem dX1_readClause_50 : decode cX1_readClause 50 = .ok (.invokevirtual 25, 3) := by decide +kernel
theorem dX1_readClause_53 : decode cX1_readClause 53 = .ok (.istore_n 3, 1) := by decide +kernel
theorem dX1_readClause_54 : decode cX1_readClause 54 = .ok (.aload_n 0, 1) := by decide +kernel
theorem dX1_readClause_55 : decode cX1_readClause 55 = .ok (.getfield 15, 3) := by decide +kernel
theorem dX1_readClause_58 : decode cX1_readClause 58 = .ok (.iload_n 2, 1) := by decide +kernel
theorem dX1_readClause_59 : decode cX1_readClause 59 = .ok (.iload_n 3, 1) := by decide +kernel
theorem dX1_readClause_60 : decode cX1_readClause 60 = .ok (.iconst 1, 1) := by decide +kernel
theorem dX1_readClause_61 : decode cX1_readClause 61 = .ok (.iadd, 1) := by decide +kernel
theorem dX1_readClause_62 : decode cX1_readClause 62 = .ok (.invokestatic 84, 3) := by decide +kernel
theorem dX1_readClause_65 : decode cX1_readClause 65 = .ok (.aload_n 0, 1) := by decide +kernel
theorem dX1_readClause_66 : decode cX1_readClause 66 = .ok (.iload_n 2, 1) := by decide +kernel
theorem dX1_readClause_67 : decode cX1_readClause 67 = .ok (.iload_n 3, 1) := by decide +kernel
theorem dX1_readClause_68 : decode cX1_readClause 68 = .ok (.invokevirtual 50, 3) := by decide +kernel
theorem dX1_readClause_71 : decode cX1_readClause 71 = .ok (.aload_n 0, 1) := by decide +kernel
theorem dX1_readClause_72 : decode cX1_readClause 72 = .ok (.aload_n 1, 1) := by decide +kernel
theorem dX1_readClause_73 : decode cX1_readClause 73 = .ok (.iload_n 2, 1) := by decide +kernel
theorem dX1_readClause_74 : decode cX1_readClause 74 = .ok (.iload_n 3, 1) := by decide +kernel
theorem dX1_readClause_75 : decode cX1_readClause 75 = .ok (.invokevirtual 103, 3) := by decide +kernel
theorem dX1_readClause_78 : decode cX1_readClause 78 = .ok (.return_, 1) := by decide +kernel
theorem dX1_readItems_0 : decode cX1_readItems 0 = .ok (.iconst 0, 1) := by decide +kernel
theorem dX1_readItems_1 : decode cX1_readItems 1 = .ok (.istore 4, 2) := by decide +kernel
theorem dX1_readItems_3 : decode cX1_readItems 3 = .ok (.iload_n 2, 1) := by decide +kernel
theorem dX1_readItems_4 : decode cX1_readItems 4 = .ok (.aload_n 1, 1) := by decide +kernel
theorem dX1_readItems_5 : decode cX1_readItems 5 = .ok (.invokevirtual 90, 3) := by decide +kernel
theorem dX1_readItems_8 : decode cX1_readItems 8 = .ok (.invokestatic 107, 3) := by decide +kernel
theorem dX1_readItems_11 : decode cX1_readItems 11 = .ok (.istore 5, 2) := by decide +kernel
theorem dX1_readItems_13 : decode cX1_readItems 13 = .ok (.iconst 0, 1) := by decide +kernel
theorem dX1_readItems_14 : decode cX1_readItems 14 = .ok (.istore 6, 2) := by decide +kernel
theorem dX1_readItems_16 : decode cX1_readItems 16 = .ok (.iload 6, 2) := by decide +kernel
theorem dX1_readItems_18 : decode cX1_readItems 18 = .ok (.iconst 4, 1) := by decide +kernel
theorem dX1_readItems_19 : decode cX1_readItems 19 = .ok (.if_icmp .ge 121, 3) := by decide +kernel
theorem dX1_readItems_22 : decode cX1_readItems 22 = .ok (.iload 5, 2) := by decide +kernel
theorem dX1_readItems_24 : decode cX1_readItems 24 = .ok (.iconst (-1), 1) := by decide +kernel
theorem dX1_readItems_25 : decode cX1_readItems 25 = .ok (.if_icmp .eq 115, 3) := by decide +kernel
theorem dX1_readItems_28 : decode cX1_readItems 28 = .ok (.iload 4, 2) := by decide +kernel
theorem dX1_readItems_30 : decode cX1_readItems 30 = .ok (.iload 5, 2) := by decide +kernel
theorem dX1_readItems_32 : decode cX1_readItems 32 = .ok (.invokestatic 111, 3) := by decide +kernel
theorem dX1_readItems_35 : decode cX1_readItems 35 = .ok (.ifCond .ne 105, 3) := by decide +kernel
theorem dX1_readItems_38 : decode cX1_readItems 38 = .ok (.iload 4, 2) := by decide +kernel
theorem dX1_readItems_40 : decode cX1_readItems 40 = .ok (.iconst 1, 1) := by decide +kernel
theorem dX1_readItems_41 : decode cX1_readItems 41 = .ok (.iload 5, 2) := by decide +kernel
theorem dX1_readItems_43 : decode cX1_readItems 43 = .ok (.ishl, 1) := by decide +kernel
theorem dX1_readItems_44 : decode cX1_readItems 44 = .ok (.ior, 1) := by decide +kernel
theorem dX1_readItems_45 : decode cX1_readItems 45 = .ok (.istore 4, 2) := by decide +kernel
theorem dX1_readItems_47 : decode cX1_readItems 47 = .ok (.aload_n 1, 1) := by decide +kernel
theorem dX1_readItems_48 : decode cX1_readItems 48 = .ok (.dup, 1) := by decide +kernel
theorem dX1_readItems_49 : decode cX1_readItems 49 = .ok (.getfield 100, 3) := by decide +kernel
theorem dX1_readItems_52 : decode cX1_readItems 52 = .ok (.iconst 1, 1) := by decide +kernel
theorem dX1_readItems_53 : decode cX1_readItems 53 = .ok (.iadd, 1) := by decide +kernel
theorem dX1_readItems_54 : decode cX1_readItems 54 = .ok (.putfield 100, 3) := by decide +kernel
theorem dX1_readItems_57 : decode cX1_readItems 57 = .ok (.aload_n 1, 1) := by decide +kernel
theorem dX1_readItems_58 : decode cX1_readItems 58 = .ok (.iconst 2, 1) := by decide +kernel
theorem dX1_readItems_59 : decode cX1_readItems 59 = .ok (.invokevirtual 115, 3) := by decide +kernel
theorem dX1_readItems_62 : decode cX1_readItems 62 = .ok (.istore 7, 2) := by decide +kernel
theorem dX1_readItems_64 : decode cX1_readItems 64 = .ok (.iload 7, 2) := by decide +kernel
theorem dX1_readItems_66 : decode cX1_readItems 66 = .ok (.getstatic 118, 3) := by decide +kernel
theorem dX1_readItems_69 : decode cX1_readItems 69 = .ok (.iload_n 2, 1) := by decide +kernel
theorem dX1_readItems_70 : decode cX1_readItems 70 = .ok (.iconst 4, 1) := by decide +kernel
theorem dX1_readItems_71 : decode cX1_readItems 71 = .ok (.imul, 1) := by decide +kernel
theorem dX1_readItems_72 : decode cX1_readItems 72 = .ok (.iload 5, 2) := by decide +kernel
theorem dX1_readItems_74 : decode cX1_readItems 74 = .ok (.iadd, 1) := by decide +kernel
theorem dX1_readItems_75 : decode cX1_readItems 75 = .ok (.invokestatic 21, 3) := by decide +kernel
theorem dX1_readItems_78 : decode cX1_readItems 78 = .ok (.if_icmp .lt 20, 3) := by decide +kernel
theorem dX1_readItems_81 : decode cX1_readItems 81 = .ok (.iload 7, 2) := by decide +kernel
theorem dX1_readItems_83 : decode cX1_readItems 83 = .ok (.getstatic 121, 3) := by decide +kernel
theorem dX1_readItems_86 : decode cX1_readItems 86 = .ok (.iload_n 2, 1) := by decide +kernel
theorem dX1_readItems_87 : decode cX1_readItems 87 = .ok (.iconst 4, 1) := by decide +kernel
theorem dX1_readItems_88 : decode cX1_readItems 88 = .ok (.imul, 1) := by decide +kernel
theorem dX1_readItems_89 : decode cX1_readItems 89 = .ok (.iload 5, 2) := by decide +kernel
theorem dX1_readItems_91 : decode cX1_readItems 91 = .ok (.iadd, 1) := by decide +kernel
theorem dX1_readItems_92 : decode cX1_readItems 92 = .ok (.invokestatic 21, 3) := by decide +kernel
theorem dX1_readItems_95 : decode cX1_readItems 95 = .ok (.if_icmp .le 13, 3) := by decide +kernel
theorem dX1_readItems_98 : decode cX1_readItems 98 = .ok (.aload_n 1, 1) := by decide +kernel
theorem dX1_readItems_99 : decode cX1_readItems 99 = .ok (.aload_n 1, 1) := by decide +kernel
theorem dX1_readItems_100 : decode cX1_readItems 100 = .ok (.getfield 100, 3) := by decide +kernel
theorem dX1_readItems_103 : decode cX1_readItems 103 = .ok (.iconst 1, 1) := by decide +kernel
theorem dX1_readItems_104 : decode cX1_readItems 104 = .ok (.isub, 1) := by decide +kernel
theorem dX1_readItems_105 : decode cX1_readItems 105 = .ok (.invokevirtual 74, 3) := by decide +kernel
theorem dX1_readItems_108 : decode cX1_readItems 108 = .ok (.aload_n 0, 1) := by decide +kernel
theorem dX1_readItems_109 : decode cX1_readItems 109 = .ok (.getfield 11, 3) := by decide +kernel
theorem dX1_readItems_112 : decode cX1_readItems 112 = .ok (.iload_n 2, 1) := by decide +kernel
theorem dX1_readItems_113 : decode cX1_readItems 113 = .ok (.iload_n 3, 1) := by decide +kernel
theorem dX1_readItems_114 : decode cX1_readItems 114 = .ok (.iload 5, 2) := by decide +kernel
theorem dX1_readItems_116 : decode cX1_readItems 116 = .ok (.invokestatic 29, 3) := by decide +kernel
theorem dX1_readItems_119 : decode cX1_readItems 119 = .ok (.iload 7, 2) := by decide +kernel
theorem dX1_readItems_121 : decode cX1_readItems 121 = .ok (.invokestatic 84, 3) := by decide +kernel
theorem dX1_readItems_124 : decode cX1_readItems 124 = .ok (.iload_n 2, 1) := by decide +kernel
theorem dX1_readItems_125 : decode cX1_readItems 125 = .ok (.aload_n 1, 1) := by decide +kernel
theorem dX1_readItems_126 : decode cX1_readItems 126 = .ok (.invokevirtual 90, 3) := by decide +kernel
theorem dX1_readItems_129 : decode cX1_readItems 129 = .ok (.invokestatic 107, 3) := by decide +kernel
theorem dX1_readItems_132 : decode cX1_readItems 132 = .ok (.istore 5, 2) := by decide +kernel
theorem dX1_readItems_134 : decode cX1_readItems 134 = .ok (.iinc 6 1, 3) := by decide +kernel
theorem dX1_readItems_137 : decode cX1_readItems 137 = .ok (.goto (-121), 3) := by decide +kernel
theorem dX1_readItems_140 : decode cX1_readItems 140 = .ok (.return_, 1) := by decide +kernel
theorem dX1_itemOf_0 : decode cX1_itemOf 0 = .ok (.iconst 0, 1) := by decide +kernel
theorem dX1_itemOf_1 : decode cX1_itemOf 1 = .ok (.istore_n 2, 1) := by decide +kernel
theorem dX1_itemOf_2 : decode cX1_itemOf 2 = .ok (.iload_n 2, 1) := by decide +kernel
theorem dX1_itemOf_3 : decode cX1_itemOf 3 = .ok (.iconst 4, 1) := by decide +kernel
theorem dX1_itemOf_4 : decode cX1_itemOf 4 = .ok (.if_icmp .ge 40, 3) := by decide +kernel
theorem dX1_itemOf_7 : decode cX1_itemOf 7 = .ok (.iload_n 0, 1) := by decide +kernel
theorem dX1_itemOf_8 : decode cX1_itemOf 8 = .ok (.iconst 4, 1) := by decide +kernel
theorem dX1_itemOf_9 : decode cX1_itemOf 9 = .ok (.imul, 1) := by decide +kernel
theorem dX1_itemOf_10 : decode cX1_itemOf 10 = .ok (.iload_n 2, 1) := by decide +kernel
theorem dX1_itemOf_11 : decode cX1_itemOf 11 = .ok (.iadd, 1) := by decide +kernel
theorem dX1_itemOf_12 : decode cX1_itemOf 12 = .ok (.istore_n 3, 1) := by decide +kernel
theorem dX1_itemOf_13 : decode cX1_itemOf 13 = .ok (.iload_n 3, 1) := by decide +kernel
theorem dX1_itemOf_14 : decode cX1_itemOf 14 = .ok (.ifCond .lt 24, 3) := by decide +kernel
theorem dX1_itemOf_17 : decode cX1_itemOf 17 = .ok (.iload_n 3, 1) := by decide +kernel
theorem dX1_itemOf_18 : decode cX1_itemOf 18 = .ok (.ldc 124, 2) := by decide +kernel
theorem dX1_itemOf_20 : decode cX1_itemOf 20 = .ok (.invokevirtual 126, 3) := by decide +kernel
theorem dX1_itemOf_23 : decode cX1_itemOf 23 = .ok (.if_icmp .ge 15, 3) := by decide +kernel
theorem dX1_itemOf_26 : decode cX1_itemOf 26 = .ok (.ldc 124, 2) := by decide +kernel
theorem dX1_itemOf_28 : decode cX1_itemOf 28 = .ok (.iload_n 3, 1) := by decide +kernel
theorem dX1_itemOf_29 : decode cX1_itemOf 29 = .ok (.invokevirtual 130, 3) := by decide +kernel
theorem dX1_itemOf_32 : decode cX1_itemOf 32 = .ok (.iload_n 1, 1) := by decide +kernel
theorem dX1_itemOf_33 : decode cX1_itemOf 33 = .ok (.if_icmp .ne 5, 3) := by decide +kernel
theorem dX1_itemOf_36 : decode cX1_itemOf 36 = .ok (.iload_n 2, 1) := by decide +kernel
theorem dX1_itemOf_37 : decode cX1_itemOf 37 = .ok (.ireturn, 1) := by decide +kernel
theorem dX1_itemOf_38 : decode cX1_itemOf 38 = .ok (.iinc 2 1, 3) := by decide +kernel
theorem dX1_itemOf_41 : decode cX1_itemOf 41 = .ok (.goto (-39), 3) := by decide +kernel
theorem dX1_itemOf_44 : decode cX1_itemOf 44 = .ok (.iconst (-1), 1) := by decide +kernel
theorem dX1_itemOf_45 : decode cX1_itemOf 45 = .ok (.ireturn, 1) := by decide +kernel
theorem dX1_isWhole_0 : decode cX1_isWhole 0 = .ok (.aload_n 0, 1) := by decide +kernel
theorem dX1_isWhole_1 : decode cX1_isWhole 1 = .ok (.iconst 1, 1) := by decide +kernel
theorem dX1_isWhole_2 : decode cX1_isWhole 2 = .ok (.invokevirtual 25, 3) := by decide +kernel
theorem dX1_isWhole_5 : decode cX1_isWhole 5 = .ok (.ifCond .le 23, 3) := by decide +kernel
theorem dX1_isWhole_8 : decode cX1_isWhole 8 = .ok (.aload_n 0, 1) := by decide +kernel
theorem dX1_isWhole_9 : decode cX1_isWhole 9 = .ok (.iconst 2, 1) := by decide +kernel
theorem dX1_isWhole_10 : decode cX1_isWhole 10 = .ok (.invokevirtual 25, 3) := by decide +kernel
theorem dX1_isWhole_13 : decode cX1_isWhole 13 = .ok (.ifCond .le 15, 3) := by decide +kernel
theorem dX1_isWhole_16 : decode cX1_isWhole 16 = .ok (.aload_n 0, 1) := by decide +kernel
theorem dX1_isWhole_17 : decode cX1_isWhole 17 = .ok (.iconst 3, 1) := by decide +kernel
theorem dX1_isWhole_18 : decode cX1_isWhole 18 = .ok (.invokevirtual 25, 3) := by decide +kernel
theorem dX1_isWhole_21 : decode cX1_isWhole 21 = .ok (.ifCond .le 7, 3) := by decide +kernel
theorem dX1_isWhole_24 : decode cX1_isWhole 24 = .ok (.iconst 1, 1) := by decide +kernel
theorem dX1_isWhole_25 : decode cX1_isWhole 25 = .ok (.goto 4, 3) := by decide +kernel
theorem dX1_isWhole_28 : decode cX1_isWhole 28 = .ok (.iconst 0, 1) := by decide +kernel
theorem dX1_isWhole_29 : decode cX1_isWhole 29 = .ok (.istore_n 1, 1) := by decide +kernel
theorem dX1_isWhole_30 : decode cX1_isWhole 30 = .ok (.iconst 0, 1) := by decide +kernel
theorem dX1_isWhole_31 : decode cX1_isWhole 31 = .ok (.istore_n 2, 1) := by decide +kernel
theorem dX1_isWhole_32 : decode cX1_isWhole 32 = .ok (.iload_n 2, 1) := by decide +kernel
theorem dX1_isWhole_33 : decode cX1_isWhole 33 = .ok (.aload_n 0, 1) := by decide +kernel
theorem dX1_isWhole_34 : decode cX1_isWhole 34 = .ok (.iconst 2, 1) := by decide +kernel
theorem dX1_isWhole_35 : decode cX1_isWhole 35 = .ok (.invokevirtual 25, 3) := by decide +kernel
theorem dX1_isWhole_38 : decode cX1_isWhole 38 = .ok (.if_icmp .ge 34, 3) := by decide +kernel
theorem dX1_isWhole_41 : decode cX1_isWhole 41 = .ok (.iload_n 1, 1) := by decide +kernel
theorem dX1_isWhole_42 : decode cX1_isWhole 42 = .ok (.aload_n 0, 1) := by decide +kernel
theorem dX1_isWhole_43 : decode cX1_isWhole 43 = .ok (.iconst 2, 1) := by decide +kernel
theorem dX1_isWhole_44 : decode cX1_isWhole 44 = .ok (.iload_n 2, 1) := by decide +kernel
theorem dX1_isWhole_45 : decode cX1_isWhole 45 = .ok (.iconst 0, 1) := by decide +kernel
theorem dX1_isWhole_46 : decode cX1_isWhole 46 = .ok (.invokevirtual 134, 3) := by decide +kernel
theorem dX1_isWhole_49 : decode cX1_isWhole 49 = .ok (.aload_n 0, 1) := by decide +kernel
theorem dX1_isWhole_50 : decode cX1_isWhole 50 = .ok (.iconst 2, 1) := by decide +kernel
theorem dX1_isWhole_51 : decode cX1_isWhole 51 = .ok (.iload_n 2, 1) := by decide +kernel
theorem dX1_isWhole_52 : decode cX1_isWhole 52 = .ok (.iconst 1, 1) := by decide +kernel
theorem dX1_isWhole_53 : decode cX1_isWhole 53 = .ok (.invokevirtual 134, 3) := by decide +kernel
theorem dX1_isWhole_56 : decode cX1_isWhole 56 = .ok (.if_icmp .ge 7, 3) := by decide +kernel
theorem dX1_isWhole_59 : decode cX1_isWhole 59 = .ok (.iconst 1, 1) := by decide +kernel
theorem dX1_isWhole_60 : decode cX1_isWhole 60 = .ok (.goto 4, 3) := by decide +kernel
theorem dX1_isWhole_63 : decode cX1_isWhole 63 = .ok (.iconst 0, 1) := by decide +kernel
theorem dX1_isWhole_64 : decode cX1_isWhole 64 = .ok (.iand, 1) := by decide +kernel
theorem dX1_isWhole_65 : decode cX1_isWhole 65 = .ok (.istore_n 1, 1) := by decide +kernel
theorem dX1_isWhole_66 : decode cX1_isWhole 66 = .ok (.iinc 2 1, 3) := by decide +kernel
theorem dX1_isWhole_69 : decode cX1_isWhole 69 = .ok (.goto (-37), 3) := by decide +kernel
theorem dX1_isWhole_72 : decode cX1_isWhole 72 = .ok (.iconst 0, 1) := by decide +kernel
theorem dX1_isWhole_73 : decode cX1_isWhole 73 = .ok (.istore_n 2, 1) := by decide +kernel
theorem dX1_isWhole_74 : decode cX1_isWhole 74 = .ok (.iload_n 2, 1) := by decide +kernel
theorem dX1_isWhole_75 : decode cX1_isWhole 75 = .ok (.aload_n 0, 1) := by decide +kernel
theorem dX1_isWhole_76 : decode cX1_isWhole 76 = .ok (.iconst 1, 1) := by decide +kernel
theorem dX1_isWhole_77 : decode cX1_isWhole 77 = .ok (.invokevirtual 25, 3) := by decide +kernel
theorem dX1_isWhole_80 : decode cX1_isWhole 80 = .ok (.if_icmp .ge 24, 3) := by decide +kernel
theorem dX1_isWhole_83 : decode cX1_isWhole 83 = .ok (.iload_n 1, 1) := by decide +kernel
theorem dX1_isWhole_84 : decode cX1_isWhole 84 = .ok (.aload_n 0, 1) := by decide +kernel
theorem dX1_isWhole_85 : decode cX1_isWhole 85 = .ok (.iconst 3, 1) := by decide +kernel
theorem dX1_isWhole_86 : decode cX1_isWhole 86 = .ok (.aload_n 0, 1) := by decide +kernel
theorem dX1_isWhole_87 : decode cX1_isWhole 87 = .ok (.iconst 1, 1) := by decide +kernel
theorem dX1_isWhole_88 : decode cX1_isWhole 88 = .ok (.iload_n 2, 1) := by decide +kernel
theorem dX1_isWhole_89 : decode cX1_isWhole 89 = .ok (.iconst 0, 1) := by decide +kernel
theorem dX1_isWhole_90 : decode cX1_isWhole 90 = .ok (.invokevirtual 134, 3) := by decide +kernel
theorem dX1_isWhole_93 : decode cX1_isWhole 93 = .ok (.invokevirtual 137, 3) := by decide +kernel
theorem dX1_isWhole_96 : decode cX1_isWhole 96 = .ok (.iand, 1) := by decide +kernel
theorem dX1_isWhole_97 : decode cX1_isWhole 97 = .ok (.istore_n 1, 1) := by decide +kernel
theorem dX1_isWhole_98 : decode cX1_isWhole 98 = .ok (.iinc 2 1, 3) := by decide +kernel
theorem dX1_isWhole_101 : decode cX1_isWhole 101 = .ok (.goto (-27), 3) := by decide +kernel
theorem dX1_isWhole_104 : decode cX1_isWhole 104 = .ok (.iconst 0, 1) := by decide +kernel
theorem dX1_isWhole_105 : decode cX1_isWhole 105 = .ok (.istore_n 2, 1) := by decide +kernel
theorem dX1_isWhole_106 : decode cX1_isWhole 106 = .ok (.iload_n 2, 1) := by decide +kernel
theorem dX1_isWhole_107 : decode cX1_isWhole 107 = .ok (.aload_n 0, 1) := by decide +kernel
theorem dX1_isWhole_108 : decode cX1_isWhole 108 = .ok (.iconst 3, 1) := by decide +kernel
theorem dX1_isWhole_109 : decode cX1_isWhole 109 = .ok (.invokevirtual 25, 3) := by decide +kernel
theorem dX1_isWhole_112 : decode cX1_isWhole 112 = .ok (.if_icmp .ge 118, 3) := by decide +kernel
theorem dX1_isWhole_115 : decode cX1_isWhole 115 = .ok (.aload_n 0, 1) := by decide +kernel
theorem dX1_isWhole_116 : decode cX1_isWhole 116 = .ok (.iconst 3, 1) := by decide +kernel
theorem dX1_isWhole_117 : decode cX1_isWhole 117 = .ok (.iload_n 2, 1) := by decide +kernel
theorem dX1_isWhole_118 : decode cX1_isWhole 118 = .ok (.iconst 1, 1) := by decide +kernel
theorem dX1_isWhole_119 : decode cX1_isWhole 119 = .ok (.invokevirtual 134, 3) := by decide +kernel
theorem dX1_isWhole_122 : decode cX1_isWhole 122 = .ok (.istore_n 3, 1) := by decide +kernel
theorem dX1_isWhole_123 : decode cX1_isWhole 123 = .ok (.aload_n 0, 1) := by decide +kernel
theorem dX1_isWhole_124 : decode cX1_isWhole 124 = .ok (.iconst 3, 1) := by decide +kernel
theorem dX1_isWhole_125 : decode cX1_isWhole 125 = .ok (.iload_n 2, 1) := by decide +kernel
theorem dX1_isWhole_126 : decode cX1_isWhole 126 = .ok (.iconst 2, 1) := by decide +kernel
theorem dX1_isWhole_127 : decode cX1_isWhole 127 = .ok (.invokevirtual 134, 3) := by decide +kernel
theorem dX1_isWhole_130 : decode cX1_isWhole 130 = .ok (.istore 4, 2) := by decide +kernel
theorem dX1_isWhole_132 : decode cX1_isWhole 132 = .ok (.iload_n 1, 1) := by decide +kernel
theorem dX1_isWhole_133 : decode cX1_isWhole 133 = .ok (.aload_n 0, 1) := by decide +kernel
theorem dX1_isWhole_134 : decode cX1_isWhole 134 = .ok (.iconst 2, 1) := by decide +kernel
theorem dX1_isWhole_135 : decode cX1_isWhole 135 = .ok (.aload_n 0, 1) := by decide +kernel
theorem dX1_isWhole_136 : decode cX1_isWhole 136 = .ok (.iconst 3, 1) := by decide +kernel
theorem dX1_isWhole_137 : decode cX1_isWhole 137 = .ok (.iload_n 2, 1) := by decide +kernel
theorem dX1_isWhole_138 : decode cX1_isWhole 138 = .ok (.iconst 0, 1) := by decide +kernel
theorem dX1_isWhole_139 : decode cX1_isWhole 139 = .ok (.invokevirtual 134, 3) := by decide +kernel
theorem dX1_isWhole_142 : decode cX1_isWhole 142 = .ok (.invokevirtual 137, 3) := by decide +kernel
theorem dX1_isWhole_145 : decode cX1_isWhole 145 = .ok (.iand, 1) := by decide +kernel
theorem dX1_isWhole_146 : decode cX1_isWhole 146 = .ok (.istore_n 1, 1) := by decide +kernel
theorem dX1_isWhole_147 : decode cX1_isWhole 147 = .ok (.iload_n 1, 1) := by decide +kernel
theorem dX1_isWhole_148 : decode cX1_isWhole 148 = .ok (.iload_n 3, 1) := by decide +kernel
theorem dX1_isWhole_149 : decode cX1_isWhole 149 = .ok (.bipush 8, 2) := by decide +kernel
theorem dX1_isWhole_151 : decode cX1_isWhole 151 = .ok (.if_icmp .eq 12, 3) := by decide +kernel
theorem dX1_isWhole_154 : decode cX1_isWhole 154 = .ok (.aload_n 0, 1) := by decide +kernel
theorem dX1_isWhole_155 : decode cX1_isWhole 155 = .ok (.iconst 3, 1) := by decide +kernel
theorem dX1_isWhole_156 : decode cX1_isWhole 156 = .ok (.iload_n 3, 1) := by decide +kernel
theorem dX1_isWhole_157 : decode cX1_isWhole 157 = .ok (.invokevirtual 137, 3) := by decide +kernel
theorem dX1_isWhole_160 : decode cX1_isWhole 160 = .ok (.ifCond .eq 24, 3) := by decide +kernel
theorem dX1_isWhole_163 : decode cX1_isWhole 163 = .ok (.iload 4, 2) := by decide +kernel
theorem dX1_isWhole_165 : decode cX1_isWhole 165 = .ok (.bipush 8, 2) := by decide +kernel
theorem dX1_isWhole_167 : decode cX1_isWhole 167 = .ok (.if_icmp .eq 13, 3) := by decide +kernel
theorem dX1_isWhole_170 : decode cX1_isWhole 170 = .ok (.aload_n 0, 1) := by decide +kernel
theorem dX1_isWhole_171 : decode cX1_isWhole 171 = .ok (.iconst 3, 1) := by decide +kernel
theorem dX1_isWhole_172 : decode cX1_isWhole 172 = .ok (.iload 4, 2) := by decide +kernel
theorem dX1_isWhole_174 : decode cX1_isWhole 174 = .ok (.invokevirtual 137, 3) := by decide +kernel
theorem dX1_isWhole_177 : decode cX1_isWhole 177 = .ok (.ifCond .eq 7, 3) := by decide +kernel
theorem dX1_isWhole_180 : decode cX1_isWhole 180 = .ok (.iconst 1, 1) := by decide +kernel
theorem dX1_isWhole_181 : decode cX1_isWhole 181 = .ok (.goto 4, 3) := by decide +kernel
theorem dX1_isWhole_184 : decode cX1_isWhole 184 = .ok (.iconst 0, 1) := by decide +kernel
theorem dX1_isWhole_185 : decode cX1_isWhole 185 = .ok (.iand, 1) := by decide +kernel
theorem dX1_isWhole_186 : decode cX1_isWhole 186 = .ok (.istore_n 1, 1) := by decide +kernel
theorem dX1_isWhole_187 : decode cX1_isWhole 187 = .ok (.aload_n 0, 1) := by decide +kernel
theorem dX1_isWhole_188 : decode cX1_isWhole 188 = .ok (.getfield 18, 3) := by decide +kernel
theorem dX1_isWhole_191 : decode cX1_isWhole 191 = .ok (.iload_n 2, 1) := by decide +kernel
theorem dX1_isWhole_192 : decode cX1_isWhole 192 = .ok (.iload_n 3, 1) := by decide +kernel
theorem dX1_isWhole_193 : decode cX1_isWhole 193 = .ok (.bipush 8, 2) := by decide +kernel
theorem dX1_isWhole_195 : decode cX1_isWhole 195 = .ok (.if_icmp .ne 7, 3) := by decide +kernel
theorem dX1_isWhole_198 : decode cX1_isWhole 198 = .ok (.iconst 0, 1) := by decide +kernel
theorem dX1_isWhole_199 : decode cX1_isWhole 199 = .ok (.goto 6, 3) := by decide +kernel
theorem dX1_isWhole_202 : decode cX1_isWhole 202 = .ok (.iconst 1, 1) := by decide +kernel
theorem dX1_isWhole_203 : decode cX1_isWhole 203 = .ok (.iload_n 3, 1) := by decide +kernel
theorem dX1_isWhole_204 : decode cX1_isWhole 204 = .ok (.ishl, 1) := by decide +kernel
theorem dX1_isWhole_205 : decode cX1_isWhole 205 = .ok (.iload 4, 2) := by decide +kernel
theorem dX1_isWhole_207 : decode cX1_isWhole 207 = .ok (.bipush 8, 2) := by decide +kernel
theorem dX1_isWhole_209 : decode cX1_isWhole 209 = .ok (.if_icmp .ne 7, 3) := by decide +kernel
theorem dX1_isWhole_212 : decode cX1_isWhole 212 = .ok (.iconst 0, 1) := by decide +kernel
theorem dX1_isWhole_213 : decode cX1_isWhole 213 = .ok (.goto 7, 3) := by decide +kernel
theorem dX1_isWhole_216 : decode cX1_isWhole 216 = .ok (.iconst 1, 1) := by decide +kernel
theorem dX1_isWhole_217 : decode cX1_isWhole 217 = .ok (.iload 4, 2) := by decide +kernel
theorem dX1_isWhole_219 : decode cX1_isWhole 219 = .ok (.ishl, 1) := by decide +kernel
theorem dX1_isWhole_220 : decode cX1_isWhole 220 = .ok (.ior, 1) := by decide +kernel
theorem dX1_isWhole_221 : decode cX1_isWhole 221 = .ok (.invokestatic 84, 3) := by decide +kernel
theorem dX1_isWhole_224 : decode cX1_isWhole 224 = .ok (.iinc 2 1, 3) := by decide +kernel
theorem dX1_isWhole_227 : decode cX1_isWhole 227 = .ok (.goto (-121), 3) := by decide +kernel
theorem dX1_isWhole_230 : decode cX1_isWhole 230 = .ok (.iload_n 1, 1) := by decide +kernel
theorem dX1_isWhole_231 : decode cX1_isWhole 231 = .ok (.ireturn, 1) := by decide +kernel
theorem dX1_isOpen_0 : decode cX1_isOpen 0 = .ok (.iload_n 2, 1) := by decide +kernel
theorem dX1_isOpen_1 : decode cX1_isOpen 1 = .ok (.aload_n 0, 1) := by decide +kernel
theorem dX1_isOpen_2 : decode cX1_isOpen 2 = .ok (.iconst 2, 1) := by decide +kernel
theorem dX1_isOpen_3 : decode cX1_isOpen 3 = .ok (.iload_n 1, 1) := by decide +kernel
theorem dX1_isOpen_4 : decode cX1_isOpen 4 = .ok (.iconst 0, 1) := by decide +kernel
theorem dX1_isOpen_5 : decode cX1_isOpen 5 = .ok (.invokevirtual 134, 3) := by decide +kernel
theorem dX1_isOpen_8 : decode cX1_isOpen 8 = .ok (.if_icmp .lt 18, 3) := by decide +kernel
theorem dX1_isOpen_11 : decode cX1_isOpen 11 = .ok (.iload_n 2, 1) := by decide +kernel
theorem dX1_isOpen_12 : decode cX1_isOpen 12 = .ok (.aload_n 0, 1) := by decide +kernel
theorem dX1_isOpen_13 : decode cX1_isOpen 13 = .ok (.iconst 2, 1) := by decide +kernel
theorem dX1_isOpen_14 : decode cX1_isOpen 14 = .ok (.iload_n 1, 1) := by decide +kernel
theorem dX1_isOpen_15 : decode cX1_isOpen 15 = .ok (.iconst 1, 1) := by decide +kernel
theorem dX1_isOpen_16 : decode cX1_isOpen 16 = .ok (.invokevirtual 134, 3) := by decide +kernel
theorem dX1_isOpen_19 : decode cX1_isOpen 19 = .ok (.if_icmp .ge 7, 3) := by decide +kernel
theorem dX1_isOpen_22 : decode cX1_isOpen 22 = .ok (.iconst 1, 1) := by decide +kernel
theorem dX1_isOpen_23 : decode cX1_isOpen 23 = .ok (.goto 4, 3) := by decide +kernel
theorem dX1_isOpen_26 : decode cX1_isOpen 26 = .ok (.iconst 0, 1) := by decide +kernel
theorem dX1_isOpen_27 : decode cX1_isOpen 27 = .ok (.ireturn, 1) := by decide +kernel
theorem dX1_lacks_0 : decode cX1_lacks 0 = .ok (.iload_n 1, 1) := by decide +kernel
theorem dX1_lacks_1 : decode cX1_lacks 1 = .ok (.iload_n 2, 1) := by decide +kernel
theorem dX1_lacks_2 : decode cX1_lacks 2 = .ok (.iconst (-1), 1) := by decide +kernel
theorem dX1_lacks_3 : decode cX1_lacks 3 = .ok (.ixor, 1) := by decide +kernel
theorem dX1_lacks_4 : decode cX1_lacks 4 = .ok (.iand, 1) := by decide +kernel
theorem dX1_lacks_5 : decode cX1_lacks 5 = .ok (.istore_n 3, 1) := by decide +kernel
theorem dX1_lacks_6 : decode cX1_lacks 6 = .ok (.iconst 0, 1) := by decide +kernel
theorem dX1_lacks_7 : decode cX1_lacks 7 = .ok (.istore 4, 2) := by decide +kernel
theorem dX1_lacks_9 : decode cX1_lacks 9 = .ok (.iconst 0, 1) := by decide +kernel
theorem dX1_lacks_10 : decode cX1_lacks 10 = .ok (.istore 5, 2) := by decide +kernel
theorem dX1_lacks_12 : decode cX1_lacks 12 = .ok (.iload 5, 2) := by decide +kernel
theorem dX1_lacks_14 : decode cX1_lacks 14 = .ok (.bipush 8, 2) := by decide +kernel
theorem dX1_lacks_16 : decode cX1_lacks 16 = .ok (.if_icmp .ge 59, 3) := by decide +kernel
theorem dX1_lacks_19 : decode cX1_lacks 19 = .ok (.iload_n 3, 1) := by decide +kernel
theorem dX1_lacks_20 : decode cX1_lacks 20 = .ok (.iload 4, 2) := by decide +kernel
theorem dX1_lacks_22 : decode cX1_lacks 22 = .ok (.if_icmp .eq 53, 3) := by decide +kernel
theorem dX1_lacks_25 : decode cX1_lacks 25 = .ok (.iload_n 3, 1) := by decide +kernel
theorem dX1_lacks_26 : decode cX1_lacks 26 = .ok (.istore 4, 2) := by decide +kernel
theorem dX1_lacks_28 : decode cX1_lacks 28 = .ok (.iconst 0, 1) := by decide +kernel
theorem dX1_lacks_29 : decode cX1_lacks 29 = .ok (.istore 6, 2) := by decide +kernel
theorem dX1_lacks_31 : decode cX1_lacks 31 = .ok (.iload 6, 2) := by decide +kernel
theorem dX1_lacks_33 : decode cX1_lacks 33 = .ok (.aload_n 0, 1) := by decide +kernel
theorem dX1_lacks_34 : decode cX1_lacks 34 = .ok (.iconst 3, 1) := by decide +kernel
theorem dX1_lacks_35 : decode cX1_lacks 35 = .ok (.invokevirtual 25, 3) := by decide +kernel
theorem dX1_lacks_38 : decode cX1_lacks 38 = .ok (.if_icmp .ge 31, 3) := by decide +kernel
theorem dX1_lacks_41 : decode cX1_lacks 41 = .ok (.iload_n 3, 1) := by decide +kernel
theorem dX1_lacks_42 : decode cX1_lacks 42 = .ok (.iload 6, 2) := by decide +kernel
theorem dX1_lacks_44 : decode cX1_lacks 44 = .ok (.invokestatic 111, 3) := by decide +kernel
theorem dX1_lacks_47 : decode cX1_lacks 47 = .ok (.ifCond .eq 16, 3) := by decide +kernel
theorem dX1_lacks_50 : decode cX1_lacks 50 = .ok (.iload_n 3, 1) := by decide +kernel
theorem dX1_lacks_51 : decode cX1_lacks 51 = .ok (.aload_n 0, 1) := by decide +kernel
theorem dX1_lacks_52 : decode cX1_lacks 52 = .ok (.iload 6, 2) := by decide +kernel
theorem dX1_lacks_54 : decode cX1_lacks 54 = .ok (.invokevirtual 140, 3) := by decide +kernel
theorem dX1_lacks_57 : decode cX1_lacks 57 = .ok (.iload_n 2, 1) := by decide +kernel
theorem dX1_lacks_58 : decode cX1_lacks 58 = .ok (.iconst (-1), 1) := by decide +kernel
theorem dX1_lacks_59 : decode cX1_lacks 59 = .ok (.ixor, 1) := by decide +kernel
theorem dX1_lacks_60 : decode cX1_lacks 60 = .ok (.iand, 1) := by decide +kernel
theorem dX1_lacks_61 : decode cX1_lacks 61 = .ok (.ior, 1) := by decide +kernel
theorem dX1_lacks_62 : decode cX1_lacks 62 = .ok (.istore_n 3, 1) := by decide +kernel
theorem dX1_lacks_63 : decode cX1_lacks 63 = .ok (.iinc 6 1, 3) := by decide +kernel
theorem dX1_lacks_66 : decode cX1_lacks 66 = .ok (.goto (-35), 3) := by decide +kernel
theorem dX1_lacks_69 : decode cX1_lacks 69 = .ok (.iinc 5 1, 3) := by decide +kernel
theorem dX1_lacks_72 : decode cX1_lacks 72 = .ok (.goto (-60), 3) := by decide +kernel
theorem dX1_lacks_75 : decode cX1_lacks 75 = .ok (.iload_n 3, 1) := by decide +kernel
theorem dX1_lacks_76 : decode cX1_lacks 76 = .ok (.ireturn, 1) := by decide +kernel
theorem dX1_fees_0 : decode cX1_fees 0 = .ok (.iconst 0, 1) := by decide +kernel
theorem dX1_fees_1 : decode cX1_fees 1 = .ok (.istore_n 2, 1) := by decide +kernel
theorem dX1_fees_2 : decode cX1_fees 2 = .ok (.iconst 0, 1) := by decide +kernel
theorem dX1_fees_3 : decode cX1_fees 3 = .ok (.istore_n 3, 1) := by decide +kernel
theorem dX1_fees_4 : decode cX1_fees 4 = .ok (.iload_n 3, 1) := by decide +kernel
theorem dX1_fees_5 : decode cX1_fees 5 = .ok (.aload_n 0, 1) := by decide +kernel
theorem dX1_fees_6 : decode cX1_fees 6 = .ok (.iconst 3, 1) := by decide +kernel
theorem dX1_fees_7 : decode cX1_fees 7 = .ok (.invokevirtual 25, 3) := by decide +kernel
theorem dX1_fees_10 : decode cX1_fees 10 = .ok (.if_icmp .ge 33, 3) := by decide +kernel
theorem dX1_fees_13 : decode cX1_fees 13 = .ok (.iload_n 1, 1) := by decide +kernel
theorem dX1_fees_14 : decode cX1_fees 14 = .ok (.iload_n 3, 1) := by decide +kernel
theorem dX1_fees_15 : decode cX1_fees 15 = .ok (.invokestatic 111, 3) := by decide +kernel
theorem dX1_fees_18 : decode cX1_fees 18 = .ok (.ifCond .eq 19, 3) := by decide +kernel
theorem dX1_fees_21 : decode cX1_fees 21 = .ok (.iload_n 2, 1) := by decide +kernel
theorem dX1_fees_22 : decode cX1_fees 22 = .ok (.aload_n 0, 1) := by decide +kernel
theorem dX1_fees_23 : decode cX1_fees 23 = .ok (.iconst 2, 1) := by decide +kernel
theorem dX1_fees_24 : decode cX1_fees 24 = .ok (.aload_n 0, 1) := by decide +kernel
theorem dX1_fees_25 : decode cX1_fees 25 = .ok (.iconst 3, 1) := by decide +kernel
theorem dX1_fees_26 : decode cX1_fees 26 = .ok (.iload_n 3, 1) := by decide +kernel
theorem dX1_fees_27 : decode cX1_fees 27 = .ok (.iconst 0, 1) := by decide +kernel
theorem dX1_fees_28 : decode cX1_fees 28 = .ok (.invokevirtual 134, 3) := by decide +kernel
theorem dX1_fees_31 : decode cX1_fees 31 = .ok (.iconst 3, 1) := by decide +kernel
theorem dX1_fees_32 : decode cX1_fees 32 = .ok (.invokevirtual 134, 3) := by decide +kernel
theorem dX1_fees_35 : decode cX1_fees 35 = .ok (.iadd, 1) := by decide +kernel
theorem dX1_fees_36 : decode cX1_fees 36 = .ok (.istore_n 2, 1) := by decide +kernel
theorem dX1_fees_37 : decode cX1_fees 37 = .ok (.iinc 3 1, 3) := by decide +kernel
theorem dX1_fees_40 : decode cX1_fees 40 = .ok (.goto (-36), 3) := by decide +kernel
theorem dX1_fees_43 : decode cX1_fees 43 = .ok (.iload_n 2, 1) := by decide +kernel
theorem dX1_fees_44 : decode cX1_fees 44 = .ok (.ireturn, 1) := by decide +kernel
theorem dX1_span_0 : decode cX1_span 0 = .ok (.aload_n 0, 1) := by decide +kernel
theorem dX1_span_1 : decode cX1_span 1 = .ok (.iconst 3, 1) := by decide +kernel
theorem dX1_span_2 : decode cX1_span 2 = .ok (.iload_n 1, 1) := by decide +kernel
theorem dX1_span_3 : decode cX1_span 3 = .ok (.iconst 0, 1) := by decide +kernel
theorem dX1_span_4 : decode cX1_span 4 = .ok (.invokevirtual 134, 3) := by decide +kernel
theorem dX1_span_7 : decode cX1_span 7 = .ok (.istore_n 3, 1) := by decide +kernel
theorem dX1_span_8 : decode cX1_span 8 = .ok (.aload_n 0, 1) := by decide +kernel
theorem dX1_span_9 : decode cX1_span 9 = .ok (.iconst 2, 1) := by decide +kernel
theorem dX1_span_10 : decode cX1_span 10 = .ok (.iload_n 3, 1) := by decide +kernel
theorem dX1_span_11 : decode cX1_span 11 = .ok (.iconst 0, 1) := by decide +kernel
theorem dX1_span_12 : decode cX1_span 12 = .ok (.invokevirtual 134, 3) := by decide +kernel
theorem dX1_span_15 : decode cX1_span 15 = .ok (.istore 4, 2) := by decide +kernel
theorem dX1_span_17 : decode cX1_span 17 = .ok (.aload_n 0, 1) := by decide +kernel
theorem dX1_span_18 : decode cX1_span 18 = .ok (.iconst 2, 1) := by decide +kernel
theorem dX1_span_19 : decode cX1_span 19 = .ok (.iload_n 3, 1) := by decide +kernel
theorem dX1_span_20 : decode cX1_span 20 = .ok (.iconst 1, 1) := by decide +kernel
theorem dX1_span_21 : decode cX1_span 21 = .ok (.invokevirtual 134, 3) := by decide +kernel
theorem dX1_span_24 : decode cX1_span 24 = .ok (.istore 5, 2) := by decide +kernel
theorem dX1_span_26 : decode cX1_span 26 = .ok (.iload 5, 2) := by decide +kernel
theorem dX1_span_28 : decode cX1_span 28 = .ok (.iload 4, 2) := by decide +kernel
theorem dX1_span_30 : decode cX1_span 30 = .ok (.isub, 1) := by decide +kernel
theorem dX1_span_31 : decode cX1_span 31 = .ok (.istore 6, 2) := by decide +kernel
theorem dX1_span_33 : decode cX1_span 33 = .ok (.iload 6, 2) := by decide +kernel
theorem dX1_span_35 : decode cX1_span 35 = .ok (.iconst 1, 1) := by decide +kernel
theorem dX1_span_36 : decode cX1_span 36 = .ok (.if_icmp .ge 5, 3) := by decide +kernel
theorem dX1_span_39 : decode cX1_span 39 = .ok (.iconst (-1), 1) := by decide +kernel
theorem dX1_span_40 : decode cX1_span 40 = .ok (.ireturn, 1) := by decide +kernel
theorem dX1_span_41 : decode cX1_span 41 = .ok (.iload_n 2, 1) := by decide +kernel
theorem dX1_span_42 : decode cX1_span 42 = .ok (.iload 4, 2) := by decide +kernel
theorem dX1_span_44 : decode cX1_span 44 = .ok (.if_icmp .le 16, 3) := by decide +kernel
theorem dX1_span_47 : decode cX1_span 47 = .ok (.iload_n 2, 1) := by decide +kernel
theorem dX1_span_48 : decode cX1_span 48 = .ok (.iload 5, 2) := by decide +kernel
theorem dX1_span_50 : decode cX1_span 50 = .ok (.if_icmp .ge 10, 3) := by decide +kernel
theorem dX1_span_53 : decode cX1_span 53 = .ok (.iload_n 2, 1) := by decide +kernel
theorem dX1_span_54 : decode cX1_span 54 = .ok (.iload 4, 2) := by decide +kernel
theorem dX1_span_56 : decode cX1_span 56 = .ok (.isub, 1) := by decide +kernel
theorem dX1_span_57 : decode cX1_span 57 = .ok (.goto 4, 3) := by decide +kernel
theorem dX1_span_60 : decode cX1_span 60 = .ok (.iconst 0, 1) := by decide +kernel
theorem dX1_span_61 : decode cX1_span 61 = .ok (.istore 7, 2) := by decide +kernel
theorem dX1_span_63 : decode cX1_span 63 = .ok (.iload 7, 2) := by decide +kernel
theorem dX1_span_65 : decode cX1_span 65 = .ok (.aload_n 0, 1) := by decide +kernel
theorem dX1_span_66 : decode cX1_span 66 = .ok (.iconst 2, 1) := by decide +kernel
theorem dX1_span_67 : decode cX1_span 67 = .ok (.iload_n 3, 1) := by decide +kernel
theorem dX1_span_68 : decode cX1_span 68 = .ok (.iconst 2, 1) := by decide +kernel
theorem dX1_span_69 : decode cX1_span 69 = .ok (.invokevirtual 134, 3) := by decide +kernel
theorem dX1_span_72 : decode cX1_span 72 = .ok (.iadd, 1) := by decide +kernel
theorem dX1_span_73 : decode cX1_span 73 = .ok (.iconst 1, 1) := by decide +kernel
theorem dX1_span_74 : decode cX1_span 74 = .ok (.isub, 1) := by decide +kernel
theorem dX1_span_75 : decode cX1_span 75 = .ok (.istore 8, 2) := by decide +kernel
theorem dX1_span_77 : decode cX1_span 77 = .ok (.iload_n 2, 1) := by decide +kernel
theorem dX1_span_78 : decode cX1_span 78 = .ok (.iload 5, 2) := by decide +kernel
theorem dX1_span_80 : decode cX1_span 80 = .ok (.if_icmp .lt 8, 3) := by decide +kernel
theorem dX1_span_83 : decode cX1_span 83 = .ok (.bipush 24, 2) := by decide +kernel
theorem dX1_span_85 : decode cX1_span 85 = .ok (.goto 4, 3) := by decide +kernel
theorem dX1_span_88 : decode cX1_span 88 = .ok (.iconst 0, 1) := by decide +kernel
theorem dX1_span_89 : decode cX1_span 89 = .ok (.iload 8, 2) := by decide +kernel
theorem dX1_span_91 : decode cX1_span 91 = .ok (.iload 6, 2) := by decide +kernel
theorem dX1_span_93 : decode cX1_span 93 = .ok (.idiv, 1) := by decide +kernel
theorem dX1_span_94 : decode cX1_span 94 = .ok (.bipush 24, 2) := by decide +kernel
theorem dX1_span_96 : decode cX1_span 96 = .ok (.imul, 1) := by decide +kernel
theorem dX1_span_97 : decode cX1_span 97 = .ok (.iadd, 1) := by decide +kernel
theorem dX1_span_98 : decode cX1_span 98 = .ok (.iload 4, 2) := by decide +kernel
theorem dX1_span_100 : decode cX1_span 100 = .ok (.iadd, 1) := by decide +kernel
theorem dX1_span_101 : decode cX1_span 101 = .ok (.iload 8, 2) := by decide +kernel
theorem dX1_span_103 : decode cX1_span 103 = .ok (.iload 6, 2) := by decide +kernel
theorem dX1_span_105 : decode cX1_span 105 = .ok (.irem, 1) := by decide +kernel
theorem dX1_span_106 : decode cX1_span 106 = .ok (.iadd, 1) := by decide +kernel
theorem dX1_span_107 : decode cX1_span 107 = .ok (.iconst 1, 1) := by decide +kernel
theorem dX1_span_108 : decode cX1_span 108 = .ok (.iadd, 1) := by decide +kernel
theorem dX1_span_109 : decode cX1_span 109 = .ok (.istore 9, 2) := by decide +kernel
theorem dX1_span_111 : decode cX1_span 111 = .ok (.iload 9, 2) := by decide +kernel
theorem dX1_span_113 : decode cX1_span 113 = .ok (.iload_n 2, 1) := by decide +kernel
theorem dX1_span_114 : decode cX1_span 114 = .ok (.isub, 1) := by decide +kernel
theorem dX1_span_115 : decode cX1_span 115 = .ok (.ireturn, 1) := by decide +kernel
theorem dX1_portion_0 : decode cX1_portion 0 = .ok (.aload_n 1, 1) := by decide +kernel
theorem dX1_portion_1 : decode cX1_portion 1 = .ok (.iload_n 2, 1) := by decide +kernel
theorem dX1_portion_2 : decode cX1_portion 2 = .ok (.invokestatic 21, 3) := by decide +kernel
theorem dX1_portion_5 : decode cX1_portion 5 = .ok (.istore_n 3, 1) := by decide +kernel
theorem dX1_portion_6 : decode cX1_portion 6 = .ok (.iconst 0, 1) := by decide +kernel
theorem dX1_portion_7 : decode cX1_portion 7 = .ok (.istore 4, 2) := by decide +kernel
theorem dX1_portion_9 : decode cX1_portion 9 = .ok (.iconst 0, 1) := by decide +kernel
theorem dX1_portion_10 : decode cX1_portion 10 = .ok (.istore 5, 2) := by decide +kernel
theorem dX1_portion_12 : decode cX1_portion 12 = .ok (.iconst 0, 1) := by decide +kernel
theorem dX1_portion_13 : decode cX1_portion 13 = .ok (.istore 6, 2) := by decide +kernel
theorem dX1_portion_15 : decode cX1_portion 15 = .ok (.iload 6, 2) := by decide +kernel
theorem dX1_portion_17 : decode cX1_portion 17 = .ok (.aload_n 0, 1) := by decide +kernel
theorem dX1_portion_18 : decode cX1_portion 18 = .ok (.iconst 1, 1) := by decide +kernel
theorem dX1_portion_19 : decode cX1_portion 19 = .ok (.invokevirtual 25, 3) := by decide +kernel
theorem dX1_portion_22 : decode cX1_portion 22 = .ok (.if_icmp .ge 38, 3) := by decide +kernel
theorem dX1_portion_25 : decode cX1_portion 25 = .ok (.aload_n 1, 1) := by decide +kernel
theorem dX1_portion_26 : decode cX1_portion 26 = .ok (.iload 6, 2) := by decide +kernel
theorem dX1_portion_28 : decode cX1_portion 28 = .ok (.invokestatic 21, 3) := by decide +kernel
theorem dX1_portion_31 : decode cX1_portion 31 = .ok (.iload_n 3, 1) := by decide +kernel
theorem dX1_portion_32 : decode cX1_portion 32 = .ok (.if_icmp .ne 22, 3) := by decide +kernel
theorem dX1_portion_35 : decode cX1_portion 35 = .ok (.iinc 4 1, 3) := by decide +kernel
theorem dX1_portion_38 : decode cX1_portion 38 = .ok (.iload 5, 2) := by decide +kernel
theorem dX1_portion_40 : decode cX1_portion 40 = .ok (.iload 6, 2) := by decide +kernel
theorem dX1_portion_42 : decode cX1_portion 42 = .ok (.iload_n 2, 1) := by decide +kernel
theorem dX1_portion_43 : decode cX1_portion 43 = .ok (.if_icmp .ge 7, 3) := by decide +kernel
theorem dX1_portion_46 : decode cX1_portion 46 = .ok (.iconst 1, 1) := by decide +kernel
theorem dX1_portion_47 : decode cX1_portion 47 = .ok (.goto 4, 3) := by decide +kernel
theorem dX1_portion_50 : decode cX1_portion 50 = .ok (.iconst 0, 1) := by decide +kernel
theorem dX1_portion_51 : decode cX1_portion 51 = .ok (.iadd, 1) := by decide +kernel
theorem dX1_portion_52 : decode cX1_portion 52 = .ok (.istore 5, 2) := by decide +kernel
theorem dX1_portion_54 : decode cX1_portion 54 = .ok (.iinc 6 1, 3) := by decide +kernel
theorem dX1_portion_57 : decode cX1_portion 57 = .ok (.goto (-42), 3) := by decide +kernel
theorem dX1_portion_60 : decode cX1_portion 60 = .ok (.iload_n 3, 1) := by decide +kernel
theorem dX1_portion_61 : decode cX1_portion 61 = .ok (.iconst (-1), 1) := by decide +kernel
theorem dX1_portion_62 : decode cX1_portion 62 = .ok (.if_icmp .eq 9, 3) := by decide +kernel
theorem dX1_portion_65 : decode cX1_portion 65 = .ok (.iload 4, 2) := by decide +kernel
theorem dX1_portion_67 : decode cX1_portion 67 = .ok (.iconst 1, 1) := by decide +kernel
theorem dX1_portion_68 : decode cX1_portion 68 = .ok (.if_icmp .ge 5, 3) := by decide +kernel
theorem dX1_portion_71 : decode cX1_portion 71 = .ok (.iconst 0, 1) := by decide +kernel
theorem dX1_portion_72 : decode cX1_portion 72 = .ok (.ireturn, 1) := by decide +kernel
theorem dX1_portion_73 : decode cX1_portion 73 = .ok (.aload_n 0, 1) := by decide +kernel
theorem dX1_portion_74 : decode cX1_portion 74 = .ok (.iconst 0, 1) := by decide +kernel
theorem dX1_portion_75 : decode cX1_portion 75 = .ok (.iconst 0, 1) := by decide +kernel
theorem dX1_portion_76 : decode cX1_portion 76 = .ok (.iconst 1, 1) := by decide +kernel
theorem dX1_portion_77 : decode cX1_portion 77 = .ok (.invokevirtual 134, 3) := by decide +kernel
theorem dX1_portion_80 : decode cX1_portion 80 = .ok (.istore 6, 2) := by decide +kernel
theorem dX1_portion_82 : decode cX1_portion 82 = .ok (.iload 6, 2) := by decide +kernel
theorem dX1_portion_84 : decode cX1_portion 84 = .ok (.iload 4, 2) := by decide +kernel
theorem dX1_portion_86 : decode cX1_portion 86 = .ok (.idiv, 1) := by decide +kernel
theorem dX1_portion_87 : decode cX1_portion 87 = .ok (.iload 5, 2) := by decide +kernel
theorem dX1_portion_89 : decode cX1_portion 89 = .ok (.iload 6, 2) := by decide +kernel
theorem dX1_portion_91 : decode cX1_portion 91 = .ok (.iload 4, 2) := by decide +kernel
theorem dX1_portion_93 : decode cX1_portion 93 = .ok (.irem, 1) := by decide +kernel
theorem dX1_portion_94 : decode cX1_portion 94 = .ok (.if_icmp .ge 7, 3) := by decide +kernel
theorem dX1_portion_97 : decode cX1_portion 97 = .ok (.iconst 1, 1) := by decide +kernel
theorem dX1_portion_98 : decode cX1_portion 98 = .ok (.goto 4, 3) := by decide +kernel
theorem dX1_portion_101 : decode cX1_portion 101 = .ok (.iconst 0, 1) := by decide +kernel
theorem dX1_portion_102 : decode cX1_portion 102 = .ok (.iadd, 1) := by decide +kernel
theorem dX1_portion_103 : decode cX1_portion 103 = .ok (.istore 7, 2) := by decide +kernel
theorem dX1_portion_105 : decode cX1_portion 105 = .ok (.iload 7, 2) := by decide +kernel
theorem dX1_portion_107 : decode cX1_portion 107 = .ok (.aload_n 0, 1) := by decide +kernel
theorem dX1_portion_108 : decode cX1_portion 108 = .ok (.iconst 1, 1) := by decide +kernel
theorem dX1_portion_109 : decode cX1_portion 109 = .ok (.iload_n 2, 1) := by decide +kernel
theorem dX1_portion_110 : decode cX1_portion 110 = .ok (.iconst 1, 1) := by decide +kernel
theorem dX1_portion_111 : decode cX1_portion 111 = .ok (.invokevirtual 134, 3) := by decide +kernel
theorem dX1_portion_114 : decode cX1_portion 114 = .ok (.invokestatic 143, 3) := by decide +kernel
theorem dX1_portion_117 : decode cX1_portion 117 = .ok (.ireturn, 1) := by decide +kernel
theorem dX2_init_0 : decode cX2_init 0 = .ok (.aload_n 0, 1) := by decide +kernel
theorem dX2_init_1 : decode cX2_init 1 = .ok (.invokespecial 5, 3) := by decide +kernel
theorem dX2_init_4 : decode cX2_init 4 = .ok (.aload_n 0, 1) := by decide +kernel
theorem dX2_init_5 : decode cX2_init 5 = .ok (.sipush 192, 3) := by decide +kernel
theorem dX2_init_8 : decode cX2_init 8 = .ok (.newarray .int, 2) := by decide +kernel
theorem dX2_init_10 : decode cX2_init 10 = .ok (.putfield 11, 3) := by decide +kernel
theorem dX2_init_13 : decode cX2_init 13 = .ok (.aload_n 0, 1) := by decide +kernel
theorem dX2_init_14 : decode cX2_init 14 = .ok (.iconst 4, 1) := by decide +kernel
theorem dX2_init_15 : decode cX2_init 15 = .ok (.newarray .int, 2) := by decide +kernel
theorem dX2_init_17 : decode cX2_init 17 = .ok (.putfield 15, 3) := by decide +kernel
theorem dX2_init_20 : decode cX2_init 20 = .ok (.aload_n 0, 1) := by decide +kernel
theorem dX2_init_21 : decode cX2_init 21 = .ok (.bipush 48, 2) := by decide +kernel
theorem dX2_init_23 : decode cX2_init 23 = .ok (.newarray .int, 2) := by decide +kernel
theorem dX2_init_25 : decode cX2_init 25 = .ok (.putfield 18, 3) := by decide +kernel
theorem dX2_init_28 : decode cX2_init 28 = .ok (.return_, 1) := by decide +kernel
theorem dX2_read_0 : decode cX2_read 0 = .ok (.aload_n 1, 1) := by decide +kernel
theorem dX2_read_1 : decode cX2_read 1 = .ok (.invokevirtual 21, 3) := by decide +kernel
theorem dX2_read_4 : decode cX2_read 4 = .ok (.aload_n 0, 1) := by decide +kernel
theorem dX2_read_5 : decode cX2_read 5 = .ok (.iconst 0, 1) := by decide +kernel
theorem dX2_read_6 : decode cX2_read 6 = .ok (.putfield 26, 3) := by decide +kernel
theorem dX2_read_9 : decode cX2_read 9 = .ok (.aload_n 0, 1) := by decide +kernel
theorem dX2_read_10 : decode cX2_read 10 = .ok (.aload_n 1, 1) := by decide +kernel
theorem dX2_read_11 : decode cX2_read 11 = .ok (.invokevirtual 30, 3) := by decide +kernel
theorem dX2_read_14 : decode cX2_read 14 = .ok (.iconst 1, 1) := by decide +kernel
theorem dX2_read_15 : decode cX2_read 15 = .ok (.istore_n 2, 1) := by decide +kernel
theorem dX2_read_16 : decode cX2_read 16 = .ok (.iload_n 2, 1) := by decide +kernel
theorem dX2_read_17 : decode cX2_read 17 = .ok (.bipush 16, 2) := by decide +kernel
theorem dX2_read_19 : decode cX2_read 19 = .ok (.if_icmp .ge 23, 3) := by decide +kernel
theorem dX2_read_22 : decode cX2_read 22 = .ok (.aload_n 1, 1) := by decide +kernel
theorem dX2_read_23 : decode cX2_read 23 = .ok (.bipush 59, 2) := by decide +kernel
theorem dX2_read_25 : decode cX2_read 25 = .ok (.invokevirtual 34, 3) := by decide +kernel
theorem dX2_read_28 : decode cX2_read 28 = .ok (.ifCond .eq 14, 3) := by decide +kernel
theorem dX2_read_31 : decode cX2_read 31 = .ok (.aload_n 0, 1) := by decide +kernel
theorem dX2_read_32 : decode cX2_read 32 = .ok (.aload_n 1, 1) := by decide +kernel
theorem dX2_read_33 : decode cX2_read 33 = .ok (.invokevirtual 30, 3) := by decide +kernel
theorem dX2_read_36 : decode cX2_read 36 = .ok (.iinc 2 1, 3) := by decide +kernel
theorem dX2_read_39 : decode cX2_read 39 = .ok (.goto (-23), 3) := by decide +kernel
theorem dX2_read_42 : decode cX2_read 42 = .ok (.aload_n 1, 1) := by decide +kernel
theorem dX2_read_43 : decode cX2_read 43 = .ok (.invokevirtual 38, 3) := by decide +kernel
theorem dX2_read_46 : decode cX2_read 46 = .ok (.ireturn, 1) := by decide +kernel
theorem dX2_readStep_0 : decode cX2_readStep 0 = .ok (.ldc 42, 2) := by decide +kernel
theorem dX2_readStep_2 : decode cX2_readStep 2 = .ok (.aload_n 1, 1) := by decide +kernel
theorem dX2_readStep_3 : decode cX2_readStep 3 = .ok (.invokevirtual 44, 3) := by decide +kernel
theorem dX2_readStep_6 : decode cX2_readStep 6 = .ok (.invokestatic 47, 3) := by decide +kernel
theorem dX2_readStep_9 : decode cX2_readStep 9 = .ok (.istore_n 2, 1) := by decide +kernel
theorem dX2_readStep_10 : decode cX2_readStep 10 = .ok (.iload_n 2, 1) := by decide +kernel
theorem dX2_readStep_11 : decode cX2_readStep 11 = .ok (.ifCond .ge 12, 3) := by decide +kernel
theorem dX2_readStep_14 : decode cX2_readStep 14 = .ok (.aload_n 1, 1) := by decide +kernel
theorem dX2_readStep_15 : decode cX2_readStep 15 = .ok (.aload_n 1, 1) := by decide +kernel
theorem dX2_readStep_16 : decode cX2_readStep 16 = .ok (.getfield 51, 3) := by decide +kernel
theorem dX2_readStep_19 : decode cX2_readStep 19 = .ok (.invokevirtual 54, 3) := by decide +kernel
theorem dX2_readStep_22 : decode cX2_readStep 22 = .ok (.return_, 1) := by decide +kernel
theorem dX2_readStep_23 : decode cX2_readStep 23 = .ok (.aload_n 1, 1) := by decide +kernel
theorem dX2_readStep_24 : decode cX2_readStep 24 = .ok (.dup, 1) := by decide +kernel
theorem dX2_readStep_25 : decode cX2_readStep 25 = .ok (.getfield 51, 3) := by decide +kernel
theorem dX2_readStep_28 : decode cX2_readStep 28 = .ok (.iconst 1, 1) := by decide +kernel
theorem dX2_readStep_29 : decode cX2_readStep 29 = .ok (.iadd, 1) := by decide +kernel
theorem dX2_readStep_30 : decode cX2_readStep 30 = .ok (.putfield 51, 3) := by decide +kernel
theorem dX2_readStep_33 : decode cX2_readStep 33 = .ok (.aload_n 0, 1) := by decide +kernel
theorem dX2_readStep_34 : decode cX2_readStep 34 = .ok (.getfield 18, 3) := by decide +kernel
theorem dX2_readStep_37 : decode cX2_readStep 37 = .ok (.aload_n 0, 1) := by decide +kernel
theorem dX2_readStep_38 : decode cX2_readStep 38 = .ok (.getfield 26, 3) := by decide +kernel
theorem dX2_readStep_41 : decode cX2_readStep 41 = .ok (.iconst 3, 1) := by decide +kernel
theorem dX2_readStep_42 : decode cX2_readStep 42 = .ok (.imul, 1) := by decide +kernel
theorem dX2_readStep_43 : decode cX2_readStep 43 = .ok (.iload_n 2, 1) := by decide +kernel
theorem dX2_readStep_44 : decode cX2_readStep 44 = .ok (.invokestatic 58, 3) := by decide +kernel
theorem dX2_readStep_47 : decode cX2_readStep 47 = .ok (.aload_n 0, 1) := by decide +kernel
theorem dX2_readStep_48 : decode cX2_readStep 48 = .ok (.getfield 18, 3) := by decide +kernel
theorem dX2_readStep_51 : decode cX2_readStep 51 = .ok (.aload_n 0, 1) := by decide +kernel
theorem dX2_readStep_52 : decode cX2_readStep 52 = .ok (.getfield 26, 3) := by decide +kernel
theorem dX2_readStep_55 : decode cX2_readStep 55 = .ok (.iconst 3, 1) := by decide +kernel
theorem dX2_readStep_56 : decode cX2_readStep 56 = .ok (.imul, 1) := by decide +kernel
theorem dX2_readStep_57 : decode cX2_readStep 57 = .ok (.iconst 1, 1) := by decide +kernel
theorem dX2_readStep_58 : decode cX2_readStep 58 = .ok (.iadd, 1) := by decide +kernel
theorem dX2_readStep_59 : decode cX2_readStep 59 = .ok (.iload_n 2, 1) := by decide +kernel
theorem dX2_readStep_60 : decode cX2_readStep 60 = .ok (.iconst 2, 1) := by decide +kernel
theorem dX2_readStep_61 : decode cX2_readStep 61 = .ok (.if_icmp .ne 7, 3) := by decide +kernel
theorem dX2_readStep_64 : decode cX2_readStep 64 = .ok (.iconst (-1), 1) := by decide +kernel
theorem dX2_readStep_65 : decode cX2_readStep 65 = .ok (.goto 7, 3) := by decide +kernel
theorem dX2_readStep_68 : decode cX2_readStep 68 = .ok (.aload_n 1, 1) := by decide +kernel
theorem dX2_readStep_69 : decode cX2_readStep 69 = .ok (.invokestatic 62, 3) := by decide +kernel
theorem dX2_readStep_72 : decode cX2_readStep 72 = .ok (.invokestatic 58, 3) := by decide +kernel
theorem dX2_readStep_75 : decode cX2_readStep 75 = .ok (.aload_n 0, 1) := by decide +kernel
theorem dX2_readStep_76 : decode cX2_readStep 76 = .ok (.getfield 18, 3) := by decide +kernel
theorem dX2_readStep_79 : decode cX2_readStep 79 = .ok (.aload_n 0, 1) := by decide +kernel
theorem dX2_readStep_80 : decode cX2_readStep 80 = .ok (.getfield 26, 3) := by decide +kernel
theorem dX2_readStep_83 : decode cX2_readStep 83 = .ok (.iconst 3, 1) := by decide +kernel
theorem dX2_readStep_84 : decode cX2_readStep 84 = .ok (.imul, 1) := by decide +kernel
theorem dX2_readStep_85 : decode cX2_readStep 85 = .ok (.iconst 2, 1) := by decide +kernel
theorem dX2_readStep_86 : decode cX2_readStep 86 = .ok (.iadd, 1) := by decide +kernel
theorem dX2_readStep_87 : decode cX2_readStep 87 = .ok (.iload_n 2, 1) := by decide +kernel
theorem dX2_readStep_88 : decode cX2_readStep 88 = .ok (.ifCond .ne 10, 3) := by decide +kernel
theorem dX2_readStep_91 : decode cX2_readStep 91 = .ok (.aload_n 1, 1) := by decide +kernel
theorem dX2_readStep_92 : decode cX2_readStep 92 = .ok (.invokestatic 62, 3) := by decide +kernel
theorem dX2_readStep_95 : decode cX2_readStep 95 = .ok (.goto 4, 3) := by decide +kernel
theorem dX2_readStep_98 : decode cX2_readStep 98 = .ok (.iconst (-1), 1) := by decide +kernel
theorem dX2_readStep_99 : decode cX2_readStep 99 = .ok (.invokestatic 58, 3) := by decide +kernel
theorem dX2_readStep_102 : decode cX2_readStep 102 = .ok (.aload_n 0, 1) := by decide +kernel
theorem dX2_readStep_103 : decode cX2_readStep 103 = .ok (.dup, 1) := by decide +kernel
theorem dX2_readStep_104 : decode cX2_readStep 104 = .ok (.getfield 26, 3) := by decide +kernel
theorem dX2_readStep_107 : decode cX2_readStep 107 = .ok (.iconst 1, 1) := by decide +kernel
theorem dX2_readStep_108 : decode cX2_readStep 108 = .ok (.iadd, 1) := by decide +kernel
theorem dX2_readStep_109 : decode cX2_readStep 109 = .ok (.putfield 26, 3) := by decide +kernel
theorem dX2_readStep_112 : decode cX2_readStep 112 = .ok (.return_, 1) := by decide +kernel
theorem dX2_readDigit_0 : decode cX2_readDigit 0 = .ok (.aload_n 0, 1) := by decide +kernel
theorem dX2_readDigit_1 : decode cX2_readDigit 1 = .ok (.invokevirtual 44, 3) := by decide +kernel
theorem dX2_readDigit_4 : decode cX2_readDigit 4 = .ok (.istore_n 1, 1) := by decide +kernel
theorem dX2_readDigit_5 : decode cX2_readDigit 5 = .ok (.iload_n 1, 1) := by decide +kernel
theorem dX2_readDigit_6 : decode cX2_readDigit 6 = .ok (.invokestatic 66, 3) := by decide +kernel
theorem dX2_readDigit_9 : decode cX2_readDigit 9 = .ok (.ifCond .ne 13, 3) := by decide +kernel
theorem dX2_readDigit_12 : decode cX2_readDigit 12 = .ok (.aload_n 0, 1) := by decide +kernel
theorem dX2_readDigit_13 : decode cX2_readDigit 13 = .ok (.aload_n 0, 1) := by decide +kernel
theorem dX2_readDigit_14 : decode cX2_readDigit 14 = .ok (.getfield 51, 3) := by decide +kernel
theorem dX2_readDigit_17 : decode cX2_readDigit 17 = .ok (.invokevirtual 54, 3) := by decide +kernel
theorem dX2_readDigit_20 : decode cX2_readDigit 20 = .ok (.iconst (-1), 1) := by decide +kernel
theorem dX2_readDigit_21 : decode cX2_readDigit 21 = .ok (.ireturn, 1) := by decide +kernel
theorem dX2_readDigit_22 : decode cX2_readDigit 22 = .ok (.aload_n 0, 1) := by decide +kernel
theorem dX2_readDigit_23 : decode cX2_readDigit 23 = .ok (.dup, 1) := by decide +kernel
theorem dX2_readDigit_24 : decode cX2_readDigit 24 = .ok (.getfield 51, 3) := by decide +kernel
theorem dX2_readDigit_27 : decode cX2_readDigit 27 = .ok (.iconst 1, 1) := by decide +kernel
theorem dX2_readDigit_28 : decode cX2_readDigit 28 = .ok (.iadd, 1) := by decide +kernel
theorem dX2_readDigit_29 : decode cX2_readDigit 29 = .ok (.putfield 51, 3) := by decide +kernel
theorem dX2_readDigit_32 : decode cX2_readDigit 32 = .ok (.iload_n 1, 1) := by decide +kernel
theorem dX2_readDigit_33 : decode cX2_readDigit 33 = .ok (.bipush 48, 2) := by decide +kernel
theorem dX2_readDigit_35 : decode cX2_readDigit 35 = .ok (.isub, 1) := by decide +kernel
theorem dX2_readDigit_36 : decode cX2_readDigit 36 = .ok (.ireturn, 1) := by decide +kernel
theorem dX2_add_0 : decode cX2_add 0 = .ok (.aload_n 0, 1) := by decide +kernel
theorem dX2_add_1 : decode cX2_add 1 = .ok (.getfield 69, 3) := by decide +kernel
theorem dX2_add_4 : decode cX2_add 4 = .ok (.iconst 4, 1) := by decide +kernel
theorem dX2_add_5 : decode cX2_add 5 = .ok (.if_icmp .lt 5, 3) := by decide +kernel
theorem dX2_add_8 : decode cX2_add 8 = .ok (.iconst (-1), 1) := by decide +kernel
theorem dX2_add_9 : decode cX2_add 9 = .ok (.ireturn, 1) := by decide +kernel
theorem dX2_add_10 : decode cX2_add 10 = .ok (.iconst 0, 1) := by decide +kernel
theorem dX2_add_11 : decode cX2_add 11 = .ok (.istore_n 1, 1) := by decide +kernel
theorem dX2_add_12 : decode cX2_add 12 = .ok (.iload_n 1, 1) := by decide +kernel
theorem dX2_add_13 : decode cX2_add 13 = .ok (.aload_n 0, 1) := by decide +kernel
theorem dX2_add_14 : decode cX2_add 14 = .ok (.getfield 26, 3) := by decide +kernel
theorem dX2_add_17 : decode cX2_add 17 = .ok (.iconst 3, 1) := by decide +kernel
theorem dX2_add_18 : decode cX2_add 18 = .ok (.imul, 1) := by decide +kernel
theorem dX2_add_19 : decode cX2_add 19 = .ok (.if_icmp .ge 33, 3) := by decide +kernel
theorem dX2_add_22 : decode cX2_add 22 = .ok (.aload_n 0, 1) := by decide +kernel
theorem dX2_add_23 : decode cX2_add 23 = .ok (.getfield 11, 3) := by decide +kernel
theorem dX2_add_26 : decode cX2_add 26 = .ok (.aload_n 0, 1) := by decide +kernel
theorem dX2_add_27 : decode cX2_add 27 = .ok (.getfield 69, 3) := by decide +kernel
theorem dX2_add_30 : decode cX2_add 30 = .ok (.bipush 48, 2) := by decide +kernel
theorem dX2_add_32 : decode cX2_add 32 = .ok (.imul, 1) := by decide +kernel
theorem dX2_add_33 : decode cX2_add 33 = .ok (.iload_n 1, 1) := by decide +kernel
theorem dX2_add_34 : decode cX2_add 34 = .ok (.iadd, 1) := by decide +kernel
theorem dX2_add_35 : decode cX2_add 35 = .ok (.aload_n 0, 1) := by decide +kernel
theorem dX2_add_36 : decode cX2_add 36 = .ok (.getfield 18, 3) := by decide +kernel
theorem dX2_add_39 : decode cX2_add 39 = .ok (.iload_n 1, 1) := by decide +kernel
theorem dX2_add_40 : decode cX2_add 40 = .ok (.invokestatic 72, 3) := by decide +kernel
theorem dX2_add_43 : decode cX2_add 43 = .ok (.invokestatic 58, 3) := by decide +kernel
theorem dX2_add_46 : decode cX2_add 46 = .ok (.iinc 1 1, 3) := by decide +kernel
theorem dX2_add_49 : decode cX2_add 49 = .ok (.goto (-37), 3) := by decide +kernel
theorem dX2_add_52 : decode cX2_add 52 = .ok (.aload_n 0, 1) := by decide +kernel
theorem dX2_add_53 : decode cX2_add 53 = .ok (.getfield 15, 3) := by decide +kernel
theorem dX2_add_56 : decode cX2_add 56 = .ok (.aload_n 0, 1) := by decide +kernel
theorem dX2_add_57 : decode cX2_add 57 = .ok (.getfield 69, 3) := by decide +kernel
theorem dX2_add_60 : decode cX2_add 60 = .ok (.aload_n 0, 1) := by decide +kernel
theorem dX2_add_61 : decode cX2_add 61 = .ok (.getfield 26, 3) := by decide +kernel
theorem dX2_add_64 : decode cX2_add 64 = .ok (.invokestatic 58, 3) := by decide +kernel
theorem dX2_add_67 : decode cX2_add 67 = .ok (.aload_n 0, 1) := by decide +kernel
theorem dX2_add_68 : decode cX2_add 68 = .ok (.dup, 1) := by decide +kernel
theorem dX2_add_69 : decode cX2_add 69 = .ok (.getfield 69, 3) := by decide +kernel
theorem dX2_add_72 : decode cX2_add 72 = .ok (.iconst 1, 1) := by decide +kernel
theorem dX2_add_73 : decode cX2_add 73 = .ok (.iadd, 1) := by decide +kernel
theorem dX2_add_74 : decode cX2_add 74 = .ok (.putfield 69, 3) := by decide +kernel
theorem dX2_add_77 : decode cX2_add 77 = .ok (.aload_n 0, 1) := by decide +kernel
theorem dX2_add_78 : decode cX2_add 78 = .ok (.getfield 69, 3) := by decide +kernel
theorem dX2_add_81 : decode cX2_add 81 = .ok (.iconst 1, 1) := by decide +kernel
theorem dX2_add_82 : decode cX2_add 82 = .ok (.isub, 1) := by decide +kernel
theorem dX2_add_83 : decode cX2_add 83 = .ok (.ireturn, 1) := by decide +kernel
theorem dX2_has_0 : decode cX2_has 0 = .ok (.iload_n 1, 1) := by decide +kernel
theorem dX2_has_1 : decode cX2_has 1 = .ok (.ifCond .lt 15, 3) := by decide +kernel
theorem dX2_has_4 : decode cX2_has 4 = .ok (.iload_n 1, 1) := by decide +kernel
theorem dX2_has_5 : decode cX2_has 5 = .ok (.aload_n 0, 1) := by decide +kernel
theorem dX2_has_6 : decode cX2_has 6 = .ok (.getfield 69, 3) := by decide +kernel
theorem dX2_has_9 : decode cX2_has 9 = .ok (.if_icmp .ge 7, 3) := by decide +kernel
theorem dX2_has_12 : decode cX2_has 12 = .ok (.iconst 1, 1) := by decide +kernel
theorem dX2_has_13 : decode cX2_has 13 = .ok (.goto 4, 3) := by decide +kernel
theorem dX2_has_16 : decode cX2_has 16 = .ok (.iconst 0, 1) := by decide +kernel
theorem dX2_has_17 : decode cX2_has 17 = .ok (.ireturn, 1) := by decide +kernel
theorem dX2_length_0 : decode cX2_length 0 = .ok (.aload_n 0, 1) := by decide +kernel
theorem dX2_length_1 : decode cX2_length 1 = .ok (.iload_n 1, 1) := by decide +kernel
theorem dX2_length_2 : decode cX2_length 2 = .ok (.invokevirtual 76, 3) := by decide +kernel
theorem dX2_length_5 : decode cX2_length 5 = .ok (.ifCond .eq 14, 3) := by decide +kernel
theorem dX2_length_8 : decode cX2_length 8 = .ok (.aload_n 0, 1) := by decide +kernel
theorem dX2_length_9 : decode cX2_length 9 = .ok (.getfield 15, 3) := by decide +kernel
theorem dX2_length_12 : decode cX2_length 12 = .ok (.iload_n 1, 1) := by decide +kernel
theorem dX2_length_13 : decode cX2_length 13 = .ok (.invokestatic 72, 3) := by decide +kernel
theorem dX2_length_16 : decode cX2_length 16 = .ok (.goto 4, 3) := by decide +kernel
theorem dX2_length_19 : decode cX2_length 19 = .ok (.iconst 0, 1) := by decide +kernel
theorem dX2_length_20 : decode cX2_length 20 = .ok (.ireturn, 1) := by decide +kernel
theorem dX2_part_0 : decode cX2_part 0 = .ok (.iload_n 2, 1) := by decide +kernel
theorem dX2_part_1 : decode cX2_part 1 = .ok (.ifCond .lt 21, 3) := by decide +kernel
theorem dX2_part_4 : decode cX2_part 4 = .ok (.iload_n 2, 1) := by decide +kernel
theorem dX2_part_5 : decode cX2_part 5 = .ok (.aload_n 0, 1) := by decide +kernel
theorem dX2_part_6 : decode cX2_part 6 = .ok (.iload_n 1, 1) := by decide +kernel
theorem dX2_part_7 : decode cX2_part 7 = .ok (.invokevirtual 79, 3) := by decide +kernel
theorem dX2_part_10 : decode cX2_part 10 = .ok (.if_icmp .ge 12, 3) := by decide +kernel
theorem dX2_part_13 : decode cX2_part 13 = .ok (.iload_n 3, 1) := by decide +kernel
theorem dX2_part_14 : decode cX2_part 14 = .ok (.ifCond .lt 8, 3) := by decide +kernel
theorem dX2_part_17 : decode cX2_part 17 = .ok (.iload_n 3, 1) := by decide +kernel
theorem dX2_part_18 : decode cX2_part 18 = .ok (.iconst 3, 1) := by decide +kernel
theorem dX2_part_19 : decode cX2_part 19 = .ok (.if_icmp .lt 5, 3) := by decide +kernel
theorem dX2_part_22 : decode cX2_part 22 = .ok (.iconst (-1), 1) := by decide +kernel
theorem dX2_part_23 : decode cX2_part 23 = .ok (.ireturn, 1) := by decide +kernel
theorem dX2_part_24 : decode cX2_part 24 = .ok (.aload_n 0, 1) := by decide +kernel
theorem dX2_part_25 : decode cX2_part 25 = .ok (.getfield 11, 3) := by decide +kernel
theorem dX2_part_28 : decode cX2_part 28 = .ok (.iload_n 1, 1) := by decide +kernel
theorem dX2_part_29 : decode cX2_part 29 = .ok (.bipush 48, 2) := by decide +kernel
theorem dX2_part_31 : decode cX2_part 31 = .ok (.imul, 1) := by decide +kernel
theorem dX2_part_32 : decode cX2_part 32 = .ok (.iload_n 2, 1) := by decide +kernel
theorem dX2_part_33 : decode cX2_part 33 = .ok (.iconst 3, 1) := by decide +kernel
theorem dX2_part_34 : decode cX2_part 34 = .ok (.imul, 1) := by decide +kernel
theorem dX2_part_35 : decode cX2_part 35 = .ok (.iadd, 1) := by decide +kernel
theorem dX2_part_36 : decode cX2_part 36 = .ok (.iload_n 3, 1) := by decide +kernel
theorem dX2_part_37 : decode cX2_part 37 = .ok (.iadd, 1) := by decide +kernel
theorem dX2_part_38 : decode cX2_part 38 = .ok (.invokestatic 72, 3) := by decide +kernel
theorem dX2_part_41 : decode cX2_part 41 = .ok (.ireturn, 1) := by decide +kernel
theorem dX3_init_0 : decode cX3_init 0 = .ok (.aload_n 0, 1) := by decide +kernel
theorem dX3_init_1 : decode cX3_init 1 = .ok (.invokespecial 3, 3) := by decide +kernel
theorem dX3_init_4 : decode cX3_init 4 = .ok (.aload_n 0, 1) := by decide +kernel
theorem dX3_init_5 : decode cX3_init 5 = .ok (.sipush 6144, 3) := by decide +kernel
theorem dX3_init_8 : decode cX3_init 8 = .ok (.newarray .int, 2) := by decide +kernel
theorem dX3_init_10 : decode cX3_init 10 = .ok (.putfield 11, 3) := by decide +kernel
theorem dX3_init_13 : decode cX3_init 13 = .ok (.return_, 1) := by decide +kernel
theorem dX3_forget_0 : decode cX3_forget 0 = .ok (.aload_n 0, 1) := by decide +kernel
theorem dX3_forget_1 : decode cX3_forget 1 = .ok (.getfield 11, 3) := by decide +kernel
theorem dX3_forget_4 : decode cX3_forget 4 = .ok (.iconst 0, 1) := by decide +kernel
theorem dX3_forget_5 : decode cX3_forget 5 = .ok (.invokestatic 15, 3) := by decide +kernel
theorem dX3_forget_8 : decode cX3_forget 8 = .ok (.return_, 1) := by decide +kernel
theorem dX3_hours_0 : decode cX3_hours 0 = .ok (.aload_n 0, 1) := by decide +kernel
theorem dX3_hours_1 : decode cX3_hours 1 = .ok (.getfield 11, 3) := by decide +kernel
theorem dX3_hours_4 : decode cX3_hours 4 = .ok (.aload_n 1, 1) := by decide +kernel
theorem dX3_hours_5 : decode cX3_hours 5 = .ok (.iload_n 2, 1) := by decide +kernel
theorem dX3_hours_6 : decode cX3_hours 6 = .ok (.iload_n 3, 1) := by decide +kernel
theorem dX3_hours_7 : decode cX3_hours 7 = .ok (.iconst 0, 1) := by decide +kernel
theorem dX3_hours_8 : decode cX3_hours 8 = .ok (.invokestatic 21, 3) := by decide +kernel
theorem dX3_hours_11 : decode cX3_hours 11 = .ok (.ireturn, 1) := by decide +kernel
theorem dX3_fewest_0 : decode cX3_fewest 0 = .ok (.iload_n 2, 1) := by decide +kernel
theorem dX3_fewest_1 : decode cX3_fewest 1 = .ok (.ifCond .ne 5, 3) := by decide +kernel
theorem dX3_fewest_4 : decode cX3_fewest 4 = .ok (.iconst 0, 1) := by decide +kernel
theorem dX3_fewest_5 : decode cX3_fewest 5 = .ok (.ireturn, 1) := by decide +kernel
theorem dX3_fewest_6 : decode cX3_fewest 6 = .ok (.iload 4, 2) := by decide +kernel
theorem dX3_fewest_8 : decode cX3_fewest 8 = .ok (.bipush 8, 2) := by decide +kernel
theorem dX3_fewest_10 : decode cX3_fewest 10 = .ok (.if_icmp .lt 5, 3) := by decide +kernel
theorem dX3_fewest_13 : decode cX3_fewest 13 = .ok (.iconst (-1), 1) := by decide +kernel
theorem dX3_fewest_14 : decode cX3_fewest 14 = .ok (.ireturn, 1) := by decide +kernel
theorem dX3_fewest_15 : decode cX3_fewest 15 = .ok (.aload_n 0, 1) := by decide +kernel
theorem dX3_fewest_16 : decode cX3_fewest 16 = .ok (.iload_n 2, 1) := by decide +kernel
theorem dX3_fewest_17 : decode cX3_fewest 17 = .ok (.bipush 24, 2) := by decide +kernel
theorem dX3_fewest_19 : decode cX3_fewest 19 = .ok (.imul, 1) := by decide +kernel
theorem dX3_fewest_20 : decode cX3_fewest 20 = .ok (.iload_n 3, 1) := by decide +kernel
theorem dX3_fewest_21 : decode cX3_fewest 21 = .ok (.iadd, 1) := by decide +kernel
theorem dX3_fewest_22 : decode cX3_fewest 22 = .ok (.invokestatic 25, 3) := by decide +kernel
theorem dX3_fewest_25 : decode cX3_fewest 25 = .ok (.istore 5, 2) := by decide +kernel
theorem dX3_fewest_27 : decode cX3_fewest 27 = .ok (.iload 5, 2) := by decide +kernel
theorem dX3_fewest_29 : decode cX3_fewest 29 = .ok (.ifCond .eq 8, 3) := by decide +kernel
theorem dX3_fewest_32 : decode cX3_fewest 32 = .ok (.iload 5, 2) := by decide +kernel
theorem dX3_fewest_34 : decode cX3_fewest 34 = .ok (.iconst 2, 1) := by decide +kernel
theorem dX3_fewest_35 : decode cX3_fewest 35 = .ok (.isub, 1) := by decide +kernel
theorem dX3_fewest_36 : decode cX3_fewest 36 = .ok (.ireturn, 1) := by decide +kernel
theorem dX3_fewest_37 : decode cX3_fewest 37 = .ok (.iconst (-1), 1) := by decide +kernel
theorem dX3_fewest_38 : decode cX3_fewest 38 = .ok (.istore 6, 2) := by decide +kernel
theorem dX3_fewest_40 : decode cX3_fewest 40 = .ok (.iconst 0, 1) := by decide +kernel
theorem dX3_fewest_41 : decode cX3_fewest 41 = .ok (.istore 7, 2) := by decide +kernel
theorem dX3_fewest_43 : decode cX3_fewest 43 = .ok (.iload 7, 2) := by decide +kernel
theorem dX3_fewest_45 : decode cX3_fewest 45 = .ok (.aload_n 1, 1) := by decide +kernel
theorem dX3_fewest_46 : decode cX3_fewest 46 = .ok (.iconst 3, 1) := by decide +kernel
theorem dX3_fewest_47 : decode cX3_fewest 47 = .ok (.invokevirtual 29, 3) := by decide +kernel
theorem dX3_fewest_50 : decode cX3_fewest 50 = .ok (.if_icmp .ge 83, 3) := by decide +kernel
theorem dX3_fewest_53 : decode cX3_fewest 53 = .ok (.aload_n 1, 1) := by decide +kernel
theorem dX3_fewest_54 : decode cX3_fewest 54 = .ok (.iload_n 2, 1) := by decide +kernel
theorem dX3_fewest_55 : decode cX3_fewest 55 = .ok (.iload 7, 2) := by decide +kernel
theorem dX3_fewest_57 : decode cX3_fewest 57 = .ok (.invokestatic 35, 3) := by decide +kernel
theorem dX3_fewest_60 : decode cX3_fewest 60 = .ok (.ifCond .eq 67, 3) := by decide +kernel
theorem dX3_fewest_63 : decode cX3_fewest 63 = .ok (.aload_n 1, 1) := by decide +kernel
theorem dX3_fewest_64 : decode cX3_fewest 64 = .ok (.iload 7, 2) := by decide +kernel
theorem dX3_fewest_66 : decode cX3_fewest 66 = .ok (.iload_n 3, 1) := by decide +kernel
theorem dX3_fewest_67 : decode cX3_fewest 67 = .ok (.invokevirtual 39, 3) := by decide +kernel
theorem dX3_fewest_70 : decode cX3_fewest 70 = .ok (.istore 8, 2) := by decide +kernel
theorem dX3_fewest_72 : decode cX3_fewest 72 = .ok (.aload_n 0, 1) := by decide +kernel
theorem dX3_fewest_73 : decode cX3_fewest 73 = .ok (.aload_n 1, 1) := by decide +kernel
theorem dX3_fewest_74 : decode cX3_fewest 74 = .ok (.iload_n 2, 1) := by decide +kernel
theorem dX3_fewest_75 : decode cX3_fewest 75 = .ok (.iconst 1, 1) := by decide +kernel
theorem dX3_fewest_76 : decode cX3_fewest 76 = .ok (.iload 7, 2) := by decide +kernel
theorem dX3_fewest_78 : decode cX3_fewest 78 = .ok (.ishl, 1) := by decide +kernel
theorem dX3_fewest_79 : decode cX3_fewest 79 = .ok (.iconst (-1), 1) := by decide +kernel
theorem dX3_fewest_80 : decode cX3_fewest 80 = .ok (.ixor, 1) := by decide +kernel
theorem dX3_fewest_81 : decode cX3_fewest 81 = .ok (.iand, 1) := by decide +kernel
theorem dX3_fewest_82 : decode cX3_fewest 82 = .ok (.iload_n 3, 1) := by decide +kernel
theorem dX3_fewest_83 : decode cX3_fewest 83 = .ok (.iload 8, 2) := by decide +kernel
theorem dX3_fewest_85 : decode cX3_fewest 85 = .ok (.iadd, 1) := by decide +kernel
theorem dX3_fewest_86 : decode cX3_fewest 86 = .ok (.bipush 24, 2) := by decide +kernel
theorem dX3_fewest_88 : decode cX3_fewest 88 = .ok (.irem, 1) := by decide +kernel
theorem dX3_fewest_89 : decode cX3_fewest 89 = .ok (.iload 4, 2) := by decide +kernel
theorem dX3_fewest_91 : decode cX3_fewest 91 = .ok (.iconst 1, 1) := by decide +kernel
theorem dX3_fewest_92 : decode cX3_fewest 92 = .ok (.iadd, 1) := by decide +kernel
theorem dX3_fewest_93 : decode cX3_fewest 93 = .ok (.invokestatic 21, 3) := by decide +kernel
theorem dX3_fewest_96 : decode cX3_fewest 96 = .ok (.istore 9, 2) := by decide +kernel
theorem dX3_fewest_98 : decode cX3_fewest 98 = .ok (.iload 9, 2) := by decide +kernel
theorem dX3_fewest_100 : decode cX3_fewest 100 = .ok (.iconst (-1), 1) := by decide +kernel
theorem dX3_fewest_101 : decode cX3_fewest 101 = .ok (.if_icmp .eq 26, 3) := by decide +kernel
theorem dX3_fewest_104 : decode cX3_fewest 104 = .ok (.iload 6, 2) := by decide +kernel
theorem dX3_fewest_106 : decode cX3_fewest 106 = .ok (.iconst (-1), 1) := by decide +kernel
theorem dX3_fewest_107 : decode cX3_fewest 107 = .ok (.if_icmp .eq 13, 3) := by decide +kernel
theorem dX3_fewest_110 : decode cX3_fewest 110 = .ok (.iload 8, 2) := by decide +kernel
theorem dX3_fewest_112 : decode cX3_fewest 112 = .ok (.iload 9, 2) := by decide +kernel
theorem dX3_fewest_114 : decode cX3_fewest 114 = .ok (.iadd, 1) := by decide +kernel
theorem dX3_fewest_115 : decode cX3_fewest 115 = .ok (.iload 6, 2) := by decide +kernel
theorem dX3_fewest_117 : decode cX3_fewest 117 = .ok (.if_icmp .ge 10, 3) := by decide +kernel
theorem dX3_fewest_120 : decode cX3_fewest 120 = .ok (.iload 8, 2) := by decide +kernel
theorem dX3_fewest_122 : decode cX3_fewest 122 = .ok (.iload 9, 2) := by decide +kernel
theorem dX3_fewest_124 : decode cX3_fewest 124 = .ok (.iadd, 1) := by decide +kernel
theorem dX3_fewest_125 : decode cX3_fewest 125 = .ok (.istore 6, 2) := by decide +kernel
theorem dX3_fewest_127 : decode cX3_fewest 127 = .ok (.iinc 7 1, 3) := by decide +kernel
theorem dX3_fewest_130 : decode cX3_fewest 130 = .ok (.goto (-87), 3) := by decide +kernel
theorem dX3_fewest_133 : decode cX3_fewest 133 = .ok (.aload_n 0, 1) := by decide +kernel
theorem dX3_fewest_134 : decode cX3_fewest 134 = .ok (.iload_n 2, 1) := by decide +kernel
theorem dX3_fewest_135 : decode cX3_fewest 135 = .ok (.bipush 24, 2) := by decide +kernel
theorem dX3_fewest_137 : decode cX3_fewest 137 = .ok (.imul, 1) := by decide +kernel
theorem dX3_fewest_138 : decode cX3_fewest 138 = .ok (.iload_n 3, 1) := by decide +kernel
theorem dX3_fewest_139 : decode cX3_fewest 139 = .ok (.iadd, 1) := by decide +kernel
theorem dX3_fewest_140 : decode cX3_fewest 140 = .ok (.iload 6, 2) := by decide +kernel
theorem dX3_fewest_142 : decode cX3_fewest 142 = .ok (.iconst 2, 1) := by decide +kernel
theorem dX3_fewest_143 : decode cX3_fewest 143 = .ok (.iadd, 1) := by decide +kernel
theorem dX3_fewest_144 : decode cX3_fewest 144 = .ok (.invokestatic 43, 3) := by decide +kernel
theorem dX3_fewest_147 : decode cX3_fewest 147 = .ok (.iload 6, 2) := by decide +kernel
theorem dX3_fewest_149 : decode cX3_fewest 149 = .ok (.ireturn, 1) := by decide +kernel
theorem dX3_isNext_0 : decode cX3_isNext 0 = .ok (.iload_n 1, 1) := by decide +kernel
theorem dX3_isNext_1 : decode cX3_isNext 1 = .ok (.iload_n 2, 1) := by decide +kernel
theorem dX3_isNext_2 : decode cX3_isNext 2 = .ok (.invokestatic 47, 3) := by decide +kernel
theorem dX3_isNext_5 : decode cX3_isNext 5 = .ok (.ifCond .eq 17, 3) := by decide +kernel
theorem dX3_isNext_8 : decode cX3_isNext 8 = .ok (.aload_n 0, 1) := by decide +kernel
theorem dX3_isNext_9 : decode cX3_isNext 9 = .ok (.iload_n 2, 1) := by decide +kernel
theorem dX3_isNext_10 : decode cX3_isNext 10 = .ok (.invokevirtual 51, 3) := by decide +kernel
theorem dX3_isNext_13 : decode cX3_isNext 13 = .ok (.iload_n 1, 1) := by decide +kernel
theorem dX3_isNext_14 : decode cX3_isNext 14 = .ok (.iand, 1) := by decide +kernel
theorem dX3_isNext_15 : decode cX3_isNext 15 = .ok (.ifCond .ne 7, 3) := by decide +kernel
theorem dX3_isNext_18 : decode cX3_isNext 18 = .ok (.iconst 1, 1) := by decide +kernel
theorem dX3_isNext_19 : decode cX3_isNext 19 = .ok (.goto 4, 3) := by decide +kernel
theorem dX3_isNext_22 : decode cX3_isNext 22 = .ok (.iconst 0, 1) := by decide +kernel
theorem dX3_isNext_23 : decode cX3_isNext 23 = .ok (.ireturn, 1) := by decide +kernel
theorem dX3_first_0 : decode cX3_first 0 = .ok (.aload_n 0, 1) := by decide +kernel
theorem dX3_first_1 : decode cX3_first 1 = .ok (.getfield 11, 3) := by decide +kernel
theorem dX3_first_4 : decode cX3_first 4 = .ok (.aload_n 1, 1) := by decide +kernel
theorem dX3_first_5 : decode cX3_first 5 = .ok (.iload_n 2, 1) := by decide +kernel
theorem dX3_first_6 : decode cX3_first 6 = .ok (.iload_n 3, 1) := by decide +kernel
theorem dX3_first_7 : decode cX3_first 7 = .ok (.iconst 0, 1) := by decide +kernel
theorem dX3_first_8 : decode cX3_first 8 = .ok (.invokestatic 21, 3) := by decide +kernel
theorem dX3_first_11 : decode cX3_first 11 = .ok (.istore 4, 2) := by decide +kernel
theorem dX3_first_13 : decode cX3_first 13 = .ok (.iconst 0, 1) := by decide +kernel
theorem dX3_first_14 : decode cX3_first 14 = .ok (.istore 5, 2) := by decide +kernel
theorem dX3_first_16 : decode cX3_first 16 = .ok (.iload 5, 2) := by decide +kernel
theorem dX3_first_18 : decode cX3_first 18 = .ok (.aload_n 1, 1) := by decide +kernel
theorem dX3_first_19 : decode cX3_first 19 = .ok (.iconst 3, 1) := by decide +kernel
theorem dX3_first_20 : decode cX3_first 20 = .ok (.invokevirtual 29, 3) := by decide +kernel
theorem dX3_first_23 : decode cX3_first 23 = .ok (.if_icmp .ge 79, 3) := by decide +kernel
theorem dX3_first_26 : decode cX3_first 26 = .ok (.iload 4, 2) := by decide +kernel
theorem dX3_first_28 : decode cX3_first 28 = .ok (.iconst (-1), 1) := by decide +kernel
theorem dX3_first_29 : decode cX3_first 29 = .ok (.if_icmp .eq 73, 3) := by decide +kernel
theorem dX3_first_32 : decode cX3_first 32 = .ok (.aload_n 1, 1) := by decide +kernel
theorem dX3_first_33 : decode cX3_first 33 = .ok (.iload_n 2, 1) := by decide +kernel
theorem dX3_first_34 : decode cX3_first 34 = .ok (.iload 5, 2) := by decide +kernel
theorem dX3_first_36 : decode cX3_first 36 = .ok (.invokestatic 35, 3) := by decide +kernel
theorem dX3_first_39 : decode cX3_first 39 = .ok (.ifCond .eq 57, 3) := by decide +kernel
theorem dX3_first_42 : decode cX3_first 42 = .ok (.aload_n 1, 1) := by decide +kernel
theorem dX3_first_43 : decode cX3_first 43 = .ok (.iload 5, 2) := by decide +kernel
theorem dX3_first_45 : decode cX3_first 45 = .ok (.iload_n 3, 1) := by decide +kernel
theorem dX3_first_46 : decode cX3_first 46 = .ok (.invokevirtual 39, 3) := by decide +kernel
theorem dX3_first_49 : decode cX3_first 49 = .ok (.istore 6, 2) := by decide +kernel
theorem dX3_first_51 : decode cX3_first 51 = .ok (.aload_n 0, 1) := by decide +kernel
theorem dX3_first_52 : decode cX3_first 52 = .ok (.getfield 11, 3) := by decide +kernel
theorem dX3_first_55 : decode cX3_first 55 = .ok (.aload_n 1, 1) := by decide +kernel
theorem dX3_first_56 : decode cX3_first 56 = .ok (.iload_n 2, 1) := by decide +kernel
theorem dX3_first_57 : decode cX3_first 57 = .ok (.iconst 1, 1) := by decide +kernel
theorem dX3_first_58 : decode cX3_first 58 = .ok (.iload 5, 2) := by decide +kernel
theorem dX3_first_60 : decode cX3_first 60 = .ok (.ishl, 1) := by decide +kernel
theorem dX3_first_61 : decode cX3_first 61 = .ok (.iconst (-1), 1) := by decide +kernel
theorem dX3_first_62 : decode cX3_first 62 = .ok (.ixor, 1) := by decide +kernel
theorem dX3_first_63 : decode cX3_first 63 = .ok (.iand, 1) := by decide +kernel
theorem dX3_first_64 : decode cX3_first 64 = .ok (.iload_n 3, 1) := by decide +kernel
theorem dX3_first_65 : decode cX3_first 65 = .ok (.iload 6, 2) := by decide +kernel
theorem dX3_first_67 : decode cX3_first 67 = .ok (.iadd, 1) := by decide +kernel
theorem dX3_first_68 : decode cX3_first 68 = .ok (.bipush 24, 2) := by decide +kernel
theorem dX3_first_70 : decode cX3_first 70 = .ok (.irem, 1) := by decide +kernel
theorem dX3_first_71 : decode cX3_first 71 = .ok (.iconst 0, 1) := by decide +kernel
theorem dX3_first_72 : decode cX3_first 72 = .ok (.invokestatic 21, 3) := by decide +kernel
theorem dX3_first_75 : decode cX3_first 75 = .ok (.istore 7, 2) := by decide +kernel
theorem dX3_first_77 : decode cX3_first 77 = .ok (.iload 7, 2) := by decide +kernel
theorem dX3_first_79 : decode cX3_first 79 = .ok (.iconst (-1), 1) := by decide +kernel
theorem dX3_first_80 : decode cX3_first 80 = .ok (.if_icmp .eq 16, 3) := by decide +kernel
theorem dX3_first_83 : decode cX3_first 83 = .ok (.iload 6, 2) := by decide +kernel
theorem dX3_first_85 : decode cX3_first 85 = .ok (.iload 7, 2) := by decide +kernel
theorem dX3_first_87 : decode cX3_first 87 = .ok (.iadd, 1) := by decide +kernel
theorem dX3_first_88 : decode cX3_first 88 = .ok (.iload 4, 2) := by decide +kernel
theorem dX3_first_90 : decode cX3_first 90 = .ok (.if_icmp .ne 6, 3) := by decide +kernel
theorem dX3_first_93 : decode cX3_first 93 = .ok (.iload 5, 2) := by decide +kernel
theorem dX3_first_95 : decode cX3_first 95 = .ok (.ireturn, 1) := by decide +kernel
theorem dX3_first_96 : decode cX3_first 96 = .ok (.iinc 5 1, 3) := by decide +kernel
theorem dX3_first_99 : decode cX3_first 99 = .ok (.goto (-83), 3) := by decide +kernel
theorem dX3_first_102 : decode cX3_first 102 = .ok (.iconst (-1), 1) := by decide +kernel
theorem dX3_first_103 : decode cX3_first 103 = .ok (.ireturn, 1) := by decide +kernel
theorem dX3_row_0 : decode cX3_row 0 = .ok (.iload_n 2, 1) := by decide +kernel
theorem dX3_row_1 : decode cX3_row 1 = .ok (.ifCond .ne 7, 3) := by decide +kernel
theorem dX3_row_4 : decode cX3_row 4 = .ok (.iconst (-1), 1) := by decide +kernel
theorem dX3_row_5 : decode cX3_row 5 = .ok (.goto 4, 3) := by decide +kernel
theorem dX3_row_8 : decode cX3_row 8 = .ok (.iconst 0, 1) := by decide +kernel
theorem dX3_row_9 : decode cX3_row 9 = .ok (.istore 4, 2) := by decide +kernel
theorem dX3_row_11 : decode cX3_row 11 = .ok (.iload_n 2, 1) := by decide +kernel
theorem dX3_row_12 : decode cX3_row 12 = .ok (.istore 5, 2) := by decide +kernel
theorem dX3_row_14 : decode cX3_row 14 = .ok (.iload_n 3, 1) := by decide +kernel
theorem dX3_row_15 : decode cX3_row 15 = .ok (.istore 6, 2) := by decide +kernel
theorem dX3_row_17 : decode cX3_row 17 = .ok (.iconst 0, 1) := by decide +kernel
theorem dX3_row_18 : decode cX3_row 18 = .ok (.istore 7, 2) := by decide +kernel
theorem dX3_row_20 : decode cX3_row 20 = .ok (.iload 7, 2) := by decide +kernel
theorem dX3_row_22 : decode cX3_row 22 = .ok (.bipush 8, 2) := by decide +kernel
theorem dX3_row_24 : decode cX3_row 24 = .ok (.if_icmp .ge 70, 3) := by decide +kernel
theorem dX3_row_27 : decode cX3_row 27 = .ok (.iload 5, 2) := by decide +kernel
theorem dX3_row_29 : decode cX3_row 29 = .ok (.ifCond .eq 65, 3) := by decide +kernel
theorem dX3_row_32 : decode cX3_row 32 = .ok (.aload_n 0, 1) := by decide +kernel
theorem dX3_row_33 : decode cX3_row 33 = .ok (.aload_n 1, 1) := by decide +kernel
theorem dX3_row_34 : decode cX3_row 34 = .ok (.iload 5, 2) := by decide +kernel
theorem dX3_row_36 : decode cX3_row 36 = .ok (.iload 6, 2) := by decide +kernel
theorem dX3_row_38 : decode cX3_row 38 = .ok (.invokevirtual 54, 3) := by decide +kernel
theorem dX3_row_41 : decode cX3_row 41 = .ok (.istore 8, 2) := by decide +kernel
theorem dX3_row_43 : decode cX3_row 43 = .ok (.iload 8, 2) := by decide +kernel
theorem dX3_row_45 : decode cX3_row 45 = .ok (.iconst (-1), 1) := by decide +kernel
theorem dX3_row_46 : decode cX3_row 46 = .ok (.if_icmp .ne 5, 3) := by decide +kernel
theorem dX3_row_49 : decode cX3_row 49 = .ok (.iconst (-1), 1) := by decide +kernel
theorem dX3_row_50 : decode cX3_row 50 = .ok (.ireturn, 1) := by decide +kernel
theorem dX3_row_51 : decode cX3_row 51 = .ok (.iload 4, 2) := by decide +kernel
theorem dX3_row_53 : decode cX3_row 53 = .ok (.bipush 10, 2) := by decide +kernel
theorem dX3_row_55 : decode cX3_row 55 = .ok (.imul, 1) := by decide +kernel
theorem dX3_row_56 : decode cX3_row 56 = .ok (.iload 8, 2) := by decide +kernel
theorem dX3_row_58 : decode cX3_row 58 = .ok (.iadd, 1) := by decide +kernel
theorem dX3_row_59 : decode cX3_row 59 = .ok (.istore 4, 2) := by decide +kernel
theorem dX3_row_61 : decode cX3_row 61 = .ok (.iload 6, 2) := by decide +kernel
theorem dX3_row_63 : decode cX3_row 63 = .ok (.aload_n 1, 1) := by decide +kernel
theorem dX3_row_64 : decode cX3_row 64 = .ok (.iload 8, 2) := by decide +kernel
theorem dX3_row_66 : decode cX3_row 66 = .ok (.iload 6, 2) := by decide +kernel
theorem dX3_row_68 : decode cX3_row 68 = .ok (.invokevirtual 39, 3) := by decide +kernel
theorem dX3_row_71 : decode cX3_row 71 = .ok (.iadd, 1) := by decide +kernel
theorem dX3_row_72 : decode cX3_row 72 = .ok (.bipush 24, 2) := by decide +kernel
theorem dX3_row_74 : decode cX3_row 74 = .ok (.irem, 1) := by decide +kernel
theorem dX3_row_75 : decode cX3_row 75 = .ok (.istore 6, 2) := by decide +kernel
theorem dX3_row_77 : decode cX3_row 77 = .ok (.iload 5, 2) := by decide +kernel
theorem dX3_row_79 : decode cX3_row 79 = .ok (.iconst 1, 1) := by decide +kernel
theorem dX3_row_80 : decode cX3_row 80 = .ok (.iload 8, 2) := by decide +kernel
theorem dX3_row_82 : decode cX3_row 82 = .ok (.ishl, 1) := by decide +kernel
theorem dX3_row_83 : decode cX3_row 83 = .ok (.iconst (-1), 1) := by decide +kernel
theorem dX3_row_84 : decode cX3_row 84 = .ok (.ixor, 1) := by decide +kernel
theorem dX3_row_85 : decode cX3_row 85 = .ok (.iand, 1) := by decide +kernel
theorem dX3_row_86 : decode cX3_row 86 = .ok (.istore 5, 2) := by decide +kernel
theorem dX3_row_88 : decode cX3_row 88 = .ok (.iinc 7 1, 3) := by decide +kernel
theorem dX3_row_91 : decode cX3_row 91 = .ok (.goto (-71), 3) := by decide +kernel
theorem dX3_row_94 : decode cX3_row 94 = .ok (.iload 4, 2) := by decide +kernel
theorem dX3_row_96 : decode cX3_row 96 = .ok (.ireturn, 1) := by decide +kernel
theorem dX4_init_0 : decode cX4_init 0 = .ok (.aload_n 0, 1) := by decide +kernel
theorem dX4_init_1 : decode cX4_init 1 = .ok (.invokespecial 3, 3) := by decide +kernel
theorem dX4_init_4 : decode cX4_init 4 = .ok (.aload_n 0, 1) := by decide +kernel
theorem dX4_init_5 : decode cX4_init 5 = .ok (.sipush 240, 3) := by decide +kernel
theorem dX4_init_8 : decode cX4_init 8 = .ok (.newarray .int, 2) := by decide +kernel
theorem dX4_init_10 : decode cX4_init 10 = .ok (.putfield 9, 3) := by decide +kernel
theorem dX4_init_13 : decode cX4_init 13 = .ok (.aload_n 0, 1) := by decide +kernel
theorem dX4_init_14 : decode cX4_init 14 = .ok (.bipush 48, 2) := by decide +kernel
theorem dX4_init_16 : decode cX4_init 16 = .ok (.newarray .int, 2) := by decide +kernel
theorem dX4_init_18 : decode cX4_init 18 = .ok (.putfield 15, 3) := by decide +kernel
theorem dX4_init_21 : decode cX4_init 21 = .ok (.return_, 1) := by decide +kernel
theorem dX4_read_0 : decode cX4_read 0 = .ok (.aload_n 1, 1) := by decide +kernel
theorem dX4_read_1 : decode cX4_read 1 = .ok (.invokevirtual 18, 3) := by decide +kernel
theorem dX4_read_4 : decode cX4_read 4 = .ok (.aload_n 0, 1) := by decide +kernel
theorem dX4_read_5 : decode cX4_read 5 = .ok (.iconst 0, 1) := by decide +kernel
theorem dX4_read_6 : decode cX4_read 6 = .ok (.putfield 23, 3) := by decide +kernel
theorem dX4_read_9 : decode cX4_read 9 = .ok (.aload_n 0, 1) := by decide +kernel
theorem dX4_read_10 : decode cX4_read 10 = .ok (.aload_n 1, 1) := by decide +kernel
theorem dX4_read_11 : decode cX4_read 11 = .ok (.invokevirtual 27, 3) := by decide +kernel
theorem dX4_read_14 : decode cX4_read 14 = .ok (.iconst 1, 1) := by decide +kernel
theorem dX4_read_15 : decode cX4_read 15 = .ok (.istore_n 2, 1) := by decide +kernel
theorem dX4_read_16 : decode cX4_read 16 = .ok (.iload_n 2, 1) := by decide +kernel
theorem dX4_read_17 : decode cX4_read 17 = .ok (.sipush 240, 3) := by decide +kernel
theorem dX4_read_20 : decode cX4_read 20 = .ok (.if_icmp .ge 23, 3) := by decide +kernel
theorem dX4_read_23 : decode cX4_read 23 = .ok (.aload_n 1, 1) := by decide +kernel
theorem dX4_read_24 : decode cX4_read 24 = .ok (.bipush 59, 2) := by decide +kernel
theorem dX4_read_26 : decode cX4_read 26 = .ok (.invokevirtual 31, 3) := by decide +kernel
theorem dX4_read_29 : decode cX4_read 29 = .ok (.ifCond .eq 14, 3) := by decide +kernel
theorem dX4_read_32 : decode cX4_read 32 = .ok (.aload_n 0, 1) := by decide +kernel
theorem dX4_read_33 : decode cX4_read 33 = .ok (.aload_n 1, 1) := by decide +kernel
theorem dX4_read_34 : decode cX4_read 34 = .ok (.invokevirtual 27, 3) := by decide +kernel
theorem dX4_read_37 : decode cX4_read 37 = .ok (.iinc 2 1, 3) := by decide +kernel
theorem dX4_read_40 : decode cX4_read 40 = .ok (.goto (-24), 3) := by decide +kernel
theorem dX4_read_43 : decode cX4_read 43 = .ok (.aload_n 1, 1) := by decide +kernel
theorem dX4_read_44 : decode cX4_read 44 = .ok (.invokevirtual 35, 3) := by decide +kernel
theorem dX4_read_47 : decode cX4_read 47 = .ok (.ireturn, 1) := by decide +kernel
theorem dX4_readClause_0 : decode cX4_readClause 0 = .ok (.aload_n 0, 1) := by decide +kernel
theorem dX4_readClause_1 : decode cX4_readClause 1 = .ok (.iconst 0, 1) := by decide +kernel
theorem dX4_readClause_2 : decode cX4_readClause 2 = .ok (.putfield 39, 3) := by decide +kernel
theorem dX4_readClause_5 : decode cX4_readClause 5 = .ok (.aload_n 0, 1) := by decide +kernel
theorem dX4_readClause_6 : decode cX4_readClause 6 = .ok (.iconst 0, 1) := by decide +kernel
theorem dX4_readClause_7 : decode cX4_readClause 7 = .ok (.putfield 42, 3) := by decide +kernel
theorem dX4_readClause_10 : decode cX4_readClause 10 = .ok (.aload_n 0, 1) := by decide +kernel
theorem dX4_readClause_11 : decode cX4_readClause 11 = .ok (.iconst 0, 1) := by decide +kernel
theorem dX4_readClause_12 : decode cX4_readClause 12 = .ok (.putfield 45, 3) := by decide +kernel
theorem dX4_readClause_15 : decode cX4_readClause 15 = .ok (.aload_n 0, 1) := by decide +kernel
theorem dX4_readClause_16 : decode cX4_readClause 16 = .ok (.iconst 0, 1) := by decide +kernel
theorem dX4_readClause_17 : decode cX4_readClause 17 = .ok (.putfield 48, 3) := by decide +kernel
theorem dX4_readClause_20 : decode cX4_readClause 20 = .ok (.aload_n 0, 1) := by decide +kernel
theorem dX4_readClause_21 : decode cX4_readClause 21 = .ok (.iconst 1, 1) := by decide +kernel
theorem dX4_readClause_22 : decode cX4_readClause 22 = .ok (.putfield 51, 3) := by decide +kernel
theorem dX4_readClause_25 : decode cX4_readClause 25 = .ok (.aload_n 0, 1) := by decide +kernel
theorem dX4_readClause_26 : decode cX4_readClause 26 = .ok (.iconst 1, 1) := by decide +kernel
theorem dX4_readClause_27 : decode cX4_readClause 27 = .ok (.putfield 55, 3) := by decide +kernel
theorem dX4_readClause_30 : decode cX4_readClause 30 = .ok (.aload_n 0, 1) := by decide +kernel
theorem dX4_readClause_31 : decode cX4_readClause 31 = .ok (.iconst 0, 1) := by decide +kernel
theorem dX4_readClause_32 : decode cX4_readClause 32 = .ok (.putfield 58, 3) := by decide +kernel
theorem dX4_readClause_35 : decode cX4_readClause 35 = .ok (.aload_n 0, 1) := by decide +kernel
theorem dX4_readClause_36 : decode cX4_readClause 36 = .ok (.iconst 0, 1) := by decide +kernel
theorem dX4_readClause_37 : decode cX4_readClause 37 = .ok (.putfield 61, 3) := by decide +kernel
theorem dX4_readClause_40 : decode cX4_readClause 40 = .ok (.aload_n 0, 1) := by decide +kernel
theorem dX4_readClause_41 : decode cX4_readClause 41 = .ok (.iconst 0, 1) := by decide +kernel
theorem dX4_readClause_42 : decode cX4_readClause 42 = .ok (.putfield 64, 3) := by decide +kernel
theorem dX4_readClause_45 : decode cX4_readClause 45 = .ok (.aload_n 0, 1) := by decide +kernel
theorem dX4_readClause_46 : decode cX4_readClause 46 = .ok (.iconst 0, 1) := by decide +kernel
theorem dX4_readClause_47 : decode cX4_readClause 47 = .ok (.putfield 67, 3) := by decide +kernel
theorem dX4_readClause_50 : decode cX4_readClause 50 = .ok (.aload_n 1, 1) := by decide +kernel
theorem dX4_readClause_51 : decode cX4_readClause 51 = .ok (.bipush 121, 2) := by decide +kernel
theorem dX4_readClause_53 : decode cX4_readClause 53 = .ok (.invokevirtual 31, 3) := by decide +kernel
theorem dX4_readClause_56 : decode cX4_readClause 56 = .ok (.ifCond .eq 12, 3) := by decide +kernel
theorem dX4_readClause_59 : decode cX4_readClause 59 = .ok (.aload_n 1, 1) := by decide +kernel
theorem dX4_readClause_60 : decode cX4_readClause 60 = .ok (.bipush 58, 2) := by decide +kernel
theorem dX4_readClause_62 : decode cX4_readClause 62 = .ok (.invokevirtual 31, 3) := by decide +kernel
theorem dX4_readClause_65 : decode cX4_readClause 65 = .ok (.ifCond .ne 11, 3) := by decide +kernel
theorem dX4_readClause_68 : decode cX4_readClause 68 = .ok (.aload_n 1, 1) := by decide +kernel
theorem dX4_readClause_69 : decode cX4_readClause 69 = .ok (.aload_n 1, 1) := by decide +kernel
theorem dX4_readClause_70 : decode cX4_readClause 70 = .ok (.getfield 70, 3) := by decide +kernel
theorem dX4_readClause_73 : decode cX4_readClause 73 = .ok (.invokevirtual 73, 3) := by decide +kernel
theorem dX4_readClause_76 : decode cX4_readClause 76 = .ok (.aload_n 1, 1) := by decide +kernel
theorem dX4_readClause_77 : decode cX4_readClause 77 = .ok (.getfield 77, 3) := by decide +kernel
theorem dX4_readClause_80 : decode cX4_readClause 80 = .ok (.iconst (-1), 1) := by decide +kernel
theorem dX4_readClause_81 : decode cX4_readClause 81 = .ok (.if_icmp .ne 7, 3) := by decide +kernel
theorem dX4_readClause_84 : decode cX4_readClause 84 = .ok (.iconst 1, 1) := by decide +kernel
theorem dX4_readClause_85 : decode cX4_readClause 85 = .ok (.goto 4, 3) := by decide +kernel
theorem dX4_readClause_88 : decode cX4_readClause 88 = .ok (.iconst 0, 1) := by decide +kernel
theorem dX4_readClause_89 : decode cX4_readClause 89 = .ok (.istore_n 2, 1) := by decide +kernel
theorem dX4_readClause_90 : decode cX4_readClause 90 = .ok (.iconst 0, 1) := by decide +kernel
theorem dX4_readClause_91 : decode cX4_readClause 91 = .ok (.istore_n 3, 1) := by decide +kernel
theorem dX4_readClause_92 : decode cX4_readClause 92 = .ok (.iload_n 3, 1) := by decide +kernel
theorem dX4_readClause_93 : decode cX4_readClause 93 = .ok (.sipush 240, 3) := by decide +kernel
theorem dX4_readClause_96 : decode cX4_readClause 96 = .ok (.if_icmp .ge 34, 3) := by decide +kernel
theorem dX4_readClause_99 : decode cX4_readClause 99 = .ok (.iload_n 2, 1) := by decide +kernel
theorem dX4_readClause_100 : decode cX4_readClause 100 = .ok (.ifCond .eq 30, 3) := by decide +kernel
theorem dX4_readClause_103 : decode cX4_readClause 103 = .ok (.aload_n 0, 1) := by decide +kernel
theorem dX4_readClause_104 : decode cX4_readClause 104 = .ok (.getfield 51, 3) := by decide +kernel
theorem dX4_readClause_107 : decode cX4_readClause 107 = .ok (.ifCond .eq 11, 3) := by decide +kernel
theorem dX4_readClause_110 : decode cX4_readClause 110 = .ok (.aload_n 0, 1) := by decide +kernel
theorem dX4_readClause_111 : decode cX4_readClause 111 = .ok (.aload_n 1, 1) := by decide +kernel
theorem dX4_readClause_112 : decode cX4_readClause 112 = .ok (.invokevirtual 80, 3) := by decide +kernel
theorem dX4_readClause_115 : decode cX4_readClause 115 = .ok (.goto 8, 3) := by decide +kernel
theorem dX4_readClause_118 : decode cX4_readClause 118 = .ok (.aload_n 0, 1) := by decide +kernel
theorem dX4_readClause_119 : decode cX4_readClause 119 = .ok (.aload_n 1, 1) := by decide +kernel
theorem dX4_readClause_120 : decode cX4_readClause 120 = .ok (.invokevirtual 84, 3) := by decide +kernel
theorem dX4_readClause_123 : decode cX4_readClause 123 = .ok (.istore_n 2, 1) := by decide +kernel
theorem dX4_readClause_124 : decode cX4_readClause 124 = .ok (.iinc 3 1, 3) := by decide +kernel
theorem dX4_readClause_127 : decode cX4_readClause 127 = .ok (.goto (-35), 3) := by decide +kernel
theorem dX4_readClause_130 : decode cX4_readClause 130 = .ok (.return_, 1) := by decide +kernel
theorem dX4_readOperand_0 : decode cX4_readOperand 0 = .ok (.aload_n 1, 1) := by decide +kernel
theorem dX4_readOperand_1 : decode cX4_readOperand 1 = .ok (.invokevirtual 87, 3) := by decide +kernel
theorem dX4_readOperand_4 : decode cX4_readOperand 4 = .ok (.istore_n 2, 1) := by decide +kernel
theorem dX4_readOperand_5 : decode cX4_readOperand 5 = .ok (.ldc 90, 2) := by decide +kernel
theorem dX4_readOperand_7 : decode cX4_readOperand 7 = .ok (.iload_n 2, 1) := by decide +kernel
theorem dX4_readOperand_8 : decode cX4_readOperand 8 = .ok (.invokestatic 92, 3) := by decide +kernel
theorem dX4_readOperand_11 : decode cX4_readOperand 11 = .ok (.istore_n 3, 1) := by decide +kernel
theorem dX4_readOperand_12 : decode cX4_readOperand 12 = .ok (.iload_n 2, 1) := by decide +kernel
theorem dX4_readOperand_13 : decode cX4_readOperand 13 = .ok (.invokestatic 96, 3) := by decide +kernel
theorem dX4_readOperand_16 : decode cX4_readOperand 16 = .ok (.ifCond .eq 20, 3) := by decide +kernel
theorem dX4_readOperand_19 : decode cX4_readOperand 19 = .ok (.aload_n 0, 1) := by decide +kernel
theorem dX4_readOperand_20 : decode cX4_readOperand 20 = .ok (.aload_n 1, 1) := by decide +kernel
theorem dX4_readOperand_21 : decode cX4_readOperand 21 = .ok (.iconst 4, 1) := by decide +kernel
theorem dX4_readOperand_22 : decode cX4_readOperand 22 = .ok (.invokevirtual 99, 3) := by decide +kernel
theorem dX4_readOperand_25 : decode cX4_readOperand 25 = .ok (.invokevirtual 103, 3) := by decide +kernel
theorem dX4_readOperand_28 : decode cX4_readOperand 28 = .ok (.aload_n 0, 1) := by decide +kernel
theorem dX4_readOperand_29 : decode cX4_readOperand 29 = .ok (.iconst 0, 1) := by decide +kernel
theorem dX4_readOperand_30 : decode cX4_readOperand 30 = .ok (.putfield 51, 3) := by decide +kernel
theorem dX4_readOperand_33 : decode cX4_readOperand 33 = .ok (.goto 94, 3) := by decide +kernel
theorem dX4_readOperand_36 : decode cX4_readOperand 36 = .ok (.iload_n 3, 1) := by decide +kernel
theorem dX4_readOperand_37 : decode cX4_readOperand 37 = .ok (.ifCond .lt 30, 3) := by decide +kernel
theorem dX4_readOperand_40 : decode cX4_readOperand 40 = .ok (.aload_n 1, 1) := by decide +kernel
theorem dX4_readOperand_41 : decode cX4_readOperand 41 = .ok (.dup, 1) := by decide +kernel
theorem dX4_readOperand_42 : decode cX4_readOperand 42 = .ok (.getfield 70, 3) := by decide +kernel
theorem dX4_readOperand_45 : decode cX4_readOperand 45 = .ok (.iconst 1, 1) := by decide +kernel
theorem dX4_readOperand_46 : decode cX4_readOperand 46 = .ok (.iadd, 1) := by decide +kernel
theorem dX4_readOperand_47 : decode cX4_readOperand 47 = .ok (.putfield 70, 3) := by decide +kernel
theorem dX4_readOperand_50 : decode cX4_readOperand 50 = .ok (.aload_n 0, 1) := by decide +kernel
theorem dX4_readOperand_51 : decode cX4_readOperand 51 = .ok (.sipush 10000, 3) := by decide +kernel
theorem dX4_readOperand_54 : decode cX4_readOperand 54 = .ok (.iload_n 3, 1) := by decide +kernel
theorem dX4_readOperand_55 : decode cX4_readOperand 55 = .ok (.iadd, 1) := by decide +kernel
theorem dX4_readOperand_56 : decode cX4_readOperand 56 = .ok (.invokevirtual 103, 3) := by decide +kernel
theorem dX4_readOperand_59 : decode cX4_readOperand 59 = .ok (.aload_n 0, 1) := by decide +kernel
theorem dX4_readOperand_60 : decode cX4_readOperand 60 = .ok (.iconst 0, 1) := by decide +kernel
theorem dX4_readOperand_61 : decode cX4_readOperand 61 = .ok (.putfield 51, 3) := by decide +kernel
theorem dX4_readOperand_64 : decode cX4_readOperand 64 = .ok (.goto 63, 3) := by decide +kernel
theorem dX4_readOperand_67 : decode cX4_readOperand 67 = .ok (.aload_n 0, 1) := by decide +kernel
theorem dX4_readOperand_68 : decode cX4_readOperand 68 = .ok (.getfield 42, 3) := by decide +kernel
theorem dX4_readOperand_71 : decode cX4_readOperand 71 = .ok (.bipush 6, 2) := by decide +kernel
theorem dX4_readOperand_73 : decode cX4_readOperand 73 = .ok (.if_icmp .ge 46, 3) := by decide +kernel
theorem dX4_readOperand_76 : decode cX4_readOperand 76 = .ok (.iload_n 2, 1) := by decide +kernel
theorem dX4_readOperand_77 : decode cX4_readOperand 77 = .ok (.bipush 91, 2) := by decide +kernel
theorem dX4_readOperand_79 : decode cX4_readOperand 79 = .ok (.if_icmp .eq 22, 3) := by decide +kernel
theorem dX4_readOperand_82 : decode cX4_readOperand 82 = .ok (.aload_n 0, 1) := by decide +kernel
theorem dX4_readOperand_83 : decode cX4_readOperand 83 = .ok (.getfield 55, 3) := by decide +kernel
theorem dX4_readOperand_86 : decode cX4_readOperand 86 = .ok (.ifCond .eq 33, 3) := by decide +kernel
theorem dX4_readOperand_89 : decode cX4_readOperand 89 = .ok (.iload_n 2, 1) := by decide +kernel
theorem dX4_readOperand_90 : decode cX4_readOperand 90 = .ok (.bipush 40, 2) := by decide +kernel
theorem dX4_readOperand_92 : decode cX4_readOperand 92 = .ok (.if_icmp .eq 9, 3) := by decide +kernel
theorem dX4_readOperand_95 : decode cX4_readOperand 95 = .ok (.iload_n 2, 1) := by decide +kernel
theorem dX4_readOperand_96 : decode cX4_readOperand 96 = .ok (.bipush 33, 2) := by decide +kernel
theorem dX4_readOperand_98 : decode cX4_readOperand 98 = .ok (.if_icmp .ne 21, 3) := by decide +kernel
theorem dX4_readOperand_101 : decode cX4_readOperand 101 = .ok (.aload_n 1, 1) := by decide +kernel
theorem dX4_readOperand_102 : decode cX4_readOperand 102 = .ok (.dup, 1) := by decide +kernel
theorem dX4_readOperand_103 : decode cX4_readOperand 103 = .ok (.getfield 70, 3) := by decide +kernel
theorem dX4_readOperand_106 : decode cX4_readOperand 106 = .ok (.iconst 1, 1) := by decide +kernel
theorem dX4_readOperand_107 : decode cX4_readOperand 107 = .ok (.iadd, 1) := by decide +kernel
theorem dX4_readOperand_108 : decode cX4_readOperand 108 = .ok (.putfield 70, 3) := by decide +kernel
theorem dX4_readOperand_111 : decode cX4_readOperand 111 = .ok (.aload_n 0, 1) := by decide +kernel
theorem dX4_readOperand_112 : decode cX4_readOperand 112 = .ok (.iload_n 2, 1) := by decide +kernel
theorem dX4_readOperand_113 : decode cX4_readOperand 113 = .ok (.invokevirtual 106, 3) := by decide +kernel
theorem dX4_readOperand_116 : decode cX4_readOperand 116 = .ok (.goto 11, 3) := by decide +kernel
theorem dX4_readOperand_119 : decode cX4_readOperand 119 = .ok (.aload_n 1, 1) := by decide +kernel
theorem dX4_readOperand_120 : decode cX4_readOperand 120 = .ok (.aload_n 1, 1) := by decide +kernel
theorem dX4_readOperand_121 : decode cX4_readOperand 121 = .ok (.getfield 70, 3) := by decide +kernel
theorem dX4_readOperand_124 : decode cX4_readOperand 124 = .ok (.invokevirtual 73, 3) := by decide +kernel
theorem dX4_readOperand_127 : decode cX4_readOperand 127 = .ok (.aload_n 1, 1) := by decide +kernel
theorem dX4_readOperand_128 : decode cX4_readOperand 128 = .ok (.getfield 77, 3) := by decide +kernel
theorem dX4_readOperand_131 : decode cX4_readOperand 131 = .ok (.iconst (-1), 1) := by decide +kernel
theorem dX4_readOperand_132 : decode cX4_readOperand 132 = .ok (.if_icmp .ne 7, 3) := by decide +kernel
theorem dX4_readOperand_135 : decode cX4_readOperand 135 = .ok (.iconst 1, 1) := by decide +kernel
theorem dX4_readOperand_136 : decode cX4_readOperand 136 = .ok (.goto 4, 3) := by decide +kernel
theorem dX4_readOperand_139 : decode cX4_readOperand 139 = .ok (.iconst 0, 1) := by decide +kernel
theorem dX4_readOperand_140 : decode cX4_readOperand 140 = .ok (.ireturn, 1) := by decide +kernel
theorem dX4_open_0 : decode cX4_open 0 = .ok (.aload_n 0, 1) := by decide +kernel
theorem dX4_open_1 : decode cX4_open 1 = .ok (.iload_n 1, 1) := by decide +kernel
theorem dX4_open_2 : decode cX4_open 2 = .ok (.invokevirtual 109, 3) := by decide +kernel
theorem dX4_open_5 : decode cX4_open 5 = .ok (.aload_n 0, 1) := by decide +kernel
theorem dX4_open_6 : decode cX4_open 6 = .ok (.dup, 1) := by decide +kernel
theorem dX4_open_7 : decode cX4_open 7 = .ok (.getfield 42, 3) := by decide +kernel
theorem dX4_open_10 : decode cX4_open 10 = .ok (.iconst 1, 1) := by decide +kernel
theorem dX4_open_11 : decode cX4_open 11 = .ok (.iadd, 1) := by decide +kernel
theorem dX4_open_12 : decode cX4_open 12 = .ok (.putfield 42, 3) := by decide +kernel
theorem dX4_open_15 : decode cX4_open 15 = .ok (.iload_n 1, 1) := by decide +kernel
theorem dX4_open_16 : decode cX4_open 16 = .ok (.bipush 91, 2) := by decide +kernel
theorem dX4_open_18 : decode cX4_open 18 = .ok (.if_icmp .ne 21, 3) := by decide +kernel
theorem dX4_open_21 : decode cX4_open 21 = .ok (.aload_n 0, 1) := by decide +kernel
theorem dX4_open_22 : decode cX4_open 22 = .ok (.dup, 1) := by decide +kernel
theorem dX4_open_23 : decode cX4_open 23 = .ok (.getfield 48, 3) := by decide +kernel
theorem dX4_open_26 : decode cX4_open 26 = .ok (.iconst 1, 1) := by decide +kernel
theorem dX4_open_27 : decode cX4_open 27 = .ok (.iadd, 1) := by decide +kernel
theorem dX4_open_28 : decode cX4_open 28 = .ok (.putfield 48, 3) := by decide +kernel
theorem dX4_open_31 : decode cX4_open 31 = .ok (.aload_n 0, 1) := by decide +kernel
theorem dX4_open_32 : decode cX4_open 32 = .ok (.iconst 0, 1) := by decide +kernel
theorem dX4_open_33 : decode cX4_open 33 = .ok (.putfield 55, 3) := by decide +kernel
theorem dX4_open_36 : decode cX4_open 36 = .ok (.goto 8, 3) := by decide +kernel
theorem dX4_open_39 : decode cX4_open 39 = .ok (.aload_n 0, 1) := by decide +kernel
theorem dX4_open_40 : decode cX4_open 40 = .ok (.iconst 1, 1) := by decide +kernel
theorem dX4_open_41 : decode cX4_open 41 = .ok (.putfield 64, 3) := by decide +kernel
theorem dX4_open_44 : decode cX4_open 44 = .ok (.iload_n 1, 1) := by decide +kernel
theorem dX4_open_45 : decode cX4_open 45 = .ok (.bipush 40, 2) := by decide +kernel
theorem dX4_open_47 : decode cX4_open 47 = .ok (.if_icmp .ne 13, 3) := by decide +kernel
theorem dX4_open_50 : decode cX4_open 50 = .ok (.aload_n 0, 1) := by decide +kernel
theorem dX4_open_51 : decode cX4_open 51 = .ok (.dup, 1) := by decide +kernel
theorem dX4_open_52 : decode cX4_open 52 = .ok (.getfield 45, 3) := by decide +kernel
theorem dX4_open_55 : decode cX4_open 55 = .ok (.iconst 1, 1) := by decide +kernel
theorem dX4_open_56 : decode cX4_open 56 = .ok (.iadd, 1) := by decide +kernel
theorem dX4_open_57 : decode cX4_open 57 = .ok (.putfield 45, 3) := by decide +kernel
theorem dX4_open_60 : decode cX4_open 60 = .ok (.return_, 1) := by decide +kernel
theorem dX4_readJoint_0 : decode cX4_readJoint 0 = .ok (.aload_n 1, 1) := by decide +kernel
theorem dX4_readJoint_1 : decode cX4_readJoint 1 = .ok (.invokevirtual 87, 3) := by decide +kernel
theorem dX4_readJoint_4 : decode cX4_readJoint 4 = .ok (.istore_n 2, 1) := by decide +kernel
theorem dX4_readJoint_5 : decode cX4_readJoint 5 = .ok (.aload_n 1, 1) := by decide +kernel
theorem dX4_readJoint_6 : decode cX4_readJoint 6 = .ok (.getfield 77, 3) := by decide +kernel
theorem dX4_readJoint_9 : decode cX4_readJoint 9 = .ok (.iconst (-1), 1) := by decide +kernel
theorem dX4_readJoint_10 : decode cX4_readJoint 10 = .ok (.if_icmp .ne 11, 3) := by decide +kernel
theorem dX4_readJoint_13 : decode cX4_readJoint 13 = .ok (.aload_n 0, 1) := by decide +kernel
theorem dX4_readJoint_14 : decode cX4_readJoint 14 = .ok (.iload_n 2, 1) := by decide +kernel
theorem dX4_readJoint_15 : decode cX4_readJoint 15 = .ok (.invokevirtual 112, 3) := by decide +kernel
theorem dX4_readJoint_18 : decode cX4_readJoint 18 = .ok (.ifCond .ne 13, 3) := by decide +kernel
theorem dX4_readJoint_21 : decode cX4_readJoint 21 = .ok (.aload_n 1, 1) := by decide +kernel
theorem dX4_readJoint_22 : decode cX4_readJoint 22 = .ok (.aload_n 1, 1) := by decide +kernel
theorem dX4_readJoint_23 : decode cX4_readJoint 23 = .ok (.getfield 70, 3) := by decide +kernel
theorem dX4_readJoint_26 : decode cX4_readJoint 26 = .ok (.invokevirtual 73, 3) := by decide +kernel
theorem dX4_readJoint_29 : decode cX4_readJoint 29 = .ok (.iconst 0, 1) := by decide +kernel
theorem dX4_readJoint_30 : decode cX4_readJoint 30 = .ok (.ireturn, 1) := by decide +kernel
theorem dX4_readJoint_31 : decode cX4_readJoint 31 = .ok (.aload_n 0, 1) := by decide +kernel
theorem dX4_readJoint_32 : decode cX4_readJoint 32 = .ok (.iload_n 2, 1) := by decide +kernel
theorem dX4_readJoint_33 : decode cX4_readJoint 33 = .ok (.invokestatic 115, 3) := by decide +kernel
theorem dX4_readJoint_36 : decode cX4_readJoint 36 = .ok (.iconst 1, 1) := by decide +kernel
theorem dX4_readJoint_37 : decode cX4_readJoint 37 = .ok (.invokestatic 118, 3) := by decide +kernel
theorem dX4_readJoint_40 : decode cX4_readJoint 40 = .ok (.invokevirtual 124, 3) := by decide +kernel
theorem dX4_readJoint_43 : decode cX4_readJoint 43 = .ok (.iload_n 2, 1) := by decide +kernel
theorem dX4_readJoint_44 : decode cX4_readJoint 44 = .ok (.bipush 59, 2) := by decide +kernel
theorem dX4_readJoint_46 : decode cX4_readJoint 46 = .ok (.if_icmp .eq 8, 3) := by decide +kernel
theorem dX4_readJoint_49 : decode cX4_readJoint 49 = .ok (.iload_n 2, 1) := by decide +kernel
theorem dX4_readJoint_50 : decode cX4_readJoint 50 = .ok (.iconst (-1), 1) := by decide +kernel
theorem dX4_readJoint_51 : decode cX4_readJoint 51 = .ok (.if_icmp .ne 11, 3) := by decide +kernel
theorem dX4_readJoint_54 : decode cX4_readJoint 54 = .ok (.aload_n 0, 1) := by decide +kernel
theorem dX4_readJoint_55 : decode cX4_readJoint 55 = .ok (.bipush (-59), 2) := by decide +kernel
theorem dX4_readJoint_57 : decode cX4_readJoint 57 = .ok (.invokevirtual 103, 3) := by decide +kernel
theorem dX4_readJoint_60 : decode cX4_readJoint 60 = .ok (.iconst 0, 1) := by decide +kernel
theorem dX4_readJoint_61 : decode cX4_readJoint 61 = .ok (.ireturn, 1) := by decide +kernel
theorem dX4_readJoint_62 : decode cX4_readJoint 62 = .ok (.aload_n 1, 1) := by decide +kernel
theorem dX4_readJoint_63 : decode cX4_readJoint 63 = .ok (.dup, 1) := by decide +kernel
theorem dX4_readJoint_64 : decode cX4_readJoint 64 = .ok (.getfield 70, 3) := by decide +kernel
theorem dX4_readJoint_67 : decode cX4_readJoint 67 = .ok (.iconst 1, 1) := by decide +kernel
theorem dX4_readJoint_68 : decode cX4_readJoint 68 = .ok (.iadd, 1) := by decide +kernel
theorem dX4_readJoint_69 : decode cX4_readJoint 69 = .ok (.putfield 70, 3) := by decide +kernel
theorem dX4_readJoint_72 : decode cX4_readJoint 72 = .ok (.iload_n 2, 1) := by decide +kernel
theorem dX4_readJoint_73 : decode cX4_readJoint 73 = .ok (.bipush 41, 2) := by decide +kernel
theorem dX4_readJoint_75 : decode cX4_readJoint 75 = .ok (.if_icmp .eq 9, 3) := by decide +kernel
theorem dX4_readJoint_78 : decode cX4_readJoint 78 = .ok (.iload_n 2, 1) := by decide +kernel
theorem dX4_readJoint_79 : decode cX4_readJoint 79 = .ok (.bipush 93, 2) := by decide +kernel
theorem dX4_readJoint_81 : decode cX4_readJoint 81 = .ok (.if_icmp .ne 11, 3) := by decide +kernel
theorem dX4_readJoint_84 : decode cX4_readJoint 84 = .ok (.aload_n 0, 1) := by decide +kernel
theorem dX4_readJoint_85 : decode cX4_readJoint 85 = .ok (.iload_n 2, 1) := by decide +kernel
theorem dX4_readJoint_86 : decode cX4_readJoint 86 = .ok (.invokevirtual 127, 3) := by decide +kernel
theorem dX4_readJoint_89 : decode cX4_readJoint 89 = .ok (.goto 8, 3) := by decide +kernel
theorem dX4_readJoint_92 : decode cX4_readJoint 92 = .ok (.aload_n 0, 1) := by decide +kernel
theorem dX4_readJoint_93 : decode cX4_readJoint 93 = .ok (.iload_n 2, 1) := by decide +kernel
theorem dX4_readJoint_94 : decode cX4_readJoint 94 = .ok (.invokevirtual 130, 3) := by decide +kernel
theorem dX4_readJoint_97 : decode cX4_readJoint 97 = .ok (.iconst 1, 1) := by decide +kernel
theorem dX4_readJoint_98 : decode cX4_readJoint 98 = .ok (.ireturn, 1) := by decide +kernel
theorem dX4_fits_0 : decode cX4_fits 0 = .ok (.iload_n 1, 1) := by decide +kernel
theorem dX4_fits_1 : decode cX4_fits 1 = .ok (.lookupswitch 277 #[(-1, 250), (38, 176), (41, 196), (42, 123), (43, 123), (45, 123), (47, 123), (59, 250), (60, 149), (61, 149), (62, 149), (63, 223), (93, 136), (124, 176)], 123) := by decide +kernel
theorem dX4_fits_124 : decode cX4_fits 124 = .ok (.aload_n 0, 1) := by decide +kernel
theorem dX4_fits_125 : decode cX4_fits 125 = .ok (.getfield 61, 3) := by decide +kernel
theorem dX4_fits_128 : decode cX4_fits 128 = .ok (.ifCond .ne 7, 3) := by decide +kernel
theorem dX4_fits_131 : decode cX4_fits 131 = .ok (.iconst 1, 1) := by decide +kernel
theorem dX4_fits_132 : decode cX4_fits 132 = .ok (.goto 4, 3) := by decide +kernel
theorem dX4_fits_135 : decode cX4_fits 135 = .ok (.iconst 0, 1) := by decide +kernel
theorem dX4_fits_136 : decode cX4_fits 136 = .ok (.ireturn, 1) := by decide +kernel
theorem dX4_fits_137 : decode cX4_fits 137 = .ok (.aload_n 0, 1) := by decide +kernel
theorem dX4_fits_138 : decode cX4_fits 138 = .ok (.getfield 48, 3) := by decide +kernel
theorem dX4_fits_141 : decode cX4_fits 141 = .ok (.ifCond .le 7, 3) := by decide +kernel
theorem dX4_fits_144 : decode cX4_fits 144 = .ok (.iconst 1, 1) := by decide +kernel
theorem dX4_fits_145 : decode cX4_fits 145 = .ok (.goto 4, 3) := by decide +kernel
theorem dX4_fits_148 : decode cX4_fits 148 = .ok (.iconst 0, 1) := by decide +kernel
theorem dX4_fits_149 : decode cX4_fits 149 = .ok (.ireturn, 1) := by decide +kernel
theorem dX4_fits_150 : decode cX4_fits 150 = .ok (.aload_n 0, 1) := by decide +kernel
theorem dX4_fits_151 : decode cX4_fits 151 = .ok (.getfield 48, 3) := by decide +kernel
theorem dX4_fits_154 : decode cX4_fits 154 = .ok (.ifCond .ne 21, 3) := by decide +kernel
theorem dX4_fits_157 : decode cX4_fits 157 = .ok (.aload_n 0, 1) := by decide +kernel
theorem dX4_fits_158 : decode cX4_fits 158 = .ok (.getfield 67, 3) := by decide +kernel
theorem dX4_fits_161 : decode cX4_fits 161 = .ok (.ifCond .ne 14, 3) := by decide +kernel
theorem dX4_fits_164 : decode cX4_fits 164 = .ok (.aload_n 0, 1) := by decide +kernel
theorem dX4_fits_165 : decode cX4_fits 165 = .ok (.getfield 58, 3) := by decide +kernel
theorem dX4_fits_168 : decode cX4_fits 168 = .ok (.ifCond .ne 7, 3) := by decide +kernel
theorem dX4_fits_171 : decode cX4_fits 171 = .ok (.iconst 1, 1) := by decide +kernel
theorem dX4_fits_172 : decode cX4_fits 172 = .ok (.goto 4, 3) := by decide +kernel
theorem dX4_fits_175 : decode cX4_fits 175 = .ok (.iconst 0, 1) := by decide +kernel
theorem dX4_fits_176 : decode cX4_fits 176 = .ok (.ireturn, 1) := by decide +kernel
theorem dX4_fits_177 : decode cX4_fits 177 = .ok (.aload_n 0, 1) := by decide +kernel
theorem dX4_fits_178 : decode cX4_fits 178 = .ok (.getfield 48, 3) := by decide +kernel
theorem dX4_fits_181 : decode cX4_fits 181 = .ok (.ifCond .ne 14, 3) := by decide +kernel
theorem dX4_fits_184 : decode cX4_fits 184 = .ok (.aload_n 0, 1) := by decide +kernel
theorem dX4_fits_185 : decode cX4_fits 185 = .ok (.getfield 58, 3) := by decide +kernel
theorem dX4_fits_188 : decode cX4_fits 188 = .ok (.ifCond .eq 7, 3) := by decide +kernel
theorem dX4_fits_191 : decode cX4_fits 191 = .ok (.iconst 1, 1) := by decide +kernel
theorem dX4_fits_192 : decode cX4_fits 192 = .ok (.goto 4, 3) := by decide +kernel
theorem dX4_fits_195 : decode cX4_fits 195 = .ok (.iconst 0, 1) := by decide +kernel
theorem dX4_fits_196 : decode cX4_fits 196 = .ok (.ireturn, 1) := by decide +kernel
theorem dX4_fits_197 : decode cX4_fits 197 = .ok (.aload_n 0, 1) := by decide +kernel
theorem dX4_fits_198 : decode cX4_fits 198 = .ok (.getfield 48, 3) := by decide +kernel
theorem dX4_fits_201 : decode cX4_fits 201 = .ok (.ifCond .ne 21, 3) := by decide +kernel
theorem dX4_fits_204 : decode cX4_fits 204 = .ok (.aload_n 0, 1) := by decide +kernel
theorem dX4_fits_205 : decode cX4_fits 205 = .ok (.getfield 58, 3) := by decide +kernel
theorem dX4_fits_208 : decode cX4_fits 208 = .ok (.ifCond .eq 14, 3) := by decide +kernel
theorem dX4_fits_211 : decode cX4_fits 211 = .ok (.aload_n 0, 1) := by decide +kernel
theorem dX4_fits_212 : decode cX4_fits 212 = .ok (.getfield 45, 3) := by decide +kernel
theorem dX4_fits_215 : decode cX4_fits 215 = .ok (.ifCond .le 7, 3) := by decide +kernel
theorem dX4_fits_218 : decode cX4_fits 218 = .ok (.iconst 1, 1) := by decide +kernel
theorem dX4_fits_219 : decode cX4_fits 219 = .ok (.goto 4, 3) := by decide +kernel
theorem dX4_fits_222 : decode cX4_fits 222 = .ok (.iconst 0, 1) := by decide +kernel
theorem dX4_fits_223 : decode cX4_fits 223 = .ok (.ireturn, 1) := by decide +kernel
theorem dX4_fits_224 : decode cX4_fits 224 = .ok (.aload_n 0, 1) := by decide +kernel
theorem dX4_fits_225 : decode cX4_fits 225 = .ok (.getfield 48, 3) := by decide +kernel
theorem dX4_fits_228 : decode cX4_fits 228 = .ok (.ifCond .ne 21, 3) := by decide +kernel
theorem dX4_fits_231 : decode cX4_fits 231 = .ok (.aload_n 0, 1) := by decide +kernel
theorem dX4_fits_232 : decode cX4_fits 232 = .ok (.getfield 58, 3) := by decide +kernel
theorem dX4_fits_235 : decode cX4_fits 235 = .ok (.ifCond .eq 14, 3) := by decide +kernel
theorem dX4_fits_238 : decode cX4_fits 238 = .ok (.aload_n 0, 1) := by decide +kernel
theorem dX4_fits_239 : decode cX4_fits 239 = .ok (.getfield 45, 3) := by decide +kernel
theorem dX4_fits_242 : decode cX4_fits 242 = .ok (.ifCond .ne 7, 3) := by decide +kernel
theorem dX4_fits_245 : decode cX4_fits 245 = .ok (.iconst 1, 1) := by decide +kernel
theorem dX4_fits_246 : decode cX4_fits 246 = .ok (.goto 4, 3) := by decide +kernel
theorem dX4_fits_249 : decode cX4_fits 249 = .ok (.iconst 0, 1) := by decide +kernel
theorem dX4_fits_250 : decode cX4_fits 250 = .ok (.ireturn, 1) := by decide +kernel
theorem dX4_fits_251 : decode cX4_fits 251 = .ok (.aload_n 0, 1) := by decide +kernel
theorem dX4_fits_252 : decode cX4_fits 252 = .ok (.getfield 48, 3) := by decide +kernel
theorem dX4_fits_255 : decode cX4_fits 255 = .ok (.ifCond .ne 21, 3) := by decide +kernel
theorem dX4_fits_258 : decode cX4_fits 258 = .ok (.aload_n 0, 1) := by decide +kernel
theorem dX4_fits_259 : decode cX4_fits 259 = .ok (.getfield 67, 3) := by decide +kernel
theorem dX4_fits_262 : decode cX4_fits 262 = .ok (.ifCond .ne 10, 3) := by decide +kernel
theorem dX4_fits_265 : decode cX4_fits 265 = .ok (.aload_n 0, 1) := by decide +kernel
theorem dX4_fits_266 : decode cX4_fits 266 = .ok (.getfield 64, 3) := by decide +kernel
theorem dX4_fits_269 : decode cX4_fits 269 = .ok (.ifCond .ne 7, 3) := by decide +kernel
theorem dX4_fits_272 : decode cX4_fits 272 = .ok (.iconst 1, 1) := by decide +kernel
theorem dX4_fits_273 : decode cX4_fits 273 = .ok (.goto 4, 3) := by decide +kernel
theorem dX4_fits_276 : decode cX4_fits 276 = .ok (.iconst 0, 1) := by decide +kernel
theorem dX4_fits_277 : decode cX4_fits 277 = .ok (.ireturn, 1) := by decide +kernel
theorem dX4_fits_278 : decode cX4_fits 278 = .ok (.iconst 0, 1) := by decide +kernel
theorem dX4_fits_279 : decode cX4_fits 279 = .ok (.ireturn, 1) := by decide +kernel
theorem dX4_join_0 : decode cX4_join 0 = .ok (.iload_n 1, 1) := by decide +kernel
theorem dX4_join_1 : decode cX4_join 1 = .ok (.bipush 61, 2) := by decide +kernel
theorem dX4_join_3 : decode cX4_join 3 = .ok (.if_icmp .eq 15, 3) := by decide +kernel
theorem dX4_join_6 : decode cX4_join 6 = .ok (.iload_n 1, 1) := by decide +kernel
theorem dX4_join_7 : decode cX4_join 7 = .ok (.bipush 60, 2) := by decide +kernel
theorem dX4_join_9 : decode cX4_join 9 = .ok (.if_icmp .eq 9, 3) := by decide +kernel
theorem dX4_join_12 : decode cX4_join 12 = .ok (.iload_n 1, 1) := by decide +kernel
theorem dX4_join_13 : decode cX4_join 13 = .ok (.bipush 62, 2) := by decide +kernel
theorem dX4_join_15 : decode cX4_join 15 = .ok (.if_icmp .ne 7, 3) := by decide +kernel
theorem dX4_join_18 : decode cX4_join 18 = .ok (.iconst 1, 1) := by decide +kernel
theorem dX4_join_19 : decode cX4_join 19 = .ok (.goto 4, 3) := by decide +kernel
theorem dX4_join_22 : decode cX4_join 22 = .ok (.iconst 0, 1) := by decide +kernel
theorem dX4_join_23 : decode cX4_join 23 = .ok (.istore_n 2, 1) := by decide +kernel
theorem dX4_join_24 : decode cX4_join 24 = .ok (.iload_n 1, 1) := by decide +kernel
theorem dX4_join_25 : decode cX4_join 25 = .ok (.bipush 38, 2) := by decide +kernel
theorem dX4_join_27 : decode cX4_join 27 = .ok (.if_icmp .eq 15, 3) := by decide +kernel
theorem dX4_join_30 : decode cX4_join 30 = .ok (.iload_n 1, 1) := by decide +kernel
theorem dX4_join_31 : decode cX4_join 31 = .ok (.bipush 124, 2) := by decide +kernel
theorem dX4_join_33 : decode cX4_join 33 = .ok (.if_icmp .eq 9, 3) := by decide +kernel
theorem dX4_join_36 : decode cX4_join 36 = .ok (.iload_n 1, 1) := by decide +kernel
theorem dX4_join_37 : decode cX4_join 37 = .ok (.bipush 63, 2) := by decide +kernel
theorem dX4_join_39 : decode cX4_join 39 = .ok (.if_icmp .ne 7, 3) := by decide +kernel
theorem dX4_join_42 : decode cX4_join 42 = .ok (.iconst 1, 1) := by decide +kernel
theorem dX4_join_43 : decode cX4_join 43 = .ok (.goto 4, 3) := by decide +kernel
theorem dX4_join_46 : decode cX4_join 46 = .ok (.iconst 0, 1) := by decide +kernel
theorem dX4_join_47 : decode cX4_join 47 = .ok (.istore_n 3, 1) := by decide +kernel
theorem dX4_join_48 : decode cX4_join 48 = .ok (.iload_n 1, 1) := by decide +kernel
theorem dX4_join_49 : decode cX4_join 49 = .ok (.bipush 63, 2) := by decide +kernel
theorem dX4_join_51 : decode cX4_join 51 = .ok (.if_icmp .ne 17, 3) := by decide +kernel
theorem dX4_join_54 : decode cX4_join 54 = .ok (.aload_n 0, 1) := by decide +kernel
theorem dX4_join_55 : decode cX4_join 55 = .ok (.iload_n 1, 1) := by decide +kernel
theorem dX4_join_56 : decode cX4_join 56 = .ok (.ineg, 1) := by decide +kernel
theorem dX4_join_57 : decode cX4_join 57 = .ok (.invokevirtual 103, 3) := by decide +kernel
theorem dX4_join_60 : decode cX4_join 60 = .ok (.aload_n 0, 1) := by decide +kernel
theorem dX4_join_61 : decode cX4_join 61 = .ok (.iconst 1, 1) := by decide +kernel
theorem dX4_join_62 : decode cX4_join 62 = .ok (.putfield 67, 3) := by decide +kernel
theorem dX4_join_65 : decode cX4_join 65 = .ok (.goto 8, 3) := by decide +kernel
theorem dX4_join_68 : decode cX4_join 68 = .ok (.aload_n 0, 1) := by decide +kernel
theorem dX4_join_69 : decode cX4_join 69 = .ok (.iload_n 1, 1) := by decide +kernel
theorem dX4_join_70 : decode cX4_join 70 = .ok (.invokevirtual 109, 3) := by decide +kernel
theorem dX4_join_73 : decode cX4_join 73 = .ok (.aload_n 0, 1) := by decide +kernel
theorem dX4_join_74 : decode cX4_join 74 = .ok (.dup, 1) := by decide +kernel
theorem dX4_join_75 : decode cX4_join 75 = .ok (.getfield 64, 3) := by decide +kernel
theorem dX4_join_78 : decode cX4_join 78 = .ok (.iload_n 2, 1) := by decide +kernel
theorem dX4_join_79 : decode cX4_join 79 = .ok (.ior, 1) := by decide +kernel
theorem dX4_join_80 : decode cX4_join 80 = .ok (.putfield 64, 3) := by decide +kernel
theorem dX4_join_83 : decode cX4_join 83 = .ok (.aload_n 0, 1) := by decide +kernel
theorem dX4_join_84 : decode cX4_join 84 = .ok (.iload_n 2, 1) := by decide +kernel
theorem dX4_join_85 : decode cX4_join 85 = .ok (.ifCond .ne 14, 3) := by decide +kernel
theorem dX4_join_88 : decode cX4_join 88 = .ok (.aload_n 0, 1) := by decide +kernel
theorem dX4_join_89 : decode cX4_join 89 = .ok (.getfield 58, 3) := by decide +kernel
theorem dX4_join_92 : decode cX4_join 92 = .ok (.ifCond .eq 11, 3) := by decide +kernel
theorem dX4_join_95 : decode cX4_join 95 = .ok (.iload_n 3, 1) := by decide +kernel
theorem dX4_join_96 : decode cX4_join 96 = .ok (.ifCond .ne 7, 3) := by decide +kernel
theorem dX4_join_99 : decode cX4_join 99 = .ok (.iconst 1, 1) := by decide +kernel
theorem dX4_join_100 : decode cX4_join 100 = .ok (.goto 4, 3) := by decide +kernel
theorem dX4_join_103 : decode cX4_join 103 = .ok (.iconst 0, 1) := by decide +kernel
theorem dX4_join_104 : decode cX4_join 104 = .ok (.putfield 58, 3) := by decide +kernel
theorem dX4_join_107 : decode cX4_join 107 = .ok (.aload_n 0, 1) := by decide +kernel
theorem dX4_join_108 : decode cX4_join 108 = .ok (.dup, 1) := by decide +kernel
theorem dX4_join_109 : decode cX4_join 109 = .ok (.getfield 61, 3) := by decide +kernel
theorem dX4_join_112 : decode cX4_join 112 = .ok (.iload_n 3, 1) := by decide +kernel
theorem dX4_join_113 : decode cX4_join 113 = .ok (.ifCond .ne 7, 3) := by decide +kernel
theorem dX4_join_116 : decode cX4_join 116 = .ok (.iconst 1, 1) := by decide +kernel
theorem dX4_join_117 : decode cX4_join 117 = .ok (.goto 4, 3) := by decide +kernel
theorem dX4_join_120 : decode cX4_join 120 = .ok (.iconst 0, 1) := by decide +kernel
theorem dX4_join_121 : decode cX4_join 121 = .ok (.iand, 1) := by decide +kernel
theorem dX4_join_122 : decode cX4_join 122 = .ok (.putfield 61, 3) := by decide +kernel
theorem dX4_join_125 : decode cX4_join 125 = .ok (.aload_n 0, 1) := by decide +kernel
theorem dX4_join_126 : decode cX4_join 126 = .ok (.iconst 1, 1) := by decide +kernel
theorem dX4_join_127 : decode cX4_join 127 = .ok (.putfield 51, 3) := by decide +kernel
theorem dX4_join_130 : decode cX4_join 130 = .ok (.aload_n 0, 1) := by decide +kernel
theorem dX4_join_131 : decode cX4_join 131 = .ok (.iload_n 1, 1) := by decide +kernel
theorem dX4_join_132 : decode cX4_join 132 = .ok (.bipush 38, 2) := by decide +kernel
theorem dX4_join_134 : decode cX4_join 134 = .ok (.if_icmp .eq 9, 3) := by decide +kernel
theorem dX4_join_137 : decode cX4_join 137 = .ok (.iload_n 1, 1) := by decide +kernel
theorem dX4_join_138 : decode cX4_join 138 = .ok (.bipush 124, 2) := by decide +kernel
theorem dX4_join_140 : decode cX4_join 140 = .ok (.if_icmp .ne 7, 3) := by decide +kernel
theorem dX4_join_143 : decode cX4_join 143 = .ok (.iconst 1, 1) := by decide +kernel
theorem dX4_join_144 : decode cX4_join 144 = .ok (.goto 4, 3) := by decide +kernel
theorem dX4_join_147 : decode cX4_join 147 = .ok (.iconst 0, 1) := by decide +kernel
theorem dX4_join_148 : decode cX4_join 148 = .ok (.putfield 55, 3) := by decide +kernel
theorem dX4_join_151 : decode cX4_join 151 = .ok (.return_, 1) := by decide +kernel
theorem dX4_shut_0 : decode cX4_shut 0 = .ok (.aload_n 0, 1) := by decide +kernel
theorem dX4_shut_1 : decode cX4_shut 1 = .ok (.aload_n 0, 1) := by decide +kernel
theorem dX4_shut_2 : decode cX4_shut 2 = .ok (.getfield 39, 3) := by decide +kernel
theorem dX4_shut_5 : decode cX4_shut 5 = .ok (.iconst 1, 1) := by decide +kernel
theorem dX4_shut_6 : decode cX4_shut 6 = .ok (.isub, 1) := by decide +kernel
theorem dX4_shut_7 : decode cX4_shut 7 = .ok (.iconst 0, 1) := by decide +kernel
theorem dX4_shut_8 : decode cX4_shut 8 = .ok (.invokestatic 118, 3) := by decide +kernel
theorem dX4_shut_11 : decode cX4_shut 11 = .ok (.putfield 39, 3) := by decide +kernel
theorem dX4_shut_14 : decode cX4_shut 14 = .ok (.aload_n 0, 1) := by decide +kernel
theorem dX4_shut_15 : decode cX4_shut 15 = .ok (.dup, 1) := by decide +kernel
theorem dX4_shut_16 : decode cX4_shut 16 = .ok (.getfield 42, 3) := by decide +kernel
theorem dX4_shut_19 : decode cX4_shut 19 = .ok (.iconst 1, 1) := by decide +kernel
theorem dX4_shut_20 : decode cX4_shut 20 = .ok (.isub, 1) := by decide +kernel
theorem dX4_shut_21 : decode cX4_shut 21 = .ok (.putfield 42, 3) := by decide +kernel
theorem dX4_shut_24 : decode cX4_shut 24 = .ok (.iload_n 1, 1) := by decide +kernel
theorem dX4_shut_25 : decode cX4_shut 25 = .ok (.bipush 93, 2) := by decide +kernel
theorem dX4_shut_27 : decode cX4_shut 27 = .ok (.if_icmp .ne 16, 3) := by decide +kernel
theorem dX4_shut_30 : decode cX4_shut 30 = .ok (.aload_n 0, 1) := by decide +kernel
theorem dX4_shut_31 : decode cX4_shut 31 = .ok (.dup, 1) := by decide +kernel
theorem dX4_shut_32 : decode cX4_shut 32 = .ok (.getfield 48, 3) := by decide +kernel
theorem dX4_shut_35 : decode cX4_shut 35 = .ok (.iconst 1, 1) := by decide +kernel
theorem dX4_shut_36 : decode cX4_shut 36 = .ok (.isub, 1) := by decide +kernel
theorem dX4_shut_37 : decode cX4_shut 37 = .ok (.putfield 48, 3) := by decide +kernel
theorem dX4_shut_40 : decode cX4_shut 40 = .ok (.goto 18, 3) := by decide +kernel
theorem dX4_shut_43 : decode cX4_shut 43 = .ok (.aload_n 0, 1) := by decide +kernel
theorem dX4_shut_44 : decode cX4_shut 44 = .ok (.dup, 1) := by decide +kernel
theorem dX4_shut_45 : decode cX4_shut 45 = .ok (.getfield 45, 3) := by decide +kernel
theorem dX4_shut_48 : decode cX4_shut 48 = .ok (.iconst 1, 1) := by decide +kernel
theorem dX4_shut_49 : decode cX4_shut 49 = .ok (.isub, 1) := by decide +kernel
theorem dX4_shut_50 : decode cX4_shut 50 = .ok (.putfield 45, 3) := by decide +kernel
theorem dX4_shut_53 : decode cX4_shut 53 = .ok (.aload_n 0, 1) := by decide +kernel
theorem dX4_shut_54 : decode cX4_shut 54 = .ok (.iconst 1, 1) := by decide +kernel
theorem dX4_shut_55 : decode cX4_shut 55 = .ok (.putfield 61, 3) := by decide +kernel
theorem dX4_shut_58 : decode cX4_shut 58 = .ok (.return_, 1) := by decide +kernel
theorem dX4_reduce_0 : decode cX4_reduce 0 = .ok (.aload_n 0, 1) := by decide +kernel
theorem dX4_reduce_1 : decode cX4_reduce 1 = .ok (.getfield 39, 3) := by decide +kernel
theorem dX4_reduce_4 : decode cX4_reduce 4 = .ok (.iconst 1, 1) := by decide +kernel
theorem dX4_reduce_5 : decode cX4_reduce 5 = .ok (.isub, 1) := by decide +kernel
theorem dX4_reduce_6 : decode cX4_reduce 6 = .ok (.istore_n 2, 1) := by decide +kernel
theorem dX4_reduce_7 : decode cX4_reduce 7 = .ok (.iload_n 2, 1) := by decide +kernel
theorem dX4_reduce_8 : decode cX4_reduce 8 = .ok (.ifCond .lt 64, 3) := by decide +kernel
theorem dX4_reduce_11 : decode cX4_reduce 11 = .ok (.aload_n 0, 1) := by decide +kernel
theorem dX4_reduce_12 : decode cX4_reduce 12 = .ok (.getfield 15, 3) := by decide +kernel
theorem dX4_reduce_15 : decode cX4_reduce 15 = .ok (.iload_n 2, 1) := by decide +kernel
theorem dX4_reduce_16 : decode cX4_reduce 16 = .ok (.invokestatic 133, 3) := by decide +kernel
theorem dX4_reduce_19 : decode cX4_reduce 19 = .ok (.invokestatic 115, 3) := by decide +kernel
theorem dX4_reduce_22 : decode cX4_reduce 22 = .ok (.iload_n 1, 1) := by decide +kernel
theorem dX4_reduce_23 : decode cX4_reduce 23 = .ok (.if_icmp .lt 49, 3) := by decide +kernel
theorem dX4_reduce_26 : decode cX4_reduce 26 = .ok (.aload_n 0, 1) := by decide +kernel
theorem dX4_reduce_27 : decode cX4_reduce 27 = .ok (.getfield 15, 3) := by decide +kernel
theorem dX4_reduce_30 : decode cX4_reduce 30 = .ok (.iload_n 2, 1) := by decide +kernel
theorem dX4_reduce_31 : decode cX4_reduce 31 = .ok (.invokestatic 133, 3) := by decide +kernel
theorem dX4_reduce_34 : decode cX4_reduce 34 = .ok (.istore_n 3, 1) := by decide +kernel
theorem dX4_reduce_35 : decode cX4_reduce 35 = .ok (.aload_n 0, 1) := by decide +kernel
theorem dX4_reduce_36 : decode cX4_reduce 36 = .ok (.iload_n 3, 1) := by decide +kernel
theorem dX4_reduce_37 : decode cX4_reduce 37 = .ok (.ineg, 1) := by decide +kernel
theorem dX4_reduce_38 : decode cX4_reduce 38 = .ok (.invokevirtual 103, 3) := by decide +kernel
theorem dX4_reduce_41 : decode cX4_reduce 41 = .ok (.aload_n 0, 1) := by decide +kernel
theorem dX4_reduce_42 : decode cX4_reduce 42 = .ok (.dup, 1) := by decide +kernel
theorem dX4_reduce_43 : decode cX4_reduce 43 = .ok (.getfield 42, 3) := by decide +kernel
theorem dX4_reduce_46 : decode cX4_reduce 46 = .ok (.iload_n 3, 1) := by decide +kernel
theorem dX4_reduce_47 : decode cX4_reduce 47 = .ok (.bipush 33, 2) := by decide +kernel
theorem dX4_reduce_49 : decode cX4_reduce 49 = .ok (.if_icmp .ne 7, 3) := by decide +kernel
theorem dX4_reduce_52 : decode cX4_reduce 52 = .ok (.iconst 1, 1) := by decide +kernel
theorem dX4_reduce_53 : decode cX4_reduce 53 = .ok (.goto 4, 3) := by decide +kernel
theorem dX4_reduce_56 : decode cX4_reduce 56 = .ok (.iconst 0, 1) := by decide +kernel
theorem dX4_reduce_57 : decode cX4_reduce 57 = .ok (.isub, 1) := by decide +kernel
theorem dX4_reduce_58 : decode cX4_reduce 58 = .ok (.putfield 42, 3) := by decide +kernel
theorem dX4_reduce_61 : decode cX4_reduce 61 = .ok (.aload_n 0, 1) := by decide +kernel
theorem dX4_reduce_62 : decode cX4_reduce 62 = .ok (.iload_n 2, 1) := by decide +kernel
theorem dX4_reduce_63 : decode cX4_reduce 63 = .ok (.putfield 39, 3) := by decide +kernel
theorem dX4_reduce_66 : decode cX4_reduce 66 = .ok (.iinc 2 (-1), 3) := by decide +kernel
theorem dX4_reduce_69 : decode cX4_reduce 69 = .ok (.goto (-62), 3) := by decide +kernel
theorem dX4_reduce_72 : decode cX4_reduce 72 = .ok (.return_, 1) := by decide +kernel
theorem dX4_rank_0 : decode cX4_rank 0 = .ok (.iload_n 0, 1) := by decide +kernel
theorem dX4_rank_1 : decode cX4_rank 1 = .ok (.lookupswitch 104 #[(33, 95), (38, 93), (42, 101), (43, 99), (45, 99), (47, 101), (60, 97), (61, 97), (62, 97), (124, 91)], 91) := by decide +kernel
theorem dX4_rank_92 : decode cX4_rank 92 = .ok (.iconst 1, 1) := by decide +kernel
theorem dX4_rank_93 : decode cX4_rank 93 = .ok (.ireturn, 1) := by decide +kernel
theorem dX4_rank_94 : decode cX4_rank 94 = .ok (.iconst 2, 1) := by decide +kernel
theorem dX4_rank_95 : decode cX4_rank 95 = .ok (.ireturn, 1) := by decide +kernel
theorem dX4_rank_96 : decode cX4_rank 96 = .ok (.iconst 3, 1) := by decide +kernel
theorem dX4_rank_97 : decode cX4_rank 97 = .ok (.ireturn, 1) := by decide +kernel
theorem dX4_rank_98 : decode cX4_rank 98 = .ok (.iconst 4, 1) := by decide +kernel
theorem dX4_rank_99 : decode cX4_rank 99 = .ok (.ireturn, 1) := by decide +kernel
theorem dX4_rank_100 : decode cX4_rank 100 = .ok (.iconst 5, 1) := by decide +kernel
theorem dX4_rank_101 : decode cX4_rank 101 = .ok (.ireturn, 1) := by decide +kernel
theorem dX4_rank_102 : decode cX4_rank 102 = .ok (.bipush 6, 2) := by decide +kernel
theorem dX4_rank_104 : decode cX4_rank 104 = .ok (.ireturn, 1) := by decide +kernel
theorem dX4_rank_105 : decode cX4_rank 105 = .ok (.iconst 0, 1) := by decide +kernel
theorem dX4_rank_106 : decode cX4_rank 106 = .ok (.ireturn, 1) := by decide +kernel
theorem dX4_push_0 : decode cX4_push 0 = .ok (.aload_n 0, 1) := by decide +kernel
theorem dX4_push_1 : decode cX4_push 1 = .ok (.getfield 15, 3) := by decide +kernel
theorem dX4_push_4 : decode cX4_push 4 = .ok (.aload_n 0, 1) := by decide +kernel
theorem dX4_push_5 : decode cX4_push 5 = .ok (.getfield 39, 3) := by decide +kernel
theorem dX4_push_8 : decode cX4_push 8 = .ok (.iload_n 1, 1) := by decide +kernel
theorem dX4_push_9 : decode cX4_push 9 = .ok (.invokestatic 137, 3) := by decide +kernel
theorem dX4_push_12 : decode cX4_push 12 = .ok (.aload_n 0, 1) := by decide +kernel
theorem dX4_push_13 : decode cX4_push 13 = .ok (.aload_n 0, 1) := by decide +kernel
theorem dX4_push_14 : decode cX4_push 14 = .ok (.getfield 39, 3) := by decide +kernel
theorem dX4_push_17 : decode cX4_push 17 = .ok (.iconst 1, 1) := by decide +kernel
theorem dX4_push_18 : decode cX4_push 18 = .ok (.iadd, 1) := by decide +kernel
theorem dX4_push_19 : decode cX4_push 19 = .ok (.bipush 48, 2) := by decide +kernel
theorem dX4_push_21 : decode cX4_push 21 = .ok (.invokestatic 141, 3) := by decide +kernel
theorem dX4_push_24 : decode cX4_push 24 = .ok (.putfield 39, 3) := by decide +kernel
theorem dX4_push_27 : decode cX4_push 27 = .ok (.return_, 1) := by decide +kernel
theorem dX4_emit_0 : decode cX4_emit 0 = .ok (.aload_n 0, 1) := by decide +kernel
theorem dX4_emit_1 : decode cX4_emit 1 = .ok (.getfield 9, 3) := by decide +kernel
theorem dX4_emit_4 : decode cX4_emit 4 = .ok (.aload_n 0, 1) := by decide +kernel
theorem dX4_emit_5 : decode cX4_emit 5 = .ok (.getfield 23, 3) := by decide +kernel
theorem dX4_emit_8 : decode cX4_emit 8 = .ok (.iload_n 1, 1) := by decide +kernel
theorem dX4_emit_9 : decode cX4_emit 9 = .ok (.invokestatic 137, 3) := by decide +kernel
theorem dX4_emit_12 : decode cX4_emit 12 = .ok (.aload_n 0, 1) := by decide +kernel
theorem dX4_emit_13 : decode cX4_emit 13 = .ok (.aload_n 0, 1) := by decide +kernel
theorem dX4_emit_14 : decode cX4_emit 14 = .ok (.getfield 23, 3) := by decide +kernel
theorem dX4_emit_17 : decode cX4_emit 17 = .ok (.iconst 1, 1) := by decide +kernel
theorem dX4_emit_18 : decode cX4_emit 18 = .ok (.iadd, 1) := by decide +kernel
theorem dX4_emit_19 : decode cX4_emit 19 = .ok (.sipush 240, 3) := by decide +kernel
theorem dX4_emit_22 : decode cX4_emit 22 = .ok (.invokestatic 141, 3) := by decide +kernel
theorem dX4_emit_25 : decode cX4_emit 25 = .ok (.putfield 23, 3) := by decide +kernel
theorem dX4_emit_28 : decode cX4_emit 28 = .ok (.return_, 1) := by decide +kernel
theorem dX5_init_0 : decode cX5_init 0 = .ok (.aload_n 0, 1) := by decide +kernel
theorem dX5_init_1 : decode cX5_init 1 = .ok (.invokespecial 3, 3) := by decide +kernel
theorem dX5_init_4 : decode cX5_init 4 = .ok (.aload_n 0, 1) := by decide +kernel
theorem dX5_init_5 : decode cX5_init 5 = .ok (.iconst (-1), 1) := by decide +kernel
theorem dX5_init_6 : decode cX5_init 6 = .ok (.putfield 9, 3) := by decide +kernel
theorem dX5_init_9 : decode cX5_init 9 = .ok (.aload_n 0, 1) := by decide +kernel
theorem dX5_init_10 : decode cX5_init 10 = .ok (.sipush 960, 3) := by decide +kernel
theorem dX5_init_13 : decode cX5_init 13 = .ok (.newarray .int, 2) := by decide +kernel
theorem dX5_init_15 : decode cX5_init 15 = .ok (.putfield 15, 3) := by decide +kernel
theorem dX5_init_18 : decode cX5_init 18 = .ok (.aload_n 0, 1) := by decide +kernel
theorem dX5_init_19 : decode cX5_init 19 = .ok (.iconst 4, 1) := by decide +kernel
theorem dX5_init_20 : decode cX5_init 20 = .ok (.newarray .int, 2) := by decide +kernel
theorem dX5_init_22 : decode cX5_init 22 = .ok (.putfield 19, 3) := by decide +kernel
theorem dX5_init_25 : decode cX5_init 25 = .ok (.aload_n 0, 1) := by decide +kernel
theorem dX5_init_26 : decode cX5_init 26 = .ok (.bipush 48, 2) := by decide +kernel
theorem dX5_init_28 : decode cX5_init 28 = .ok (.newarray .int, 2) := by decide +kernel
theorem dX5_init_30 : decode cX5_init 30 = .ok (.putfield 24, 3) := by decide +kernel
theorem dX5_init_33 : decode cX5_init 33 = .ok (.return_, 1) := by decide +kernel
theorem dX5_add_0 : decode cX5_add 0 = .ok (.aload_n 0, 1) := by decide +kernel
theorem dX5_add_1 : decode cX5_add 1 = .ok (.getfield 27, 3) := by decide +kernel
theorem dX5_add_4 : decode cX5_add 4 = .ok (.iconst 4, 1) := by decide +kernel
theorem dX5_add_5 : decode cX5_add 5 = .ok (.if_icmp .lt 5, 3) := by decide +kernel
theorem dX5_add_8 : decode cX5_add 8 = .ok (.iconst (-1), 1) := by decide +kernel
theorem dX5_add_9 : decode cX5_add 9 = .ok (.ireturn, 1) := by decide +kernel
theorem dX5_add_10 : decode cX5_add 10 = .ok (.iconst 0, 1) := by decide +kernel
theorem dX5_add_11 : decode cX5_add 11 = .ok (.istore_n 2, 1) := by decide +kernel
theorem dX5_add_12 : decode cX5_add 12 = .ok (.iload_n 2, 1) := by decide +kernel
theorem dX5_add_13 : decode cX5_add 13 = .ok (.aload_n 1, 1) := by decide +kernel
theorem dX5_add_14 : decode cX5_add 14 = .ok (.getfield 30, 3) := by decide +kernel
theorem dX5_add_17 : decode cX5_add 17 = .ok (.if_icmp .ge 34, 3) := by decide +kernel
theorem dX5_add_20 : decode cX5_add 20 = .ok (.aload_n 0, 1) := by decide +kernel
theorem dX5_add_21 : decode cX5_add 21 = .ok (.getfield 15, 3) := by decide +kernel
theorem dX5_add_24 : decode cX5_add 24 = .ok (.aload_n 0, 1) := by decide +kernel
theorem dX5_add_25 : decode cX5_add 25 = .ok (.getfield 27, 3) := by decide +kernel
theorem dX5_add_28 : decode cX5_add 28 = .ok (.sipush 240, 3) := by decide +kernel
theorem dX5_add_31 : decode cX5_add 31 = .ok (.imul, 1) := by decide +kernel
theorem dX5_add_32 : decode cX5_add 32 = .ok (.iload_n 2, 1) := by decide +kernel
theorem dX5_add_33 : decode cX5_add 33 = .ok (.iadd, 1) := by decide +kernel
theorem dX5_add_34 : decode cX5_add 34 = .ok (.aload_n 1, 1) := by decide +kernel
theorem dX5_add_35 : decode cX5_add 35 = .ok (.getfield 33, 3) := by decide +kernel
theorem dX5_add_38 : decode cX5_add 38 = .ok (.iload_n 2, 1) := by decide +kernel
theorem dX5_add_39 : decode cX5_add 39 = .ok (.invokestatic 36, 3) := by decide +kernel
theorem dX5_add_42 : decode cX5_add 42 = .ok (.invokestatic 40, 3) := by decide +kernel
theorem dX5_add_45 : decode cX5_add 45 = .ok (.iinc 2 1, 3) := by decide +kernel
theorem dX5_add_48 : decode cX5_add 48 = .ok (.goto (-36), 3) := by decide +kernel
theorem dX5_add_51 : decode cX5_add 51 = .ok (.aload_n 0, 1) := by decide +kernel
theorem dX5_add_52 : decode cX5_add 52 = .ok (.getfield 19, 3) := by decide +kernel
theorem dX5_add_55 : decode cX5_add 55 = .ok (.aload_n 0, 1) := by decide +kernel
theorem dX5_add_56 : decode cX5_add 56 = .ok (.getfield 27, 3) := by decide +kernel
theorem dX5_add_59 : decode cX5_add 59 = .ok (.aload_n 1, 1) := by decide +kernel
theorem dX5_add_60 : decode cX5_add 60 = .ok (.getfield 30, 3) := by decide +kernel
theorem dX5_add_63 : decode cX5_add 63 = .ok (.invokestatic 40, 3) := by decide +kernel
theorem dX5_add_66 : decode cX5_add 66 = .ok (.aload_n 0, 1) := by decide +kernel
theorem dX5_add_67 : decode cX5_add 67 = .ok (.dup, 1) := by decide +kernel
theorem dX5_add_68 : decode cX5_add 68 = .ok (.getfield 27, 3) := by decide +kernel
theorem dX5_add_71 : decode cX5_add 71 = .ok (.iconst 1, 1) := by decide +kernel
theorem dX5_add_72 : decode cX5_add 72 = .ok (.iadd, 1) := by decide +kernel
theorem dX5_add_73 : decode cX5_add 73 = .ok (.putfield 27, 3) := by decide +kernel
theorem dX5_add_76 : decode cX5_add 76 = .ok (.aload_n 0, 1) := by decide +kernel
theorem dX5_add_77 : decode cX5_add 77 = .ok (.getfield 27, 3) := by decide +kernel
theorem dX5_add_80 : decode cX5_add 80 = .ok (.iconst 1, 1) := by decide +kernel
theorem dX5_add_81 : decode cX5_add 81 = .ok (.isub, 1) := by decide +kernel
theorem dX5_add_82 : decode cX5_add 82 = .ok (.ireturn, 1) := by decide +kernel
theorem dX5_worth_0 : decode cX5_worth 0 = .ok (.iconst 0, 1) := by decide +kernel
theorem dX5_worth_1 : decode cX5_worth 1 = .ok (.istore_n 2, 1) := by decide +kernel
theorem dX5_worth_2 : decode cX5_worth 2 = .ok (.aload_n 0, 1) := by decide +kernel
theorem dX5_worth_3 : decode cX5_worth 3 = .ok (.iconst 0, 1) := by decide +kernel
theorem dX5_worth_4 : decode cX5_worth 4 = .ok (.putfield 44, 3) := by decide +kernel
theorem dX5_worth_7 : decode cX5_worth 7 = .ok (.iconst 0, 1) := by decide +kernel
theorem dX5_worth_8 : decode cX5_worth 8 = .ok (.istore_n 3, 1) := by decide +kernel
theorem dX5_worth_9 : decode cX5_worth 9 = .ok (.iload_n 3, 1) := by decide +kernel
theorem dX5_worth_10 : decode cX5_worth 10 = .ok (.aload_n 0, 1) := by decide +kernel
theorem dX5_worth_11 : decode cX5_worth 11 = .ok (.getfield 19, 3) := by decide +kernel
theorem dX5_worth_14 : decode cX5_worth 14 = .ok (.aload_n 0, 1) := by decide +kernel
theorem dX5_worth_15 : decode cX5_worth 15 = .ok (.getfield 9, 3) := by decide +kernel
theorem dX5_worth_18 : decode cX5_worth 18 = .ok (.invokestatic 36, 3) := by decide +kernel
theorem dX5_worth_21 : decode cX5_worth 21 = .ok (.if_icmp .ge 116, 3) := by decide +kernel
theorem dX5_worth_24 : decode cX5_worth 24 = .ok (.aload_n 0, 1) := by decide +kernel
theorem dX5_worth_25 : decode cX5_worth 25 = .ok (.getfield 15, 3) := by decide +kernel
theorem dX5_worth_28 : decode cX5_worth 28 = .ok (.aload_n 0, 1) := by decide +kernel
theorem dX5_worth_29 : decode cX5_worth 29 = .ok (.getfield 9, 3) := by decide +kernel
theorem dX5_worth_32 : decode cX5_worth 32 = .ok (.sipush 240, 3) := by decide +kernel
theorem dX5_worth_35 : decode cX5_worth 35 = .ok (.imul, 1) := by decide +kernel
theorem dX5_worth_36 : decode cX5_worth 36 = .ok (.iload_n 3, 1) := by decide +kernel
theorem dX5_worth_37 : decode cX5_worth 37 = .ok (.iadd, 1) := by decide +kernel
theorem dX5_worth_38 : decode cX5_worth 38 = .ok (.invokestatic 36, 3) := by decide +kernel
theorem dX5_worth_41 : decode cX5_worth 41 = .ok (.istore 4, 2) := by decide +kernel
theorem dX5_worth_43 : decode cX5_worth 43 = .ok (.iload_n 2, 1) := by decide +kernel
theorem dX5_worth_44 : decode cX5_worth 44 = .ok (.ifCond .eq 19, 3) := by decide +kernel
theorem dX5_worth_47 : decode cX5_worth 47 = .ok (.iload 4, 2) := by decide +kernel
theorem dX5_worth_49 : decode cX5_worth 49 = .ok (.bipush (-59), 2) := by decide +kernel
theorem dX5_worth_51 : decode cX5_worth 51 = .ok (.if_icmp .eq 7, 3) := by decide +kernel
theorem dX5_worth_54 : decode cX5_worth 54 = .ok (.iconst 1, 1) := by decide +kernel
theorem dX5_worth_55 : decode cX5_worth 55 = .ok (.goto 4, 3) := by decide +kernel
theorem dX5_worth_58 : decode cX5_worth 58 = .ok (.iconst 0, 1) := by decide +kernel
theorem dX5_worth_59 : decode cX5_worth 59 = .ok (.istore_n 2, 1) := by decide +kernel
theorem dX5_worth_60 : decode cX5_worth 60 = .ok (.goto 71, 3) := by decide +kernel
theorem dX5_worth_63 : decode cX5_worth 63 = .ok (.iload 4, 2) := by decide +kernel
theorem dX5_worth_65 : decode cX5_worth 65 = .ok (.bipush (-59), 2) := by decide +kernel
theorem dX5_worth_67 : decode cX5_worth 67 = .ok (.if_icmp .ne 17, 3) := by decide +kernel
theorem dX5_worth_70 : decode cX5_worth 70 = .ok (.aload_n 0, 1) := by decide +kernel
theorem dX5_worth_71 : decode cX5_worth 71 = .ok (.getfield 24, 3) := by decide +kernel
theorem dX5_worth_74 : decode cX5_worth 74 = .ok (.aload_n 0, 1) := by decide +kernel
theorem dX5_worth_75 : decode cX5_worth 75 = .ok (.getfield 44, 3) := by decide +kernel
theorem dX5_worth_78 : decode cX5_worth 78 = .ok (.iconst 1, 1) := by decide +kernel
theorem dX5_worth_79 : decode cX5_worth 79 = .ok (.isub, 1) := by decide +kernel
theorem dX5_worth_80 : decode cX5_worth 80 = .ok (.invokestatic 36, 3) := by decide +kernel
theorem dX5_worth_83 : decode cX5_worth 83 = .ok (.ireturn, 1) := by decide +kernel
theorem dX5_worth_84 : decode cX5_worth 84 = .ok (.iload 4, 2) := by decide +kernel
theorem dX5_worth_86 : decode cX5_worth 86 = .ok (.bipush (-63), 2) := by decide +kernel
theorem dX5_worth_88 : decode cX5_worth 88 = .ok (.if_icmp .ne 36, 3) := by decide +kernel
theorem dX5_worth_91 : decode cX5_worth 91 = .ok (.aload_n 0, 1) := by decide +kernel
theorem dX5_worth_92 : decode cX5_worth 92 = .ok (.dup, 1) := by decide +kernel
theorem dX5_worth_93 : decode cX5_worth 93 = .ok (.getfield 44, 3) := by decide +kernel
theorem dX5_worth_96 : decode cX5_worth 96 = .ok (.iconst 1, 1) := by decide +kernel
theorem dX5_worth_97 : decode cX5_worth 97 = .ok (.isub, 1) := by decide +kernel
theorem dX5_worth_98 : decode cX5_worth 98 = .ok (.putfield 44, 3) := by decide +kernel
theorem dX5_worth_101 : decode cX5_worth 101 = .ok (.aload_n 0, 1) := by decide +kernel
theorem dX5_worth_102 : decode cX5_worth 102 = .ok (.getfield 24, 3) := by decide +kernel
theorem dX5_worth_105 : decode cX5_worth 105 = .ok (.aload_n 0, 1) := by decide +kernel
theorem dX5_worth_106 : decode cX5_worth 106 = .ok (.getfield 44, 3) := by decide +kernel
theorem dX5_worth_109 : decode cX5_worth 109 = .ok (.invokestatic 36, 3) := by decide +kernel
theorem dX5_worth_112 : decode cX5_worth 112 = .ok (.ifCond .ne 7, 3) := by decide +kernel
theorem dX5_worth_115 : decode cX5_worth 115 = .ok (.iconst 1, 1) := by decide +kernel
theorem dX5_worth_116 : decode cX5_worth 116 = .ok (.goto 4, 3) := by decide +kernel
theorem dX5_worth_119 : decode cX5_worth 119 = .ok (.iconst 0, 1) := by decide +kernel
theorem dX5_worth_120 : decode cX5_worth 120 = .ok (.istore_n 2, 1) := by decide +kernel
theorem dX5_worth_121 : decode cX5_worth 121 = .ok (.goto 10, 3) := by decide +kernel
theorem dX5_worth_124 : decode cX5_worth 124 = .ok (.aload_n 0, 1) := by decide +kernel
theorem dX5_worth_125 : decode cX5_worth 125 = .ok (.iload 4, 2) := by decide +kernel
theorem dX5_worth_127 : decode cX5_worth 127 = .ok (.aload_n 1, 1) := by decide +kernel
theorem dX5_worth_128 : decode cX5_worth 128 = .ok (.invokevirtual 47, 3) := by decide +kernel
theorem dX5_worth_131 : decode cX5_worth 131 = .ok (.iinc 3 1, 3) := by decide +kernel
theorem dX5_worth_134 : decode cX5_worth 134 = .ok (.goto (-125), 3) := by decide +kernel
theorem dX5_worth_137 : decode cX5_worth 137 = .ok (.iconst 0, 1) := by decide +kernel
theorem dX5_worth_138 : decode cX5_worth 138 = .ok (.ireturn, 1) := by decide +kernel
theorem dX5_compute_0 : decode cX5_compute 0 = .ok (.iload_n 1, 1) := by decide +kernel
theorem dX5_compute_1 : decode cX5_compute 1 = .ok (.sipush 10000, 3) := by decide +kernel
theorem dX5_compute_4 : decode cX5_compute 4 = .ok (.if_icmp .lt 36, 3) := by decide +kernel
theorem dX5_compute_7 : decode cX5_compute 7 = .ok (.aload_n 0, 1) := by decide +kernel
theorem dX5_compute_8 : decode cX5_compute 8 = .ok (.getfield 24, 3) := by decide +kernel
theorem dX5_compute_11 : decode cX5_compute 11 = .ok (.aload_n 0, 1) := by decide +kernel
theorem dX5_compute_12 : decode cX5_compute 12 = .ok (.getfield 44, 3) := by decide +kernel
theorem dX5_compute_15 : decode cX5_compute 15 = .ok (.aload_n 2, 1) := by decide +kernel
theorem dX5_compute_16 : decode cX5_compute 16 = .ok (.iload_n 1, 1) := by decide +kernel
theorem dX5_compute_17 : decode cX5_compute 17 = .ok (.sipush 10000, 3) := by decide +kernel
theorem dX5_compute_20 : decode cX5_compute 20 = .ok (.isub, 1) := by decide +kernel
theorem dX5_compute_21 : decode cX5_compute 21 = .ok (.invokestatic 36, 3) := by decide +kernel
theorem dX5_compute_24 : decode cX5_compute 24 = .ok (.invokestatic 40, 3) := by decide +kernel
theorem dX5_compute_27 : decode cX5_compute 27 = .ok (.aload_n 0, 1) := by decide +kernel
theorem dX5_compute_28 : decode cX5_compute 28 = .ok (.dup, 1) := by decide +kernel
theorem dX5_compute_29 : decode cX5_compute 29 = .ok (.getfield 44, 3) := by decide +kernel
theorem dX5_compute_32 : decode cX5_compute 32 = .ok (.iconst 1, 1) := by decide +kernel
theorem dX5_compute_33 : decode cX5_compute 33 = .ok (.iadd, 1) := by decide +kernel
theorem dX5_compute_34 : decode cX5_compute 34 = .ok (.putfield 44, 3) := by decide +kernel
theorem dX5_compute_37 : decode cX5_compute 37 = .ok (.goto 142, 3) := by decide +kernel
theorem dX5_compute_40 : decode cX5_compute 40 = .ok (.iload_n 1, 1) := by decide +kernel
theorem dX5_compute_41 : decode cX5_compute 41 = .ok (.ifCond .lt 28, 3) := by decide +kernel
theorem dX5_compute_44 : decode cX5_compute 44 = .ok (.aload_n 0, 1) := by decide +kernel
theorem dX5_compute_45 : decode cX5_compute 45 = .ok (.getfield 24, 3) := by decide +kernel
theorem dX5_compute_48 : decode cX5_compute 48 = .ok (.aload_n 0, 1) := by decide +kernel
theorem dX5_compute_49 : decode cX5_compute 49 = .ok (.getfield 44, 3) := by decide +kernel
theorem dX5_compute_52 : decode cX5_compute 52 = .ok (.iload_n 1, 1) := by decide +kernel
theorem dX5_compute_53 : decode cX5_compute 53 = .ok (.invokestatic 40, 3) := by decide +kernel
theorem dX5_compute_56 : decode cX5_compute 56 = .ok (.aload_n 0, 1) := by decide +kernel
theorem dX5_compute_57 : decode cX5_compute 57 = .ok (.dup, 1) := by decide +kernel
theorem dX5_compute_58 : decode cX5_compute 58 = .ok (.getfield 44, 3) := by decide +kernel
theorem dX5_compute_61 : decode cX5_compute 61 = .ok (.iconst 1, 1) := by decide +kernel
theorem dX5_compute_62 : decode cX5_compute 62 = .ok (.iadd, 1) := by decide +kernel
theorem dX5_compute_63 : decode cX5_compute 63 = .ok (.putfield 44, 3) := by decide +kernel
theorem dX5_compute_66 : decode cX5_compute 66 = .ok (.goto 113, 3) := by decide +kernel
theorem dX5_compute_69 : decode cX5_compute 69 = .ok (.iload_n 1, 1) := by decide +kernel
theorem dX5_compute_70 : decode cX5_compute 70 = .ok (.bipush (-33), 2) := by decide +kernel
theorem dX5_compute_72 : decode cX5_compute 72 = .ok (.if_icmp .ne 40, 3) := by decide +kernel
theorem dX5_compute_75 : decode cX5_compute 75 = .ok (.aload_n 0, 1) := by decide +kernel
theorem dX5_compute_76 : decode cX5_compute 76 = .ok (.getfield 24, 3) := by decide +kernel
theorem dX5_compute_79 : decode cX5_compute 79 = .ok (.aload_n 0, 1) := by decide +kernel
theorem dX5_compute_80 : decode cX5_compute 80 = .ok (.getfield 44, 3) := by decide +kernel
theorem dX5_compute_83 : decode cX5_compute 83 = .ok (.iconst 1, 1) := by decide +kernel
theorem dX5_compute_84 : decode cX5_compute 84 = .ok (.isub, 1) := by decide +kernel
theorem dX5_compute_85 : decode cX5_compute 85 = .ok (.aload_n 0, 1) := by decide +kernel
theorem dX5_compute_86 : decode cX5_compute 86 = .ok (.getfield 24, 3) := by decide +kernel
theorem dX5_compute_89 : decode cX5_compute 89 = .ok (.aload_n 0, 1) := by decide +kernel
theorem dX5_compute_90 : decode cX5_compute 90 = .ok (.getfield 44, 3) := by decide +kernel
theorem dX5_compute_93 : decode cX5_compute 93 = .ok (.iconst 1, 1) := by decide +kernel
theorem dX5_compute_94 : decode cX5_compute 94 = .ok (.isub, 1) := by decide +kernel
theorem dX5_compute_95 : decode cX5_compute 95 = .ok (.invokestatic 36, 3) := by decide +kernel
theorem dX5_compute_98 : decode cX5_compute 98 = .ok (.ifCond .ne 7, 3) := by decide +kernel
theorem dX5_compute_101 : decode cX5_compute 101 = .ok (.iconst 1, 1) := by decide +kernel
theorem dX5_compute_102 : decode cX5_compute 102 = .ok (.goto 4, 3) := by decide +kernel
theorem dX5_compute_105 : decode cX5_compute 105 = .ok (.iconst 0, 1) := by decide +kernel
theorem dX5_compute_106 : decode cX5_compute 106 = .ok (.invokestatic 40, 3) := by decide +kernel
theorem dX5_compute_109 : decode cX5_compute 109 = .ok (.goto 70, 3) := by decide +kernel
theorem dX5_compute_112 : decode cX5_compute 112 = .ok (.aload_n 0, 1) := by decide +kernel
theorem dX5_compute_113 : decode cX5_compute 113 = .ok (.dup, 1) := by decide +kernel
theorem dX5_compute_114 : decode cX5_compute 114 = .ok (.getfield 44, 3) := by decide +kernel
theorem dX5_compute_117 : decode cX5_compute 117 = .ok (.iconst 1, 1) := by decide +kernel
theorem dX5_compute_118 : decode cX5_compute 118 = .ok (.isub, 1) := by decide +kernel
theorem dX5_compute_119 : decode cX5_compute 119 = .ok (.putfield 44, 3) := by decide +kernel
theorem dX5_compute_122 : decode cX5_compute 122 = .ok (.iload_n 1, 1) := by decide +kernel
theorem dX5_compute_123 : decode cX5_compute 123 = .ok (.ineg, 1) := by decide +kernel
theorem dX5_compute_124 : decode cX5_compute 124 = .ok (.aload_n 0, 1) := by decide +kernel
theorem dX5_compute_125 : decode cX5_compute 125 = .ok (.getfield 24, 3) := by decide +kernel
theorem dX5_compute_128 : decode cX5_compute 128 = .ok (.aload_n 0, 1) := by decide +kernel
theorem dX5_compute_129 : decode cX5_compute 129 = .ok (.getfield 44, 3) := by decide +kernel
theorem dX5_compute_132 : decode cX5_compute 132 = .ok (.iconst 1, 1) := by decide +kernel
theorem dX5_compute_133 : decode cX5_compute 133 = .ok (.isub, 1) := by decide +kernel
theorem dX5_compute_134 : decode cX5_compute 134 = .ok (.invokestatic 36, 3) := by decide +kernel
theorem dX5_compute_137 : decode cX5_compute 137 = .ok (.aload_n 0, 1) := by decide +kernel
theorem dX5_compute_138 : decode cX5_compute 138 = .ok (.getfield 24, 3) := by decide +kernel
theorem dX5_compute_141 : decode cX5_compute 141 = .ok (.aload_n 0, 1) := by decide +kernel
theorem dX5_compute_142 : decode cX5_compute 142 = .ok (.getfield 44, 3) := by decide +kernel
theorem dX5_compute_145 : decode cX5_compute 145 = .ok (.invokestatic 36, 3) := by decide +kernel
theorem dX5_compute_148 : decode cX5_compute 148 = .ok (.invokestatic 51, 3) := by decide +kernel
theorem dX5_compute_151 : decode cX5_compute 151 = .ok (.lstore_n 3, 1) := by decide +kernel
theorem dX5_compute_152 : decode cX5_compute 152 = .ok (.aload_n 0, 1) := by decide +kernel
theorem dX5_compute_153 : decode cX5_compute 153 = .ok (.getfield 24, 3) := by decide +kernel
theorem dX5_compute_156 : decode cX5_compute 156 = .ok (.aload_n 0, 1) := by decide +kernel
theorem dX5_compute_157 : decode cX5_compute 157 = .ok (.getfield 44, 3) := by decide +kernel
theorem dX5_compute_160 : decode cX5_compute 160 = .ok (.iconst 1, 1) := by decide +kernel
theorem dX5_compute_161 : decode cX5_compute 161 = .ok (.isub, 1) := by decide +kernel
theorem dX5_compute_162 : decode cX5_compute 162 = .ok (.ldc2_w 55, 3) := by decide +kernel
theorem dX5_compute_165 : decode cX5_compute 165 = .ok (.ldc2_w 57, 3) := by decide +kernel
theorem dX5_compute_168 : decode cX5_compute 168 = .ok (.lload_n 3, 1) := by decide +kernel
theorem dX5_compute_169 : decode cX5_compute 169 = .ok (.invokestatic 59, 3) := by decide +kernel
theorem dX5_compute_172 : decode cX5_compute 172 = .ok (.invokestatic 65, 3) := by decide +kernel
theorem dX5_compute_175 : decode cX5_compute 175 = .ok (.l2i, 1) := by decide +kernel
theorem dX5_compute_176 : decode cX5_compute 176 = .ok (.invokestatic 40, 3) := by decide +kernel
theorem dX5_compute_179 : decode cX5_compute 179 = .ok (.return_, 1) := by decide +kernel
theorem dX5_joined_0 : decode cX5_joined 0 = .ok (.iload_n 0, 1) := by decide +kernel
theorem dX5_joined_1 : decode cX5_joined 1 = .ok (.lookupswitch 155 #[(38, 145), (42, 93), (43, 83), (45, 88), (47, 99), (60, 123), (61, 112), (62, 134), (124, 150)], 83) := by decide +kernel
theorem dX5_joined_84 : decode cX5_joined 84 = .ok (.iload_n 1, 1) := by decide +kernel
theorem dX5_joined_85 : decode cX5_joined 85 = .ok (.iload_n 2, 1) := by decide +kernel
theorem dX5_joined_86 : decode cX5_joined 86 = .ok (.iadd, 1) := by decide +kernel
theorem dX5_joined_87 : decode cX5_joined 87 = .ok (.i2l, 1) := by decide +kernel
theorem dX5_joined_88 : decode cX5_joined 88 = .ok (.lreturn, 1) := by decide +kernel
theorem dX5_joined_89 : decode cX5_joined 89 = .ok (.iload_n 1, 1) := by decide +kernel
theorem dX5_joined_90 : decode cX5_joined 90 = .ok (.iload_n 2, 1) := by decide +kernel
theorem dX5_joined_91 : decode cX5_joined 91 = .ok (.isub, 1) := by decide +kernel
theorem dX5_joined_92 : decode cX5_joined 92 = .ok (.i2l, 1) := by decide +kernel
theorem dX5_joined_93 : decode cX5_joined 93 = .ok (.lreturn, 1) := by decide +kernel
theorem dX5_joined_94 : decode cX5_joined 94 = .ok (.iload_n 1, 1) := by decide +kernel
theorem dX5_joined_95 : decode cX5_joined 95 = .ok (.i2l, 1) := by decide +kernel
theorem dX5_joined_96 : decode cX5_joined 96 = .ok (.iload_n 2, 1) := by decide +kernel
theorem dX5_joined_97 : decode cX5_joined 97 = .ok (.i2l, 1) := by decide +kernel
theorem dX5_joined_98 : decode cX5_joined 98 = .ok (.lmul, 1) := by decide +kernel
theorem dX5_joined_99 : decode cX5_joined 99 = .ok (.lreturn, 1) := by decide +kernel
theorem dX5_joined_100 : decode cX5_joined 100 = .ok (.iload_n 2, 1) := by decide +kernel
theorem dX5_joined_101 : decode cX5_joined 101 = .ok (.ifCond .ne 7, 3) := by decide +kernel
theorem dX5_joined_104 : decode cX5_joined 104 = .ok (.lconst 0, 1) := by decide +kernel
theorem dX5_joined_105 : decode cX5_joined 105 = .ok (.goto 7, 3) := by decide +kernel
theorem dX5_joined_108 : decode cX5_joined 108 = .ok (.iload_n 1, 1) := by decide +kernel
theorem dX5_joined_109 : decode cX5_joined 109 = .ok (.iload_n 2, 1) := by decide +kernel
theorem dX5_joined_110 : decode cX5_joined 110 = .ok (.idiv, 1) := by decide +kernel
theorem dX5_joined_111 : decode cX5_joined 111 = .ok (.i2l, 1) := by decide +kernel
theorem dX5_joined_112 : decode cX5_joined 112 = .ok (.lreturn, 1) := by decide +kernel
theorem dX5_joined_113 : decode cX5_joined 113 = .ok (.iload_n 1, 1) := by decide +kernel
theorem dX5_joined_114 : decode cX5_joined 114 = .ok (.iload_n 2, 1) := by decide +kernel
theorem dX5_joined_115 : decode cX5_joined 115 = .ok (.if_icmp .ne 7, 3) := by decide +kernel
theorem dX5_joined_118 : decode cX5_joined 118 = .ok (.lconst 1, 1) := by decide +kernel
theorem dX5_joined_119 : decode cX5_joined 119 = .ok (.goto 4, 3) := by decide +kernel
theorem dX5_joined_122 : decode cX5_joined 122 = .ok (.lconst 0, 1) := by decide +kernel
theorem dX5_joined_123 : decode cX5_joined 123 = .ok (.lreturn, 1) := by decide +kernel
theorem dX5_joined_124 : decode cX5_joined 124 = .ok (.iload_n 1, 1) := by decide +kernel
theorem dX5_joined_125 : decode cX5_joined 125 = .ok (.iload_n 2, 1) := by decide +kernel
theorem dX5_joined_126 : decode cX5_joined 126 = .ok (.if_icmp .ge 7, 3) := by decide +kernel
theorem dX5_joined_129 : decode cX5_joined 129 = .ok (.lconst 1, 1) := by decide +kernel
theorem dX5_joined_130 : decode cX5_joined 130 = .ok (.goto 4, 3) := by decide +kernel
theorem dX5_joined_133 : decode cX5_joined 133 = .ok (.lconst 0, 1) := by decide +kernel
theorem dX5_joined_134 : decode cX5_joined 134 = .ok (.lreturn, 1) := by decide +kernel
theorem dX5_joined_135 : decode cX5_joined 135 = .ok (.iload_n 1, 1) := by decide +kernel
theorem dX5_joined_136 : decode cX5_joined 136 = .ok (.iload_n 2, 1) := by decide +kernel
theorem dX5_joined_137 : decode cX5_joined 137 = .ok (.if_icmp .le 7, 3) := by decide +kernel
theorem dX5_joined_140 : decode cX5_joined 140 = .ok (.lconst 1, 1) := by decide +kernel
theorem dX5_joined_141 : decode cX5_joined 141 = .ok (.goto 4, 3) := by decide +kernel
theorem dX5_joined_144 : decode cX5_joined 144 = .ok (.lconst 0, 1) := by decide +kernel
theorem dX5_joined_145 : decode cX5_joined 145 = .ok (.lreturn, 1) := by decide +kernel
theorem dX5_joined_146 : decode cX5_joined 146 = .ok (.iload_n 1, 1) := by decide +kernel
theorem dX5_joined_147 : decode cX5_joined 147 = .ok (.iload_n 2, 1) := by decide +kernel
theorem dX5_joined_148 : decode cX5_joined 148 = .ok (.iand, 1) := by decide +kernel
theorem dX5_joined_149 : decode cX5_joined 149 = .ok (.i2l, 1) := by decide +kernel
theorem dX5_joined_150 : decode cX5_joined 150 = .ok (.lreturn, 1) := by decide +kernel
theorem dX5_joined_151 : decode cX5_joined 151 = .ok (.iload_n 1, 1) := by decide +kernel
theorem dX5_joined_152 : decode cX5_joined 152 = .ok (.iload_n 2, 1) := by decide +kernel
theorem dX5_joined_153 : decode cX5_joined 153 = .ok (.ior, 1) := by decide +kernel
theorem dX5_joined_154 : decode cX5_joined 154 = .ok (.i2l, 1) := by decide +kernel
theorem dX5_joined_155 : decode cX5_joined 155 = .ok (.lreturn, 1) := by decide +kernel
theorem dX5_joined_156 : decode cX5_joined 156 = .ok (.lconst 0, 1) := by decide +kernel
theorem dX5_joined_157 : decode cX5_joined 157 = .ok (.lreturn, 1) := by decide +kernel
theorem dX6_init_0 : decode cX6_init 0 = .ok (.aload_n 0, 1) := by decide +kernel
theorem dX6_init_1 : decode cX6_init 1 = .ok (.invokespecial 3, 3) := by decide +kernel
theorem dX6_init_4 : decode cX6_init 4 = .ok (.aload_n 0, 1) := by decide +kernel
theorem dX6_init_5 : decode cX6_init 5 = .ok (.bipush 6, 2) := by decide +kernel
theorem dX6_init_7 : decode cX6_init 7 = .ok (.newarray .int, 2) := by decide +kernel
theorem dX6_init_9 : decode cX6_init 9 = .ok (.putfield 9, 3) := by decide +kernel
theorem dX6_init_12 : decode cX6_init 12 = .ok (.aload_n 0, 1) := by decide +kernel
theorem dX6_init_13 : decode cX6_init 13 = .ok (.bipush 8, 2) := by decide +kernel
theorem dX6_init_15 : decode cX6_init 15 = .ok (.newarray .int, 2) := by decide +kernel
theorem dX6_init_17 : decode cX6_init 17 = .ok (.putfield 15, 3) := by decide +kernel
theorem dX6_init_20 : decode cX6_init 20 = .ok (.return_, 1) := by decide +kernel
theorem dX6_forget_0 : decode cX6_forget 0 = .ok (.aload_n 0, 1) := by decide +kernel
theorem dX6_forget_1 : decode cX6_forget 1 = .ok (.iconst 0, 1) := by decide +kernel
theorem dX6_forget_2 : decode cX6_forget 2 = .ok (.putfield 18, 3) := by decide +kernel
theorem dX6_forget_5 : decode cX6_forget 5 = .ok (.return_, 1) := by decide +kernel
theorem dX6_formsOf_0 : decode cX6_formsOf 0 = .ok (.iconst 0, 1) := by decide +kernel
theorem dX6_formsOf_1 : decode cX6_formsOf 1 = .ok (.istore_n 1, 1) := by decide +kernel
theorem dX6_formsOf_2 : decode cX6_formsOf 2 = .ok (.iconst 0, 1) := by decide +kernel
theorem dX6_formsOf_3 : decode cX6_formsOf 3 = .ok (.istore_n 2, 1) := by decide +kernel
theorem dX6_formsOf_4 : decode cX6_formsOf 4 = .ok (.iload_n 2, 1) := by decide +kernel
theorem dX6_formsOf_5 : decode cX6_formsOf 5 = .ok (.aload_n 0, 1) := by decide +kernel
theorem dX6_formsOf_6 : decode cX6_formsOf 6 = .ok (.iconst 1, 1) := by decide +kernel
theorem dX6_formsOf_7 : decode cX6_formsOf 7 = .ok (.invokevirtual 22, 3) := by decide +kernel
theorem dX6_formsOf_10 : decode cX6_formsOf 10 = .ok (.if_icmp .ge 21, 3) := by decide +kernel
theorem dX6_formsOf_13 : decode cX6_formsOf 13 = .ok (.iload_n 1, 1) := by decide +kernel
theorem dX6_formsOf_14 : decode cX6_formsOf 14 = .ok (.iconst 1, 1) := by decide +kernel
theorem dX6_formsOf_15 : decode cX6_formsOf 15 = .ok (.aload_n 0, 1) := by decide +kernel
theorem dX6_formsOf_16 : decode cX6_formsOf 16 = .ok (.iconst 1, 1) := by decide +kernel
theorem dX6_formsOf_17 : decode cX6_formsOf 17 = .ok (.iload_n 2, 1) := by decide +kernel
theorem dX6_formsOf_18 : decode cX6_formsOf 18 = .ok (.iconst 0, 1) := by decide +kernel
theorem dX6_formsOf_19 : decode cX6_formsOf 19 = .ok (.invokevirtual 28, 3) := by decide +kernel
theorem dX6_formsOf_22 : decode cX6_formsOf 22 = .ok (.ishl, 1) := by decide +kernel
theorem dX6_formsOf_23 : decode cX6_formsOf 23 = .ok (.ior, 1) := by decide +kernel
theorem dX6_formsOf_24 : decode cX6_formsOf 24 = .ok (.istore_n 1, 1) := by decide +kernel
theorem dX6_formsOf_25 : decode cX6_formsOf 25 = .ok (.iinc 2 1, 3) := by decide +kernel
theorem dX6_formsOf_28 : decode cX6_formsOf 28 = .ok (.goto (-24), 3) := by decide +kernel
theorem dX6_formsOf_31 : decode cX6_formsOf 31 = .ok (.iload_n 1, 1) := by decide +kernel
theorem dX6_formsOf_32 : decode cX6_formsOf 32 = .ok (.ireturn, 1) := by decide +kernel
theorem dX6_choose_0 : decode cX6_choose 0 = .ok (.aload_n 1, 1) := by decide +kernel
theorem dX6_choose_1 : decode cX6_choose 1 = .ok (.invokestatic 32, 3) := by decide +kernel
theorem dX6_choose_4 : decode cX6_choose 4 = .ok (.istore_n 3, 1) := by decide +kernel
theorem dX6_choose_5 : decode cX6_choose 5 = .ok (.iload_n 2, 1) := by decide +kernel
theorem dX6_choose_6 : decode cX6_choose 6 = .ok (.istore 4, 2) := by decide +kernel
theorem dX6_choose_8 : decode cX6_choose 8 = .ok (.aload_n 1, 1) := by decide +kernel
theorem dX6_choose_9 : decode cX6_choose 9 = .ok (.iconst 1, 1) := by decide +kernel
theorem dX6_choose_10 : decode cX6_choose 10 = .ok (.invokevirtual 22, 3) := by decide +kernel
theorem dX6_choose_13 : decode cX6_choose 13 = .ok (.iconst 1, 1) := by decide +kernel
theorem dX6_choose_14 : decode cX6_choose 14 = .ok (.isub, 1) := by decide +kernel
theorem dX6_choose_15 : decode cX6_choose 15 = .ok (.istore 5, 2) := by decide +kernel
theorem dX6_choose_17 : decode cX6_choose 17 = .ok (.iload 5, 2) := by decide +kernel
theorem dX6_choose_19 : decode cX6_choose 19 = .ok (.ifCond .lt 48, 3) := by decide +kernel
theorem dX6_choose_22 : decode cX6_choose 22 = .ok (.iload_n 2, 1) := by decide +kernel
theorem dX6_choose_23 : decode cX6_choose 23 = .ok (.ifCond .lt 15, 3) := by decide +kernel
theorem dX6_choose_26 : decode cX6_choose 26 = .ok (.iload_n 3, 1) := by decide +kernel
theorem dX6_choose_27 : decode cX6_choose 27 = .ok (.iload 4, 2) := by decide +kernel
theorem dX6_choose_29 : decode cX6_choose 29 = .ok (.bipush 10, 2) := by decide +kernel
theorem dX6_choose_31 : decode cX6_choose 31 = .ok (.irem, 1) := by decide +kernel
theorem dX6_choose_32 : decode cX6_choose 32 = .ok (.invokestatic 36, 3) := by decide +kernel
theorem dX6_choose_35 : decode cX6_choose 35 = .ok (.ifCond .ne 5, 3) := by decide +kernel
theorem dX6_choose_38 : decode cX6_choose 38 = .ok (.iconst 0, 1) := by decide +kernel
theorem dX6_choose_39 : decode cX6_choose 39 = .ok (.ireturn, 1) := by decide +kernel
theorem dX6_choose_40 : decode cX6_choose 40 = .ok (.aload_n 0, 1) := by decide +kernel
theorem dX6_choose_41 : decode cX6_choose 41 = .ok (.getfield 9, 3) := by decide +kernel
theorem dX6_choose_44 : decode cX6_choose 44 = .ok (.iload 5, 2) := by decide +kernel
theorem dX6_choose_46 : decode cX6_choose 46 = .ok (.iload 4, 2) := by decide +kernel
theorem dX6_choose_48 : decode cX6_choose 48 = .ok (.bipush 10, 2) := by decide +kernel
theorem dX6_choose_50 : decode cX6_choose 50 = .ok (.irem, 1) := by decide +kernel
theorem dX6_choose_51 : decode cX6_choose 51 = .ok (.invokestatic 40, 3) := by decide +kernel
theorem dX6_choose_54 : decode cX6_choose 54 = .ok (.iload 4, 2) := by decide +kernel
theorem dX6_choose_56 : decode cX6_choose 56 = .ok (.bipush 10, 2) := by decide +kernel
theorem dX6_choose_58 : decode cX6_choose 58 = .ok (.idiv, 1) := by decide +kernel
theorem dX6_choose_59 : decode cX6_choose 59 = .ok (.istore 4, 2) := by decide +kernel
theorem dX6_choose_61 : decode cX6_choose 61 = .ok (.iinc 5 (-1), 3) := by decide +kernel
theorem dX6_choose_64 : decode cX6_choose 64 = .ok (.goto (-47), 3) := by decide +kernel
theorem dX6_choose_67 : decode cX6_choose 67 = .ok (.iload 4, 2) := by decide +kernel
theorem dX6_choose_69 : decode cX6_choose 69 = .ok (.ifCond .ne 7, 3) := by decide +kernel
theorem dX6_choose_72 : decode cX6_choose 72 = .ok (.iconst 1, 1) := by decide +kernel
theorem dX6_choose_73 : decode cX6_choose 73 = .ok (.goto 4, 3) := by decide +kernel
theorem dX6_choose_76 : decode cX6_choose 76 = .ok (.iconst 0, 1) := by decide +kernel
theorem dX6_choose_77 : decode cX6_choose 77 = .ok (.ireturn, 1) := by decide +kernel
theorem dX6_findRests_0 : decode cX6_findRests 0 = .ok (.aload_n 0, 1) := by decide +kernel
theorem dX6_findRests_1 : decode cX6_findRests 1 = .ok (.getfield 18, 3) := by decide +kernel
theorem dX6_findRests_4 : decode cX6_findRests 4 = .ok (.ifCond .eq 8, 3) := by decide +kernel
theorem dX6_findRests_7 : decode cX6_findRests 7 = .ok (.aload_n 0, 1) := by decide +kernel
theorem dX6_findRests_8 : decode cX6_findRests 8 = .ok (.getfield 44, 3) := by decide +kernel
theorem dX6_findRests_11 : decode cX6_findRests 11 = .ok (.ireturn, 1) := by decide +kernel
theorem dX6_findRests_12 : decode cX6_findRests 12 = .ok (.aload_n 0, 1) := by decide +kernel
theorem dX6_findRests_13 : decode cX6_findRests 13 = .ok (.getfield 47, 3) := by decide +kernel
theorem dX6_findRests_16 : decode cX6_findRests 16 = .ok (.ifnonnull 12, 3) := by decide +kernel
theorem dX6_findRests_19 : decode cX6_findRests 19 = .ok (.aload_n 0, 1) := by decide +kernel
theorem dX6_findRests_20 : decode cX6_findRests 20 = .ok (.sipush 3125, 3) := by decide +kernel
theorem dX6_findRests_23 : decode cX6_findRests 23 = .ok (.newarray .int, 2) := by decide +kernel
theorem dX6_findRests_25 : decode cX6_findRests 25 = .ok (.putfield 47, 3) := by decide +kernel
theorem dX6_findRests_28 : decode cX6_findRests 28 = .ok (.aload_n 0, 1) := by decide +kernel
theorem dX6_findRests_29 : decode cX6_findRests 29 = .ok (.aload_n 1, 1) := by decide +kernel
theorem dX6_findRests_30 : decode cX6_findRests 30 = .ok (.invokevirtual 50, 3) := by decide +kernel
theorem dX6_findRests_33 : decode cX6_findRests 33 = .ok (.aload_n 0, 1) := by decide +kernel
theorem dX6_findRests_34 : decode cX6_findRests 34 = .ok (.iconst 0, 1) := by decide +kernel
theorem dX6_findRests_35 : decode cX6_findRests 35 = .ok (.putfield 44, 3) := by decide +kernel
theorem dX6_findRests_38 : decode cX6_findRests 38 = .ok (.iconst 1, 1) := by decide +kernel
theorem dX6_findRests_39 : decode cX6_findRests 39 = .ok (.istore_n 2, 1) := by decide +kernel
theorem dX6_findRests_40 : decode cX6_findRests 40 = .ok (.iconst 0, 1) := by decide +kernel
theorem dX6_findRests_41 : decode cX6_findRests 41 = .ok (.istore_n 3, 1) := by decide +kernel
theorem dX6_findRests_42 : decode cX6_findRests 42 = .ok (.iload_n 3, 1) := by decide +kernel
theorem dX6_findRests_43 : decode cX6_findRests 43 = .ok (.aload_n 1, 1) := by decide +kernel
theorem dX6_findRests_44 : decode cX6_findRests 44 = .ok (.iconst 1, 1) := by decide +kernel
theorem dX6_findRests_45 : decode cX6_findRests 45 = .ok (.invokevirtual 22, 3) := by decide +kernel
theorem dX6_findRests_48 : decode cX6_findRests 48 = .ok (.if_icmp .ge 16, 3) := by decide +kernel
theorem dX6_findRests_51 : decode cX6_findRests 51 = .ok (.iload_n 2, 1) := by decide +kernel
theorem dX6_findRests_52 : decode cX6_findRests 52 = .ok (.aload_n 0, 1) := by decide +kernel
theorem dX6_findRests_53 : decode cX6_findRests 53 = .ok (.getfield 54, 3) := by decide +kernel
theorem dX6_findRests_56 : decode cX6_findRests 56 = .ok (.imul, 1) := by decide +kernel
theorem dX6_findRests_57 : decode cX6_findRests 57 = .ok (.istore_n 2, 1) := by decide +kernel
theorem dX6_findRests_58 : decode cX6_findRests 58 = .ok (.iinc 3 1, 3) := by decide +kernel
theorem dX6_findRests_61 : decode cX6_findRests 61 = .ok (.goto (-19), 3) := by decide +kernel
theorem dX6_findRests_64 : decode cX6_findRests 64 = .ok (.iconst 0, 1) := by decide +kernel
theorem dX6_findRests_65 : decode cX6_findRests 65 = .ok (.istore_n 3, 1) := by decide +kernel
theorem dX6_findRests_66 : decode cX6_findRests 66 = .ok (.iload_n 3, 1) := by decide +kernel
theorem dX6_findRests_67 : decode cX6_findRests 67 = .ok (.iload_n 2, 1) := by decide +kernel
theorem dX6_findRests_68 : decode cX6_findRests 68 = .ok (.if_icmp .ge 48, 3) := by decide +kernel
theorem dX6_findRests_71 : decode cX6_findRests 71 = .ok (.aload_n 0, 1) := by decide +kernel
theorem dX6_findRests_72 : decode cX6_findRests 72 = .ok (.aload_n 1, 1) := by decide +kernel
theorem dX6_findRests_73 : decode cX6_findRests 73 = .ok (.iload_n 3, 1) := by decide +kernel
theorem dX6_findRests_74 : decode cX6_findRests 74 = .ok (.invokevirtual 57, 3) := by decide +kernel
theorem dX6_findRests_77 : decode cX6_findRests 77 = .ok (.istore 4, 2) := by decide +kernel
theorem dX6_findRests_79 : decode cX6_findRests 79 = .ok (.aload_n 0, 1) := by decide +kernel
theorem dX6_findRests_80 : decode cX6_findRests 80 = .ok (.aload_n 1, 1) := by decide +kernel
theorem dX6_findRests_81 : decode cX6_findRests 81 = .ok (.invokevirtual 61, 3) := by decide +kernel
theorem dX6_findRests_84 : decode cX6_findRests 84 = .ok (.ifCond .eq 26, 3) := by decide +kernel
theorem dX6_findRests_87 : decode cX6_findRests 87 = .ok (.aload_n 0, 1) := by decide +kernel
theorem dX6_findRests_88 : decode cX6_findRests 88 = .ok (.getfield 47, 3) := by decide +kernel
theorem dX6_findRests_91 : decode cX6_findRests 91 = .ok (.aload_n 0, 1) := by decide +kernel
theorem dX6_findRests_92 : decode cX6_findRests 92 = .ok (.getfield 44, 3) := by decide +kernel
theorem dX6_findRests_95 : decode cX6_findRests 95 = .ok (.iload 4, 2) := by decide +kernel
theorem dX6_findRests_97 : decode cX6_findRests 97 = .ok (.invokestatic 40, 3) := by decide +kernel
theorem dX6_findRests_100 : decode cX6_findRests 100 = .ok (.aload_n 0, 1) := by decide +kernel
theorem dX6_findRests_101 : decode cX6_findRests 101 = .ok (.dup, 1) := by decide +kernel
theorem dX6_findRests_102 : decode cX6_findRests 102 = .ok (.getfield 44, 3) := by decide +kernel
theorem dX6_findRests_105 : decode cX6_findRests 105 = .ok (.iconst 1, 1) := by decide +kernel
theorem dX6_findRests_106 : decode cX6_findRests 106 = .ok (.iadd, 1) := by decide +kernel
theorem dX6_findRests_107 : decode cX6_findRests 107 = .ok (.putfield 44, 3) := by decide +kernel
theorem dX6_findRests_110 : decode cX6_findRests 110 = .ok (.iinc 3 1, 3) := by decide +kernel
theorem dX6_findRests_113 : decode cX6_findRests 113 = .ok (.goto (-47), 3) := by decide +kernel
theorem dX6_findRests_116 : decode cX6_findRests 116 = .ok (.aload_n 0, 1) := by decide +kernel
theorem dX6_findRests_117 : decode cX6_findRests 117 = .ok (.iconst 1, 1) := by decide +kernel
theorem dX6_findRests_118 : decode cX6_findRests 118 = .ok (.putfield 18, 3) := by decide +kernel
theorem dX6_findRests_121 : decode cX6_findRests 121 = .ok (.aload_n 0, 1) := by decide +kernel
theorem dX6_findRests_122 : decode cX6_findRests 122 = .ok (.getfield 44, 3) := by decide +kernel
theorem dX6_findRests_125 : decode cX6_findRests 125 = .ok (.ireturn, 1) := by decide +kernel
theorem dX6_rest_0 : decode cX6_rest 0 = .ok (.aload_n 0, 1) := by decide +kernel
theorem dX6_rest_1 : decode cX6_rest 1 = .ok (.getfield 47, 3) := by decide +kernel
theorem dX6_rest_4 : decode cX6_rest 4 = .ok (.ifnull 33, 3) := by decide +kernel
theorem dX6_rest_7 : decode cX6_rest 7 = .ok (.aload_n 0, 1) := by decide +kernel
theorem dX6_rest_8 : decode cX6_rest 8 = .ok (.getfield 18, 3) := by decide +kernel
theorem dX6_rest_11 : decode cX6_rest 11 = .ok (.ifCond .eq 26, 3) := by decide +kernel
theorem dX6_rest_14 : decode cX6_rest 14 = .ok (.iload_n 1, 1) := by decide +kernel
theorem dX6_rest_15 : decode cX6_rest 15 = .ok (.ifCond .lt 22, 3) := by decide +kernel
theorem dX6_rest_18 : decode cX6_rest 18 = .ok (.iload_n 1, 1) := by decide +kernel
theorem dX6_rest_19 : decode cX6_rest 19 = .ok (.aload_n 0, 1) := by decide +kernel
theorem dX6_rest_20 : decode cX6_rest 20 = .ok (.getfield 44, 3) := by decide +kernel
theorem dX6_rest_23 : decode cX6_rest 23 = .ok (.if_icmp .ge 14, 3) := by decide +kernel
theorem dX6_rest_26 : decode cX6_rest 26 = .ok (.aload_n 0, 1) := by decide +kernel
theorem dX6_rest_27 : decode cX6_rest 27 = .ok (.getfield 47, 3) := by decide +kernel
theorem dX6_rest_30 : decode cX6_rest 30 = .ok (.iload_n 1, 1) := by decide +kernel
theorem dX6_rest_31 : decode cX6_rest 31 = .ok (.invokestatic 65, 3) := by decide +kernel
theorem dX6_rest_34 : decode cX6_rest 34 = .ok (.goto 4, 3) := by decide +kernel
theorem dX6_rest_37 : decode cX6_rest 37 = .ok (.iconst (-1), 1) := by decide +kernel
theorem dX6_rest_38 : decode cX6_rest 38 = .ok (.ireturn, 1) := by decide +kernel
theorem dX6_listForms_0 : decode cX6_listForms 0 = .ok (.aload_n 1, 1) := by decide +kernel
theorem dX6_listForms_1 : decode cX6_listForms 1 = .ok (.invokestatic 32, 3) := by decide +kernel
theorem dX6_listForms_4 : decode cX6_listForms 4 = .ok (.istore_n 2, 1) := by decide +kernel
theorem dX6_listForms_5 : decode cX6_listForms 5 = .ok (.aload_n 0, 1) := by decide +kernel
theorem dX6_listForms_6 : decode cX6_listForms 6 = .ok (.iconst 0, 1) := by decide +kernel
theorem dX6_listForms_7 : decode cX6_listForms 7 = .ok (.putfield 54, 3) := by decide +kernel
theorem dX6_listForms_10 : decode cX6_listForms 10 = .ok (.iconst 0, 1) := by decide +kernel
theorem dX6_listForms_11 : decode cX6_listForms 11 = .ok (.istore_n 3, 1) := by decide +kernel
theorem dX6_listForms_12 : decode cX6_listForms 12 = .ok (.iload_n 3, 1) := by decide +kernel
theorem dX6_listForms_13 : decode cX6_listForms 13 = .ok (.bipush 8, 2) := by decide +kernel
theorem dX6_listForms_15 : decode cX6_listForms 15 = .ok (.if_icmp .ge 39, 3) := by decide +kernel
theorem dX6_listForms_18 : decode cX6_listForms 18 = .ok (.iload_n 2, 1) := by decide +kernel
theorem dX6_listForms_19 : decode cX6_listForms 19 = .ok (.iload_n 3, 1) := by decide +kernel
theorem dX6_listForms_20 : decode cX6_listForms 20 = .ok (.invokestatic 36, 3) := by decide +kernel
theorem dX6_listForms_23 : decode cX6_listForms 23 = .ok (.ifCond .eq 25, 3) := by decide +kernel
theorem dX6_listForms_26 : decode cX6_listForms 26 = .ok (.aload_n 0, 1) := by decide +kernel
theorem dX6_listForms_27 : decode cX6_listForms 27 = .ok (.getfield 15, 3) := by decide +kernel
theorem dX6_listForms_30 : decode cX6_listForms 30 = .ok (.aload_n 0, 1) := by decide +kernel
theorem dX6_listForms_31 : decode cX6_listForms 31 = .ok (.getfield 54, 3) := by decide +kernel
theorem dX6_listForms_34 : decode cX6_listForms 34 = .ok (.iload_n 3, 1) := by decide +kernel
theorem dX6_listForms_35 : decode cX6_listForms 35 = .ok (.invokestatic 40, 3) := by decide +kernel
theorem dX6_listForms_38 : decode cX6_listForms 38 = .ok (.aload_n 0, 1) := by decide +kernel
theorem dX6_listForms_39 : decode cX6_listForms 39 = .ok (.dup, 1) := by decide +kernel
theorem dX6_listForms_40 : decode cX6_listForms 40 = .ok (.getfield 54, 3) := by decide +kernel
theorem dX6_listForms_43 : decode cX6_listForms 43 = .ok (.iconst 1, 1) := by decide +kernel
theorem dX6_listForms_44 : decode cX6_listForms 44 = .ok (.iadd, 1) := by decide +kernel
theorem dX6_listForms_45 : decode cX6_listForms 45 = .ok (.putfield 54, 3) := by decide +kernel
theorem dX6_listForms_48 : decode cX6_listForms 48 = .ok (.iinc 3 1, 3) := by decide +kernel
theorem dX6_listForms_51 : decode cX6_listForms 51 = .ok (.goto (-39), 3) := by decide +kernel
theorem dX6_listForms_54 : decode cX6_listForms 54 = .ok (.return_, 1) := by decide +kernel
theorem dX6_chooseNth_0 : decode cX6_chooseNth 0 = .ok (.iconst 0, 1) := by decide +kernel
theorem dX6_chooseNth_1 : decode cX6_chooseNth 1 = .ok (.istore_n 3, 1) := by decide +kernel
theorem dX6_chooseNth_2 : decode cX6_chooseNth 2 = .ok (.iconst 1, 1) := by decide +kernel
theorem dX6_chooseNth_3 : decode cX6_chooseNth 3 = .ok (.istore 4, 2) := by decide +kernel
theorem dX6_chooseNth_5 : decode cX6_chooseNth 5 = .ok (.iload_n 2, 1) := by decide +kernel
theorem dX6_chooseNth_6 : decode cX6_chooseNth 6 = .ok (.istore 5, 2) := by decide +kernel
theorem dX6_chooseNth_8 : decode cX6_chooseNth 8 = .ok (.aload_n 1, 1) := by decide +kernel
theorem dX6_chooseNth_9 : decode cX6_chooseNth 9 = .ok (.iconst 1, 1) := by decide +kernel
theorem dX6_chooseNth_10 : decode cX6_chooseNth 10 = .ok (.invokevirtual 22, 3) := by decide +kernel
theorem dX6_chooseNth_13 : decode cX6_chooseNth 13 = .ok (.iconst 1, 1) := by decide +kernel
theorem dX6_chooseNth_14 : decode cX6_chooseNth 14 = .ok (.isub, 1) := by decide +kernel
theorem dX6_chooseNth_15 : decode cX6_chooseNth 15 = .ok (.istore 6, 2) := by decide +kernel
theorem dX6_chooseNth_17 : decode cX6_chooseNth 17 = .ok (.iload 6, 2) := by decide +kernel
theorem dX6_chooseNth_19 : decode cX6_chooseNth 19 = .ok (.ifCond .lt 70, 3) := by decide +kernel
theorem dX6_chooseNth_22 : decode cX6_chooseNth 22 = .ok (.aload_n 0, 1) := by decide +kernel
theorem dX6_chooseNth_23 : decode cX6_chooseNth 23 = .ok (.getfield 54, 3) := by decide +kernel
theorem dX6_chooseNth_26 : decode cX6_chooseNth 26 = .ok (.ifCond .le 63, 3) := by decide +kernel
theorem dX6_chooseNth_29 : decode cX6_chooseNth 29 = .ok (.aload_n 0, 1) := by decide +kernel
theorem dX6_chooseNth_30 : decode cX6_chooseNth 30 = .ok (.getfield 9, 3) := by decide +kernel
theorem dX6_chooseNth_33 : decode cX6_chooseNth 33 = .ok (.iload 6, 2) := by decide +kernel
theorem dX6_chooseNth_35 : decode cX6_chooseNth 35 = .ok (.aload_n 0, 1) := by decide +kernel
theorem dX6_chooseNth_36 : decode cX6_chooseNth 36 = .ok (.getfield 15, 3) := by decide +kernel
theorem dX6_chooseNth_39 : decode cX6_chooseNth 39 = .ok (.iload 5, 2) := by decide +kernel
theorem dX6_chooseNth_41 : decode cX6_chooseNth 41 = .ok (.aload_n 0, 1) := by decide +kernel
theorem dX6_chooseNth_42 : decode cX6_chooseNth 42 = .ok (.getfield 54, 3) := by decide +kernel
theorem dX6_chooseNth_45 : decode cX6_chooseNth 45 = .ok (.irem, 1) := by decide +kernel
theorem dX6_chooseNth_46 : decode cX6_chooseNth 46 = .ok (.invokestatic 65, 3) := by decide +kernel
theorem dX6_chooseNth_49 : decode cX6_chooseNth 49 = .ok (.invokestatic 40, 3) := by decide +kernel
theorem dX6_chooseNth_52 : decode cX6_chooseNth 52 = .ok (.iload_n 3, 1) := by decide +kernel
theorem dX6_chooseNth_53 : decode cX6_chooseNth 53 = .ok (.aload_n 0, 1) := by decide +kernel
theorem dX6_chooseNth_54 : decode cX6_chooseNth 54 = .ok (.getfield 9, 3) := by decide +kernel
theorem dX6_chooseNth_57 : decode cX6_chooseNth 57 = .ok (.iload 6, 2) := by decide +kernel
theorem dX6_chooseNth_59 : decode cX6_chooseNth 59 = .ok (.invokestatic 65, 3) := by decide +kernel
theorem dX6_chooseNth_62 : decode cX6_chooseNth 62 = .ok (.iload 4, 2) := by decide +kernel
theorem dX6_chooseNth_64 : decode cX6_chooseNth 64 = .ok (.imul, 1) := by decide +kernel
theorem dX6_chooseNth_65 : decode cX6_chooseNth 65 = .ok (.iadd, 1) := by decide +kernel
theorem dX6_chooseNth_66 : decode cX6_chooseNth 66 = .ok (.istore_n 3, 1) := by decide +kernel
theorem dX6_chooseNth_67 : decode cX6_chooseNth 67 = .ok (.iload 4, 2) := by decide +kernel
theorem dX6_chooseNth_69 : decode cX6_chooseNth 69 = .ok (.bipush 10, 2) := by decide +kernel
theorem dX6_chooseNth_71 : decode cX6_chooseNth 71 = .ok (.imul, 1) := by decide +kernel
theorem dX6_chooseNth_72 : decode cX6_chooseNth 72 = .ok (.istore 4, 2) := by decide +kernel
theorem dX6_chooseNth_74 : decode cX6_chooseNth 74 = .ok (.iload 5, 2) := by decide +kernel
theorem dX6_chooseNth_76 : decode cX6_chooseNth 76 = .ok (.aload_n 0, 1) := by decide +kernel
theorem dX6_chooseNth_77 : decode cX6_chooseNth 77 = .ok (.getfield 54, 3) := by decide +kernel
theorem dX6_chooseNth_80 : decode cX6_chooseNth 80 = .ok (.idiv, 1) := by decide +kernel
theorem dX6_chooseNth_81 : decode cX6_chooseNth 81 = .ok (.istore 5, 2) := by decide +kernel
theorem dX6_chooseNth_83 : decode cX6_chooseNth 83 = .ok (.iinc 6 (-1), 3) := by decide +kernel
theorem dX6_chooseNth_86 : decode cX6_chooseNth 86 = .ok (.goto (-69), 3) := by decide +kernel
theorem dX6_chooseNth_89 : decode cX6_chooseNth 89 = .ok (.iload_n 3, 1) := by decide +kernel
theorem dX6_chooseNth_90 : decode cX6_chooseNth 90 = .ok (.ireturn, 1) := by decide +kernel
theorem dX6_isAtRest_0 : decode cX6_isAtRest 0 = .ok (.iconst 0, 1) := by decide +kernel
theorem dX6_isAtRest_1 : decode cX6_isAtRest 1 = .ok (.istore_n 2, 1) := by decide +kernel
theorem dX6_isAtRest_2 : decode cX6_isAtRest 2 = .ok (.iload_n 2, 1) := by decide +kernel
theorem dX6_isAtRest_3 : decode cX6_isAtRest 3 = .ok (.aload_n 1, 1) := by decide +kernel
theorem dX6_isAtRest_4 : decode cX6_isAtRest 4 = .ok (.iconst 1, 1) := by decide +kernel
theorem dX6_isAtRest_5 : decode cX6_isAtRest 5 = .ok (.invokevirtual 22, 3) := by decide +kernel
theorem dX6_isAtRest_8 : decode cX6_isAtRest 8 = .ok (.if_icmp .ge 109, 3) := by decide +kernel
theorem dX6_isAtRest_11 : decode cX6_isAtRest 11 = .ok (.aload_n 0, 1) := by decide +kernel
theorem dX6_isAtRest_12 : decode cX6_isAtRest 12 = .ok (.getfield 9, 3) := by decide +kernel
theorem dX6_isAtRest_15 : decode cX6_isAtRest 15 = .ok (.iload_n 2, 1) := by decide +kernel
theorem dX6_isAtRest_16 : decode cX6_isAtRest 16 = .ok (.invokestatic 65, 3) := by decide +kernel
theorem dX6_isAtRest_19 : decode cX6_isAtRest 19 = .ok (.istore_n 3, 1) := by decide +kernel
theorem dX6_isAtRest_20 : decode cX6_isAtRest 20 = .ok (.aload_n 1, 1) := by decide +kernel
theorem dX6_isAtRest_21 : decode cX6_isAtRest 21 = .ok (.aload_n 0, 1) := by decide +kernel
theorem dX6_isAtRest_22 : decode cX6_isAtRest 22 = .ok (.getfield 9, 3) := by decide +kernel
theorem dX6_isAtRest_25 : decode cX6_isAtRest 25 = .ok (.iload_n 2, 1) := by decide +kernel
theorem dX6_isAtRest_26 : decode cX6_isAtRest 26 = .ok (.invokevirtual 69, 3) := by decide +kernel
theorem dX6_isAtRest_29 : decode cX6_isAtRest 29 = .ok (.istore 4, 2) := by decide +kernel
theorem dX6_isAtRest_31 : decode cX6_isAtRest 31 = .ok (.iconst 0, 1) := by decide +kernel
theorem dX6_isAtRest_32 : decode cX6_isAtRest 32 = .ok (.istore 5, 2) := by decide +kernel
theorem dX6_isAtRest_34 : decode cX6_isAtRest 34 = .ok (.iconst 0, 1) := by decide +kernel
theorem dX6_isAtRest_35 : decode cX6_isAtRest 35 = .ok (.istore 6, 2) := by decide +kernel
theorem dX6_isAtRest_37 : decode cX6_isAtRest 37 = .ok (.iload 6, 2) := by decide +kernel
theorem dX6_isAtRest_39 : decode cX6_isAtRest 39 = .ok (.aload_n 0, 1) := by decide +kernel
theorem dX6_isAtRest_40 : decode cX6_isAtRest 40 = .ok (.getfield 54, 3) := by decide +kernel
theorem dX6_isAtRest_43 : decode cX6_isAtRest 43 = .ok (.if_icmp .ge 52, 3) := by decide +kernel
theorem dX6_isAtRest_46 : decode cX6_isAtRest 46 = .ok (.iload 5, 2) := by decide +kernel
theorem dX6_isAtRest_48 : decode cX6_isAtRest 48 = .ok (.ifCond .ne 47, 3) := by decide +kernel
theorem dX6_isAtRest_51 : decode cX6_isAtRest 51 = .ok (.aload_n 0, 1) := by decide +kernel
theorem dX6_isAtRest_52 : decode cX6_isAtRest 52 = .ok (.getfield 9, 3) := by decide +kernel
theorem dX6_isAtRest_55 : decode cX6_isAtRest 55 = .ok (.iload_n 2, 1) := by decide +kernel
theorem dX6_isAtRest_56 : decode cX6_isAtRest 56 = .ok (.aload_n 0, 1) := by decide +kernel
theorem dX6_isAtRest_57 : decode cX6_isAtRest 57 = .ok (.getfield 15, 3) := by decide +kernel
theorem dX6_isAtRest_60 : decode cX6_isAtRest 60 = .ok (.iload 6, 2) := by decide +kernel
theorem dX6_isAtRest_62 : decode cX6_isAtRest 62 = .ok (.invokestatic 65, 3) := by decide +kernel
theorem dX6_isAtRest_65 : decode cX6_isAtRest 65 = .ok (.invokestatic 40, 3) := by decide +kernel
theorem dX6_isAtRest_68 : decode cX6_isAtRest 68 = .ok (.aload_n 1, 1) := by decide +kernel
theorem dX6_isAtRest_69 : decode cX6_isAtRest 69 = .ok (.aload_n 0, 1) := by decide +kernel
theorem dX6_isAtRest_70 : decode cX6_isAtRest 70 = .ok (.getfield 9, 3) := by decide +kernel
theorem dX6_isAtRest_73 : decode cX6_isAtRest 73 = .ok (.iload_n 2, 1) := by decide +kernel
theorem dX6_isAtRest_74 : decode cX6_isAtRest 74 = .ok (.invokevirtual 69, 3) := by decide +kernel
theorem dX6_isAtRest_77 : decode cX6_isAtRest 77 = .ok (.iload 4, 2) := by decide +kernel
theorem dX6_isAtRest_79 : decode cX6_isAtRest 79 = .ok (.if_icmp .le 7, 3) := by decide +kernel
theorem dX6_isAtRest_82 : decode cX6_isAtRest 82 = .ok (.iconst 1, 1) := by decide +kernel
theorem dX6_isAtRest_83 : decode cX6_isAtRest 83 = .ok (.goto 4, 3) := by decide +kernel
theorem dX6_isAtRest_86 : decode cX6_isAtRest 86 = .ok (.iconst 0, 1) := by decide +kernel
theorem dX6_isAtRest_87 : decode cX6_isAtRest 87 = .ok (.istore 5, 2) := by decide +kernel
theorem dX6_isAtRest_89 : decode cX6_isAtRest 89 = .ok (.iinc 6 1, 3) := by decide +kernel
theorem dX6_isAtRest_92 : decode cX6_isAtRest 92 = .ok (.goto (-55), 3) := by decide +kernel
theorem dX6_isAtRest_95 : decode cX6_isAtRest 95 = .ok (.aload_n 0, 1) := by decide +kernel
theorem dX6_isAtRest_96 : decode cX6_isAtRest 96 = .ok (.getfield 9, 3) := by decide +kernel
theorem dX6_isAtRest_99 : decode cX6_isAtRest 99 = .ok (.iload_n 2, 1) := by decide +kernel
theorem dX6_isAtRest_100 : decode cX6_isAtRest 100 = .ok (.iload_n 3, 1) := by decide +kernel
theorem dX6_isAtRest_101 : decode cX6_isAtRest 101 = .ok (.invokestatic 40, 3) := by decide +kernel
theorem dX6_isAtRest_104 : decode cX6_isAtRest 104 = .ok (.iload 5, 2) := by decide +kernel
theorem dX6_isAtRest_106 : decode cX6_isAtRest 106 = .ok (.ifCond .eq 5, 3) := by decide +kernel
theorem dX6_isAtRest_109 : decode cX6_isAtRest 109 = .ok (.iconst 0, 1) := by decide +kernel
theorem dX6_isAtRest_110 : decode cX6_isAtRest 110 = .ok (.ireturn, 1) := by decide +kernel
theorem dX6_isAtRest_111 : decode cX6_isAtRest 111 = .ok (.iinc 2 1, 3) := by decide +kernel
theorem dX6_isAtRest_114 : decode cX6_isAtRest 114 = .ok (.goto (-112), 3) := by decide +kernel
theorem dX6_isAtRest_117 : decode cX6_isAtRest 117 = .ok (.iconst 1, 1) := by decide +kernel
theorem dX6_isAtRest_118 : decode cX6_isAtRest 118 = .ok (.ireturn, 1) := by decide +kernel
theorem dX7_init_0 : decode cX7_init 0 = .ok (.aload_n 0, 1) := by decide +kernel
theorem dX7_init_1 : decode cX7_init 1 = .ok (.invokespecial 3, 3) := by decide +kernel
theorem dX7_init_4 : decode cX7_init 4 = .ok (.aload_n 0, 1) := by decide +kernel
theorem dX7_init_5 : decode cX7_init 5 = .ok (.bipush 12, 2) := by decide +kernel
theorem dX7_init_7 : decode cX7_init 7 = .ok (.newarray .int, 2) := by decide +kernel
theorem dX7_init_9 : decode cX7_init 9 = .ok (.putfield 9, 3) := by decide +kernel
theorem dX7_init_12 : decode cX7_init 12 = .ok (.aload_n 0, 1) := by decide +kernel
theorem dX7_init_13 : decode cX7_init 13 = .ok (.bipush 12, 2) := by decide +kernel
theorem dX7_init_15 : decode cX7_init 15 = .ok (.newarray .int, 2) := by decide +kernel
theorem dX7_init_17 : decode cX7_init 17 = .ok (.putfield 15, 3) := by decide +kernel
theorem dX7_init_20 : decode cX7_init 20 = .ok (.aload_n 0, 1) := by decide +kernel
theorem dX7_init_21 : decode cX7_init 21 = .ok (.bipush 6, 2) := by decide +kernel
theorem dX7_init_23 : decode cX7_init 23 = .ok (.newarray .int, 2) := by decide +kernel
theorem dX7_init_25 : decode cX7_init 25 = .ok (.putfield 18, 3) := by decide +kernel
theorem dX7_init_28 : decode cX7_init 28 = .ok (.return_, 1) := by decide +kernel
theorem dX7_forget_0 : decode cX7_forget 0 = .ok (.aload_n 0, 1) := by decide +kernel
theorem dX7_forget_1 : decode cX7_forget 1 = .ok (.iconst 0, 1) := by decide +kernel
theorem dX7_forget_2 : decode cX7_forget 2 = .ok (.putfield 21, 3) := by decide +kernel
theorem dX7_forget_5 : decode cX7_forget 5 = .ok (.return_, 1) := by decide +kernel
theorem dX7_add_0 : decode cX7_add 0 = .ok (.aload_n 0, 1) := by decide +kernel
theorem dX7_add_1 : decode cX7_add 1 = .ok (.getfield 21, 3) := by decide +kernel
theorem dX7_add_4 : decode cX7_add 4 = .ok (.bipush 12, 2) := by decide +kernel
theorem dX7_add_6 : decode cX7_add 6 = .ok (.if_icmp .lt 5, 3) := by decide +kernel
theorem dX7_add_9 : decode cX7_add 9 = .ok (.iconst (-1), 1) := by decide +kernel
theorem dX7_add_10 : decode cX7_add 10 = .ok (.ireturn, 1) := by decide +kernel
theorem dX7_add_11 : decode cX7_add 11 = .ok (.aload_n 0, 1) := by decide +kernel
theorem dX7_add_12 : decode cX7_add 12 = .ok (.getfield 9, 3) := by decide +kernel
theorem dX7_add_15 : decode cX7_add 15 = .ok (.aload_n 0, 1) := by decide +kernel
theorem dX7_add_16 : decode cX7_add 16 = .ok (.getfield 21, 3) := by decide +kernel
theorem dX7_add_19 : decode cX7_add 19 = .ok (.iload_n 1, 1) := by decide +kernel
theorem dX7_add_20 : decode cX7_add 20 = .ok (.invokestatic 25, 3) := by decide +kernel
theorem dX7_add_23 : decode cX7_add 23 = .ok (.aload_n 0, 1) := by decide +kernel
theorem dX7_add_24 : decode cX7_add 24 = .ok (.getfield 15, 3) := by decide +kernel
theorem dX7_add_27 : decode cX7_add 27 = .ok (.aload_n 0, 1) := by decide +kernel
theorem dX7_add_28 : decode cX7_add 28 = .ok (.getfield 21, 3) := by decide +kernel
theorem dX7_add_31 : decode cX7_add 31 = .ok (.iload_n 2, 1) := by decide +kernel
theorem dX7_add_32 : decode cX7_add 32 = .ok (.invokestatic 25, 3) := by decide +kernel
theorem dX7_add_35 : decode cX7_add 35 = .ok (.aload_n 0, 1) := by decide +kernel
theorem dX7_add_36 : decode cX7_add 36 = .ok (.dup, 1) := by decide +kernel
theorem dX7_add_37 : decode cX7_add 37 = .ok (.getfield 21, 3) := by decide +kernel
theorem dX7_add_40 : decode cX7_add 40 = .ok (.iconst 1, 1) := by decide +kernel
theorem dX7_add_41 : decode cX7_add 41 = .ok (.iadd, 1) := by decide +kernel
theorem dX7_add_42 : decode cX7_add 42 = .ok (.putfield 21, 3) := by decide +kernel
theorem dX7_add_45 : decode cX7_add 45 = .ok (.aload_n 0, 1) := by decide +kernel
theorem dX7_add_46 : decode cX7_add 46 = .ok (.getfield 21, 3) := by decide +kernel
theorem dX7_add_49 : decode cX7_add 49 = .ok (.ireturn, 1) := by decide +kernel
theorem dX7_falsehoods_0 : decode cX7_falsehoods 0 = .ok (.iconst 0, 1) := by decide +kernel
theorem dX7_falsehoods_1 : decode cX7_falsehoods 1 = .ok (.istore_n 3, 1) := by decide +kernel
theorem dX7_falsehoods_2 : decode cX7_falsehoods 2 = .ok (.iload_n 3, 1) := by decide +kernel
theorem dX7_falsehoods_3 : decode cX7_falsehoods 3 = .ok (.aload_n 1, 1) := by decide +kernel
theorem dX7_falsehoods_4 : decode cX7_falsehoods 4 = .ok (.iconst 1, 1) := by decide +kernel
theorem dX7_falsehoods_5 : decode cX7_falsehoods 5 = .ok (.invokevirtual 29, 3) := by decide +kernel
theorem dX7_falsehoods_8 : decode cX7_falsehoods 8 = .ok (.if_icmp .ge 36, 3) := by decide +kernel
theorem dX7_falsehoods_11 : decode cX7_falsehoods 11 = .ok (.aload_n 0, 1) := by decide +kernel
theorem dX7_falsehoods_12 : decode cX7_falsehoods 12 = .ok (.getfield 18, 3) := by decide +kernel
theorem dX7_falsehoods_15 : decode cX7_falsehoods 15 = .ok (.iload_n 3, 1) := by decide +kernel
theorem dX7_falsehoods_16 : decode cX7_falsehoods 16 = .ok (.iload_n 2, 1) := by decide +kernel
theorem dX7_falsehoods_17 : decode cX7_falsehoods 17 = .ok (.iload_n 3, 1) := by decide +kernel
theorem dX7_falsehoods_18 : decode cX7_falsehoods 18 = .ok (.invokestatic 34, 3) := by decide +kernel
theorem dX7_falsehoods_21 : decode cX7_falsehoods 21 = .ok (.ifCond .eq 13, 3) := by decide +kernel
theorem dX7_falsehoods_24 : decode cX7_falsehoods 24 = .ok (.aload_n 1, 1) := by decide +kernel
theorem dX7_falsehoods_25 : decode cX7_falsehoods 25 = .ok (.iconst 1, 1) := by decide +kernel
theorem dX7_falsehoods_26 : decode cX7_falsehoods 26 = .ok (.iload_n 3, 1) := by decide +kernel
theorem dX7_falsehoods_27 : decode cX7_falsehoods 27 = .ok (.iconst 0, 1) := by decide +kernel
theorem dX7_falsehoods_28 : decode cX7_falsehoods 28 = .ok (.invokevirtual 38, 3) := by decide +kernel
theorem dX7_falsehoods_31 : decode cX7_falsehoods 31 = .ok (.goto 4, 3) := by decide +kernel
theorem dX7_falsehoods_34 : decode cX7_falsehoods 34 = .ok (.iconst (-1), 1) := by decide +kernel
theorem dX7_falsehoods_35 : decode cX7_falsehoods 35 = .ok (.invokestatic 25, 3) := by decide +kernel
theorem dX7_falsehoods_38 : decode cX7_falsehoods 38 = .ok (.iinc 3 1, 3) := by decide +kernel
theorem dX7_falsehoods_41 : decode cX7_falsehoods 41 = .ok (.goto (-39), 3) := by decide +kernel
theorem dX7_falsehoods_44 : decode cX7_falsehoods 44 = .ok (.iconst 0, 1) := by decide +kernel
theorem dX7_falsehoods_45 : decode cX7_falsehoods 45 = .ok (.istore_n 3, 1) := by decide +kernel
theorem dX7_falsehoods_46 : decode cX7_falsehoods 46 = .ok (.iconst 0, 1) := by decide +kernel
theorem dX7_falsehoods_47 : decode cX7_falsehoods 47 = .ok (.istore 4, 2) := by decide +kernel
theorem dX7_falsehoods_49 : decode cX7_falsehoods 49 = .ok (.iload 4, 2) := by decide +kernel
theorem dX7_falsehoods_51 : decode cX7_falsehoods 51 = .ok (.aload_n 0, 1) := by decide +kernel
theorem dX7_falsehoods_52 : decode cX7_falsehoods 52 = .ok (.getfield 21, 3) := by decide +kernel
theorem dX7_falsehoods_55 : decode cX7_falsehoods 55 = .ok (.if_icmp .ge 46, 3) := by decide +kernel
theorem dX7_falsehoods_58 : decode cX7_falsehoods 58 = .ok (.iload_n 3, 1) := by decide +kernel
theorem dX7_falsehoods_59 : decode cX7_falsehoods 59 = .ok (.aload_n 1, 1) := by decide +kernel
theorem dX7_falsehoods_60 : decode cX7_falsehoods 60 = .ok (.aload_n 0, 1) := by decide +kernel
theorem dX7_falsehoods_61 : decode cX7_falsehoods 61 = .ok (.getfield 18, 3) := by decide +kernel
theorem dX7_falsehoods_64 : decode cX7_falsehoods 64 = .ok (.aload_n 0, 1) := by decide +kernel
theorem dX7_falsehoods_65 : decode cX7_falsehoods 65 = .ok (.getfield 9, 3) := by decide +kernel
theorem dX7_falsehoods_68 : decode cX7_falsehoods 68 = .ok (.iload 4, 2) := by decide +kernel
theorem dX7_falsehoods_70 : decode cX7_falsehoods 70 = .ok (.invokestatic 42, 3) := by decide +kernel
theorem dX7_falsehoods_73 : decode cX7_falsehoods 73 = .ok (.invokevirtual 46, 3) := by decide +kernel
theorem dX7_falsehoods_76 : decode cX7_falsehoods 76 = .ok (.aload_n 0, 1) := by decide +kernel
theorem dX7_falsehoods_77 : decode cX7_falsehoods 77 = .ok (.getfield 15, 3) := by decide +kernel
theorem dX7_falsehoods_80 : decode cX7_falsehoods 80 = .ok (.iload 4, 2) := by decide +kernel
theorem dX7_falsehoods_82 : decode cX7_falsehoods 82 = .ok (.invokestatic 42, 3) := by decide +kernel
theorem dX7_falsehoods_85 : decode cX7_falsehoods 85 = .ok (.if_icmp .eq 7, 3) := by decide +kernel
theorem dX7_falsehoods_88 : decode cX7_falsehoods 88 = .ok (.iconst 1, 1) := by decide +kernel
theorem dX7_falsehoods_89 : decode cX7_falsehoods 89 = .ok (.goto 4, 3) := by decide +kernel
theorem dX7_falsehoods_92 : decode cX7_falsehoods 92 = .ok (.iconst 0, 1) := by decide +kernel
theorem dX7_falsehoods_93 : decode cX7_falsehoods 93 = .ok (.iadd, 1) := by decide +kernel
theorem dX7_falsehoods_94 : decode cX7_falsehoods 94 = .ok (.istore_n 3, 1) := by decide +kernel
theorem dX7_falsehoods_95 : decode cX7_falsehoods 95 = .ok (.iinc 4 1, 3) := by decide +kernel
theorem dX7_falsehoods_98 : decode cX7_falsehoods 98 = .ok (.goto (-49), 3) := by decide +kernel
theorem dX7_falsehoods_101 : decode cX7_falsehoods 101 = .ok (.iload_n 3, 1) := by decide +kernel
theorem dX7_falsehoods_102 : decode cX7_falsehoods 102 = .ok (.ireturn, 1) := by decide +kernel
theorem dX8_init_0 : decode cX8_init 0 = .ok (.aload_n 0, 1) := by decide +kernel
theorem dX8_init_1 : decode cX8_init 1 = .ok (.invokespecial 3, 3) := by decide +kernel
theorem dX8_init_4 : decode cX8_init 4 = .ok (.aload_n 0, 1) := by decide +kernel
theorem dX8_init_5 : decode cX8_init 5 = .ok (.bipush 51, 2) := by decide +kernel
theorem dX8_init_7 : decode cX8_init 7 = .ok (.newarray .int, 2) := by decide +kernel
theorem dX8_init_9 : decode cX8_init 9 = .ok (.putfield 11, 3) := by decide +kernel
theorem dX8_init_12 : decode cX8_init 12 = .ok (.aload_n 0, 1) := by decide +kernel
theorem dX8_init_13 : decode cX8_init 13 = .ok (.bipush 7, 2) := by decide +kernel
theorem dX8_init_15 : decode cX8_init 15 = .ok (.newarray .int, 2) := by decide +kernel
theorem dX8_init_17 : decode cX8_init 17 = .ok (.putfield 15, 3) := by decide +kernel
theorem dX8_init_20 : decode cX8_init 20 = .ok (.aload_n 0, 1) := by decide +kernel
theorem dX8_init_21 : decode cX8_init 21 = .ok (.bipush 6, 2) := by decide +kernel
theorem dX8_init_23 : decode cX8_init 23 = .ok (.newarray .int, 2) := by decide +kernel
theorem dX8_init_25 : decode cX8_init 25 = .ok (.putfield 18, 3) := by decide +kernel
theorem dX8_init_28 : decode cX8_init 28 = .ok (.aload_n 0, 1) := by decide +kernel
theorem dX8_init_29 : decode cX8_init 29 = .ok (.iload_n 1, 1) := by decide +kernel
theorem dX8_init_30 : decode cX8_init 30 = .ok (.iconst 0, 1) := by decide +kernel
theorem dX8_init_31 : decode cX8_init 31 = .ok (.invokestatic 21, 3) := by decide +kernel
theorem dX8_init_34 : decode cX8_init 34 = .ok (.newarray .int, 2) := by decide +kernel
theorem dX8_init_36 : decode cX8_init 36 = .ok (.putfield 27, 3) := by decide +kernel
theorem dX8_init_39 : decode cX8_init 39 = .ok (.return_, 1) := by decide +kernel
theorem dX8_clear_0 : decode cX8_clear 0 = .ok (.aload_n 0, 1) := by decide +kernel
theorem dX8_clear_1 : decode cX8_clear 1 = .ok (.getfield 11, 3) := by decide +kernel
theorem dX8_clear_4 : decode cX8_clear 4 = .ok (.iconst 0, 1) := by decide +kernel
theorem dX8_clear_5 : decode cX8_clear 5 = .ok (.invokestatic 30, 3) := by decide +kernel
theorem dX8_clear_8 : decode cX8_clear 8 = .ok (.iconst 0, 1) := by decide +kernel
theorem dX8_clear_9 : decode cX8_clear 9 = .ok (.istore_n 1, 1) := by decide +kernel
theorem dX8_clear_10 : decode cX8_clear 10 = .ok (.iload_n 1, 1) := by decide +kernel
theorem dX8_clear_11 : decode cX8_clear 11 = .ok (.bipush 6, 2) := by decide +kernel
theorem dX8_clear_13 : decode cX8_clear 13 = .ok (.if_icmp .ge 24, 3) := by decide +kernel
theorem dX8_clear_16 : decode cX8_clear 16 = .ok (.aload_n 0, 1) := by decide +kernel
theorem dX8_clear_17 : decode cX8_clear 17 = .ok (.iconst 1, 1) := by decide +kernel
theorem dX8_clear_18 : decode cX8_clear 18 = .ok (.iload_n 1, 1) := by decide +kernel
theorem dX8_clear_19 : decode cX8_clear 19 = .ok (.iconst (-1), 1) := by decide +kernel
theorem dX8_clear_20 : decode cX8_clear 20 = .ok (.invokevirtual 36, 3) := by decide +kernel
theorem dX8_clear_23 : decode cX8_clear 23 = .ok (.aload_n 0, 1) := by decide +kernel
theorem dX8_clear_24 : decode cX8_clear 24 = .ok (.bipush 6, 2) := by decide +kernel
theorem dX8_clear_26 : decode cX8_clear 26 = .ok (.iload_n 1, 1) := by decide +kernel
theorem dX8_clear_27 : decode cX8_clear 27 = .ok (.iconst (-1), 1) := by decide +kernel
theorem dX8_clear_28 : decode cX8_clear 28 = .ok (.invokevirtual 36, 3) := by decide +kernel
theorem dX8_clear_31 : decode cX8_clear 31 = .ok (.iinc 1 1, 3) := by decide +kernel
theorem dX8_clear_34 : decode cX8_clear 34 = .ok (.goto (-24), 3) := by decide +kernel
theorem dX8_clear_37 : decode cX8_clear 37 = .ok (.return_, 1) := by decide +kernel
theorem dX8_take_0 : decode cX8_take 0 = .ok (.aload_n 1, 1) := by decide +kernel
theorem dX8_take_1 : decode cX8_take 1 = .ok (.getfield 11, 3) := by decide +kernel
theorem dX8_take_4 : decode cX8_take 4 = .ok (.iconst 0, 1) := by decide +kernel
theorem dX8_take_5 : decode cX8_take 5 = .ok (.aload_n 0, 1) := by decide +kernel
theorem dX8_take_6 : decode cX8_take 6 = .ok (.getfield 11, 3) := by decide +kernel
theorem dX8_take_9 : decode cX8_take 9 = .ok (.iconst 0, 1) := by decide +kernel
theorem dX8_take_10 : decode cX8_take 10 = .ok (.bipush 51, 2) := by decide +kernel
theorem dX8_take_12 : decode cX8_take 12 = .ok (.invokestatic 40, 3) := by decide +kernel
theorem dX8_take_15 : decode cX8_take 15 = .ok (.aload_n 1, 1) := by decide +kernel
theorem dX8_take_16 : decode cX8_take 16 = .ok (.getfield 27, 3) := by decide +kernel
theorem dX8_take_19 : decode cX8_take 19 = .ok (.iconst 0, 1) := by decide +kernel
theorem dX8_take_20 : decode cX8_take 20 = .ok (.aload_n 0, 1) := by decide +kernel
theorem dX8_take_21 : decode cX8_take 21 = .ok (.getfield 27, 3) := by decide +kernel
theorem dX8_take_24 : decode cX8_take 24 = .ok (.iconst 0, 1) := by decide +kernel
theorem dX8_take_25 : decode cX8_take 25 = .ok (.aload_n 0, 1) := by decide +kernel
theorem dX8_take_26 : decode cX8_take 26 = .ok (.getfield 27, 3) := by decide +kernel
theorem dX8_take_29 : decode cX8_take 29 = .ok (.arraylength, 1) := by decide +kernel
theorem dX8_take_30 : decode cX8_take 30 = .ok (.aload_n 1, 1) := by decide +kernel
theorem dX8_take_31 : decode cX8_take 31 = .ok (.getfield 27, 3) := by decide +kernel
theorem dX8_take_34 : decode cX8_take 34 = .ok (.arraylength, 1) := by decide +kernel
theorem dX8_take_35 : decode cX8_take 35 = .ok (.invokestatic 46, 3) := by decide +kernel
theorem dX8_take_38 : decode cX8_take 38 = .ok (.invokestatic 40, 3) := by decide +kernel
theorem dX8_take_41 : decode cX8_take 41 = .ok (.return_, 1) := by decide +kernel
theorem dX8_of_0 : decode cX8_of 0 = .ok (.aload_n 0, 1) := by decide +kernel
theorem dX8_of_1 : decode cX8_of 1 = .ok (.getfield 11, 3) := by decide +kernel
theorem dX8_of_4 : decode cX8_of 4 = .ok (.iload_n 1, 1) := by decide +kernel
theorem dX8_of_5 : decode cX8_of 5 = .ok (.bipush 6, 2) := by decide +kernel
theorem dX8_of_7 : decode cX8_of 7 = .ok (.imul, 1) := by decide +kernel
theorem dX8_of_8 : decode cX8_of 8 = .ok (.iload_n 2, 1) := by decide +kernel
theorem dX8_of_9 : decode cX8_of 9 = .ok (.iadd, 1) := by decide +kernel
theorem dX8_of_10 : decode cX8_of 10 = .ok (.invokestatic 49, 3) := by decide +kernel
theorem dX8_of_13 : decode cX8_of 13 = .ok (.ireturn, 1) := by decide +kernel
theorem dX8_set_0 : decode cX8_set 0 = .ok (.aload_n 0, 1) := by decide +kernel
theorem dX8_set_1 : decode cX8_set 1 = .ok (.getfield 11, 3) := by decide +kernel
theorem dX8_set_4 : decode cX8_set 4 = .ok (.iload_n 1, 1) := by decide +kernel
theorem dX8_set_5 : decode cX8_set 5 = .ok (.bipush 6, 2) := by decide +kernel
theorem dX8_set_7 : decode cX8_set 7 = .ok (.imul, 1) := by decide +kernel
theorem dX8_set_8 : decode cX8_set 8 = .ok (.iload_n 2, 1) := by decide +kernel
theorem dX8_set_9 : decode cX8_set 9 = .ok (.iadd, 1) := by decide +kernel
theorem dX8_set_10 : decode cX8_set 10 = .ok (.iload_n 3, 1) := by decide +kernel
theorem dX8_set_11 : decode cX8_set 11 = .ok (.invokestatic 53, 3) := by decide +kernel
theorem dX8_set_14 : decode cX8_set 14 = .ok (.return_, 1) := by decide +kernel
theorem dX8_hour_0 : decode cX8_hour 0 = .ok (.aload_n 0, 1) := by decide +kernel
theorem dX8_hour_1 : decode cX8_hour 1 = .ok (.getfield 11, 3) := by decide +kernel
theorem dX8_hour_4 : decode cX8_hour 4 = .ok (.bipush 48, 2) := by decide +kernel
theorem dX8_hour_6 : decode cX8_hour 6 = .ok (.iaload, 1) := by decide +kernel
theorem dX8_hour_7 : decode cX8_hour 7 = .ok (.ireturn, 1) := by decide +kernel
theorem dX8_time_0 : decode cX8_time 0 = .ok (.aload_n 0, 1) := by decide +kernel
theorem dX8_time_1 : decode cX8_time 1 = .ok (.getfield 11, 3) := by decide +kernel
theorem dX8_time_4 : decode cX8_time 4 = .ok (.bipush 48, 2) := by decide +kernel
theorem dX8_time_6 : decode cX8_time 6 = .ok (.iaload, 1) := by decide +kernel
theorem dX8_time_7 : decode cX8_time 7 = .ok (.bipush 24, 2) := by decide +kernel
theorem dX8_time_9 : decode cX8_time 9 = .ok (.irem, 1) := by decide +kernel
theorem dX8_time_10 : decode cX8_time 10 = .ok (.ireturn, 1) := by decide +kernel
theorem dX8_logLength_0 : decode cX8_logLength 0 = .ok (.aload_n 0, 1) := by decide +kernel
theorem dX8_logLength_1 : decode cX8_logLength 1 = .ok (.getfield 11, 3) := by decide +kernel
theorem dX8_logLength_4 : decode cX8_logLength 4 = .ok (.bipush 50, 2) := by decide +kernel
theorem dX8_logLength_6 : decode cX8_logLength 6 = .ok (.iaload, 1) := by decide +kernel
theorem dX8_logLength_7 : decode cX8_logLength 7 = .ok (.bipush 60, 2) := by decide +kernel
theorem dX8_logLength_9 : decode cX8_logLength 9 = .ok (.invokestatic 46, 3) := by decide +kernel
theorem dX8_logLength_12 : decode cX8_logLength 12 = .ok (.ireturn, 1) := by decide +kernel
theorem dX8_whoHadLight_0 : decode cX8_whoHadLight 0 = .ok (.aload_n 0, 1) := by decide +kernel
theorem dX8_whoHadLight_1 : decode cX8_whoHadLight 1 = .ok (.getfield 27, 3) := by decide +kernel
theorem dX8_whoHadLight_4 : decode cX8_whoHadLight 4 = .ok (.aload_n 0, 1) := by decide +kernel
theorem dX8_whoHadLight_5 : decode cX8_whoHadLight 5 = .ok (.getfield 11, 3) := by decide +kernel
theorem dX8_whoHadLight_8 : decode cX8_whoHadLight 8 = .ok (.bipush 50, 2) := by decide +kernel
theorem dX8_whoHadLight_10 : decode cX8_whoHadLight 10 = .ok (.iaload, 1) := by decide +kernel
theorem dX8_whoHadLight_11 : decode cX8_whoHadLight 11 = .ok (.aload_n 0, 1) := by decide +kernel
theorem dX8_whoHadLight_12 : decode cX8_whoHadLight 12 = .ok (.invokevirtual 57, 3) := by decide +kernel
theorem dX8_whoHadLight_15 : decode cX8_whoHadLight 15 = .ok (.isub, 1) := by decide +kernel
theorem dX8_whoHadLight_16 : decode cX8_whoHadLight 16 = .ok (.iload_n 1, 1) := by decide +kernel
theorem dX8_whoHadLight_17 : decode cX8_whoHadLight 17 = .ok (.iadd, 1) := by decide +kernel
theorem dX8_whoHadLight_18 : decode cX8_whoHadLight 18 = .ok (.invokestatic 49, 3) := by decide +kernel
theorem dX8_whoHadLight_21 : decode cX8_whoHadLight 21 = .ok (.bipush 63, 2) := by decide +kernel
theorem dX8_whoHadLight_23 : decode cX8_whoHadLight 23 = .ok (.iand, 1) := by decide +kernel
theorem dX8_whoHadLight_24 : decode cX8_whoHadLight 24 = .ok (.ireturn, 1) := by decide +kernel
theorem dX8_hoursOfLight_0 : decode cX8_hoursOfLight 0 = .ok (.aload_n 0, 1) := by decide +kernel
theorem dX8_hoursOfLight_1 : decode cX8_hoursOfLight 1 = .ok (.getfield 27, 3) := by decide +kernel
theorem dX8_hoursOfLight_4 : decode cX8_hoursOfLight 4 = .ok (.aload_n 0, 1) := by decide +kernel
theorem dX8_hoursOfLight_5 : decode cX8_hoursOfLight 5 = .ok (.getfield 11, 3) := by decide +kernel
theorem dX8_hoursOfLight_8 : decode cX8_hoursOfLight 8 = .ok (.bipush 50, 2) := by decide +kernel
theorem dX8_hoursOfLight_10 : decode cX8_hoursOfLight 10 = .ok (.iaload, 1) := by decide +kernel
theorem dX8_hoursOfLight_11 : decode cX8_hoursOfLight 11 = .ok (.aload_n 0, 1) := by decide +kernel
theorem dX8_hoursOfLight_12 : decode cX8_hoursOfLight 12 = .ok (.invokevirtual 57, 3) := by decide +kernel
theorem dX8_hoursOfLight_15 : decode cX8_hoursOfLight 15 = .ok (.isub, 1) := by decide +kernel
theorem dX8_hoursOfLight_16 : decode cX8_hoursOfLight 16 = .ok (.iload_n 1, 1) := by decide +kernel
theorem dX8_hoursOfLight_17 : decode cX8_hoursOfLight 17 = .ok (.iadd, 1) := by decide +kernel
theorem dX8_hoursOfLight_18 : decode cX8_hoursOfLight 18 = .ok (.invokestatic 49, 3) := by decide +kernel
theorem dX8_hoursOfLight_21 : decode cX8_hoursOfLight 21 = .ok (.bipush 6, 2) := by decide +kernel
theorem dX8_hoursOfLight_23 : decode cX8_hoursOfLight 23 = .ok (.ishr, 1) := by decide +kernel
theorem dX8_hoursOfLight_24 : decode cX8_hoursOfLight 24 = .ok (.ireturn, 1) := by decide +kernel
theorem dX8_isIdle_0 : decode cX8_isIdle 0 = .ok (.aload_n 0, 1) := by decide +kernel
theorem dX8_isIdle_1 : decode cX8_isIdle 1 = .ok (.iconst 1, 1) := by decide +kernel
theorem dX8_isIdle_2 : decode cX8_isIdle 2 = .ok (.iload_n 2, 1) := by decide +kernel
theorem dX8_isIdle_3 : decode cX8_isIdle 3 = .ok (.invokevirtual 61, 3) := by decide +kernel
theorem dX8_isIdle_6 : decode cX8_isIdle 6 = .ok (.iconst (-1), 1) := by decide +kernel
theorem dX8_isIdle_7 : decode cX8_isIdle 7 = .ok (.if_icmp .ne 26, 3) := by decide +kernel
theorem dX8_isIdle_10 : decode cX8_isIdle 10 = .ok (.aload_n 0, 1) := by decide +kernel
theorem dX8_isIdle_11 : decode cX8_isIdle 11 = .ok (.iconst 0, 1) := by decide +kernel
theorem dX8_isIdle_12 : decode cX8_isIdle 12 = .ok (.iload_n 2, 1) := by decide +kernel
theorem dX8_isIdle_13 : decode cX8_isIdle 13 = .ok (.invokevirtual 61, 3) := by decide +kernel
theorem dX8_isIdle_16 : decode cX8_isIdle 16 = .ok (.aload_n 1, 1) := by decide +kernel
theorem dX8_isIdle_17 : decode cX8_isIdle 17 = .ok (.iconst 1, 1) := by decide +kernel
theorem dX8_isIdle_18 : decode cX8_isIdle 18 = .ok (.iload_n 2, 1) := by decide +kernel
theorem dX8_isIdle_19 : decode cX8_isIdle 19 = .ok (.iconst 0, 1) := by decide +kernel
theorem dX8_isIdle_20 : decode cX8_isIdle 20 = .ok (.invokevirtual 64, 3) := by decide +kernel
theorem dX8_isIdle_23 : decode cX8_isIdle 23 = .ok (.invokestatic 70, 3) := by decide +kernel
theorem dX8_isIdle_26 : decode cX8_isIdle 26 = .ok (.ifCond .ne 7, 3) := by decide +kernel
theorem dX8_isIdle_29 : decode cX8_isIdle 29 = .ok (.iconst 1, 1) := by decide +kernel
theorem dX8_isIdle_30 : decode cX8_isIdle 30 = .ok (.goto 4, 3) := by decide +kernel
theorem dX8_isIdle_33 : decode cX8_isIdle 33 = .ok (.iconst 0, 1) := by decide +kernel
theorem dX8_isIdle_34 : decode cX8_isIdle 34 = .ok (.ireturn, 1) := by decide +kernel
theorem dX8_allows_0 : decode cX8_allows 0 = .ok (.iload_n 2, 1) := by decide +kernel
theorem dX8_allows_1 : decode cX8_allows 1 = .ok (.iconst 2, 1) := by decide +kernel
theorem dX8_allows_2 : decode cX8_allows 2 = .ok (.if_icmp .ne 19, 3) := by decide +kernel
theorem dX8_allows_5 : decode cX8_allows 5 = .ok (.aload_n 0, 1) := by decide +kernel
theorem dX8_allows_6 : decode cX8_allows 6 = .ok (.invokevirtual 74, 3) := by decide +kernel
theorem dX8_allows_9 : decode cX8_allows 9 = .ok (.sipush 9999, 3) := by decide +kernel
theorem dX8_allows_12 : decode cX8_allows 12 = .ok (.if_icmp .ge 7, 3) := by decide +kernel
theorem dX8_allows_15 : decode cX8_allows 15 = .ok (.iconst 1, 1) := by decide +kernel
theorem dX8_allows_16 : decode cX8_allows 16 = .ok (.goto 4, 3) := by decide +kernel
theorem dX8_allows_19 : decode cX8_allows 19 = .ok (.iconst 0, 1) := by decide +kernel
theorem dX8_allows_20 : decode cX8_allows 20 = .ok (.ireturn, 1) := by decide +kernel
theorem dX8_allows_21 : decode cX8_allows 21 = .ok (.aload_n 1, 1) := by decide +kernel
theorem dX8_allows_22 : decode cX8_allows 22 = .ok (.iconst 1, 1) := by decide +kernel
theorem dX8_allows_23 : decode cX8_allows 23 = .ok (.iload_n 3, 1) := by decide +kernel
theorem dX8_allows_24 : decode cX8_allows 24 = .ok (.invokevirtual 77, 3) := by decide +kernel
theorem dX8_allows_27 : decode cX8_allows 27 = .ok (.ifCond .ne 5, 3) := by decide +kernel
theorem dX8_allows_30 : decode cX8_allows 30 = .ok (.iconst 0, 1) := by decide +kernel
theorem dX8_allows_31 : decode cX8_allows 31 = .ok (.ireturn, 1) := by decide +kernel
theorem dX8_allows_32 : decode cX8_allows 32 = .ok (.iload_n 2, 1) := by decide +kernel
theorem dX8_allows_33 : decode cX8_allows 33 = .ok (.iconst 1, 1) := by decide +kernel
theorem dX8_allows_34 : decode cX8_allows 34 = .ok (.if_icmp .ne 19, 3) := by decide +kernel
theorem dX8_allows_37 : decode cX8_allows 37 = .ok (.aload_n 0, 1) := by decide +kernel
theorem dX8_allows_38 : decode cX8_allows 38 = .ok (.iconst 1, 1) := by decide +kernel
theorem dX8_allows_39 : decode cX8_allows 39 = .ok (.iload_n 3, 1) := by decide +kernel
theorem dX8_allows_40 : decode cX8_allows 40 = .ok (.invokevirtual 61, 3) := by decide +kernel
theorem dX8_allows_43 : decode cX8_allows 43 = .ok (.iconst (-1), 1) := by decide +kernel
theorem dX8_allows_44 : decode cX8_allows 44 = .ok (.if_icmp .eq 7, 3) := by decide +kernel
theorem dX8_allows_47 : decode cX8_allows 47 = .ok (.iconst 1, 1) := by decide +kernel
theorem dX8_allows_48 : decode cX8_allows 48 = .ok (.goto 4, 3) := by decide +kernel
theorem dX8_allows_51 : decode cX8_allows 51 = .ok (.iconst 0, 1) := by decide +kernel
theorem dX8_allows_52 : decode cX8_allows 52 = .ok (.ireturn, 1) := by decide +kernel
theorem dX8_allows_53 : decode cX8_allows 53 = .ok (.aload_n 0, 1) := by decide +kernel
theorem dX8_allows_54 : decode cX8_allows 54 = .ok (.iconst 0, 1) := by decide +kernel
theorem dX8_allows_55 : decode cX8_allows 55 = .ok (.iload_n 3, 1) := by decide +kernel
theorem dX8_allows_56 : decode cX8_allows 56 = .ok (.invokevirtual 61, 3) := by decide +kernel
theorem dX8_allows_59 : decode cX8_allows 59 = .ok (.istore 5, 2) := by decide +kernel
theorem dX8_allows_61 : decode cX8_allows 61 = .ok (.aload_n 1, 1) := by decide +kernel
theorem dX8_allows_62 : decode cX8_allows 62 = .ok (.iconst 3, 1) := by decide +kernel
theorem dX8_allows_63 : decode cX8_allows 63 = .ok (.iload 4, 2) := by decide +kernel
theorem dX8_allows_65 : decode cX8_allows 65 = .ok (.invokevirtual 77, 3) := by decide +kernel
theorem dX8_allows_68 : decode cX8_allows 68 = .ok (.ifCond .eq 41, 3) := by decide +kernel
theorem dX8_allows_71 : decode cX8_allows 71 = .ok (.aload_n 0, 1) := by decide +kernel
theorem dX8_allows_72 : decode cX8_allows 72 = .ok (.iconst 1, 1) := by decide +kernel
theorem dX8_allows_73 : decode cX8_allows 73 = .ok (.iload_n 3, 1) := by decide +kernel
theorem dX8_allows_74 : decode cX8_allows 74 = .ok (.invokevirtual 61, 3) := by decide +kernel
theorem dX8_allows_77 : decode cX8_allows 77 = .ok (.iconst (-1), 1) := by decide +kernel
theorem dX8_allows_78 : decode cX8_allows 78 = .ok (.if_icmp .ne 31, 3) := by decide +kernel
theorem dX8_allows_81 : decode cX8_allows 81 = .ok (.iload 5, 2) := by decide +kernel
theorem dX8_allows_83 : decode cX8_allows 83 = .ok (.iload 4, 2) := by decide +kernel
theorem dX8_allows_85 : decode cX8_allows 85 = .ok (.invokestatic 70, 3) := by decide +kernel
theorem dX8_allows_88 : decode cX8_allows 88 = .ok (.ifCond .ne 21, 3) := by decide +kernel
theorem dX8_allows_91 : decode cX8_allows 91 = .ok (.aload_n 1, 1) := by decide +kernel
theorem dX8_allows_92 : decode cX8_allows 92 = .ok (.iload 4, 2) := by decide +kernel
theorem dX8_allows_94 : decode cX8_allows 94 = .ok (.invokevirtual 80, 3) := by decide +kernel
theorem dX8_allows_97 : decode cX8_allows 97 = .ok (.iload 5, 2) := by decide +kernel
theorem dX8_allows_99 : decode cX8_allows 99 = .ok (.iconst (-1), 1) := by decide +kernel
theorem dX8_allows_100 : decode cX8_allows 100 = .ok (.ixor, 1) := by decide +kernel
theorem dX8_allows_101 : decode cX8_allows 101 = .ok (.iand, 1) := by decide +kernel
theorem dX8_allows_102 : decode cX8_allows 102 = .ok (.ifCond .ne 7, 3) := by decide +kernel
theorem dX8_allows_105 : decode cX8_allows 105 = .ok (.iconst 1, 1) := by decide +kernel
theorem dX8_allows_106 : decode cX8_allows 106 = .ok (.goto 4, 3) := by decide +kernel
theorem dX8_allows_109 : decode cX8_allows 109 = .ok (.iconst 0, 1) := by decide +kernel
theorem dX8_allows_110 : decode cX8_allows 110 = .ok (.ireturn, 1) := by decide +kernel
theorem dX8_enqueue_0 : decode cX8_enqueue 0 = .ok (.aload_n 0, 1) := by decide +kernel
theorem dX8_enqueue_1 : decode cX8_enqueue 1 = .ok (.iconst 1, 1) := by decide +kernel
theorem dX8_enqueue_2 : decode cX8_enqueue 2 = .ok (.iload_n 2, 1) := by decide +kernel
theorem dX8_enqueue_3 : decode cX8_enqueue 3 = .ok (.iload_n 3, 1) := by decide +kernel
theorem dX8_enqueue_4 : decode cX8_enqueue 4 = .ok (.invokevirtual 36, 3) := by decide +kernel
theorem dX8_enqueue_7 : decode cX8_enqueue 7 = .ok (.aload_n 0, 1) := by decide +kernel
theorem dX8_enqueue_8 : decode cX8_enqueue 8 = .ok (.bipush 6, 2) := by decide +kernel
theorem dX8_enqueue_10 : decode cX8_enqueue 10 = .ok (.iload_n 2, 1) := by decide +kernel
theorem dX8_enqueue_11 : decode cX8_enqueue 11 = .ok (.aload_n 1, 1) := by decide +kernel
theorem dX8_enqueue_12 : decode cX8_enqueue 12 = .ok (.iconst 3, 1) := by decide +kernel
theorem dX8_enqueue_13 : decode cX8_enqueue 13 = .ok (.iload_n 3, 1) := by decide +kernel
theorem dX8_enqueue_14 : decode cX8_enqueue 14 = .ok (.iconst 0, 1) := by decide +kernel
theorem dX8_enqueue_15 : decode cX8_enqueue 15 = .ok (.invokevirtual 64, 3) := by decide +kernel
theorem dX8_enqueue_18 : decode cX8_enqueue 18 = .ok (.invokevirtual 36, 3) := by decide +kernel
theorem dX8_enqueue_21 : decode cX8_enqueue 21 = .ok (.aload_n 0, 1) := by decide +kernel
theorem dX8_enqueue_22 : decode cX8_enqueue 22 = .ok (.bipush 7, 2) := by decide +kernel
theorem dX8_enqueue_24 : decode cX8_enqueue 24 = .ok (.aload_n 0, 1) := by decide +kernel
theorem dX8_enqueue_25 : decode cX8_enqueue 25 = .ok (.getfield 11, 3) := by decide +kernel
theorem dX8_enqueue_28 : decode cX8_enqueue 28 = .ok (.bipush 49, 2) := by decide +kernel
theorem dX8_enqueue_30 : decode cX8_enqueue 30 = .ok (.iaload, 1) := by decide +kernel
theorem dX8_enqueue_31 : decode cX8_enqueue 31 = .ok (.iload_n 2, 1) := by decide +kernel
theorem dX8_enqueue_32 : decode cX8_enqueue 32 = .ok (.invokevirtual 36, 3) := by decide +kernel
theorem dX8_enqueue_35 : decode cX8_enqueue 35 = .ok (.aload_n 0, 1) := by decide +kernel
theorem dX8_enqueue_36 : decode cX8_enqueue 36 = .ok (.getfield 11, 3) := by decide +kernel
theorem dX8_enqueue_39 : decode cX8_enqueue 39 = .ok (.bipush 49, 2) := by decide +kernel
theorem dX8_enqueue_41 : decode cX8_enqueue 41 = .ok (.aload_n 0, 1) := by decide +kernel
theorem dX8_enqueue_42 : decode cX8_enqueue 42 = .ok (.getfield 11, 3) := by decide +kernel
theorem dX8_enqueue_45 : decode cX8_enqueue 45 = .ok (.bipush 49, 2) := by decide +kernel
theorem dX8_enqueue_47 : decode cX8_enqueue 47 = .ok (.iaload, 1) := by decide +kernel
theorem dX8_enqueue_48 : decode cX8_enqueue 48 = .ok (.iconst 1, 1) := by decide +kernel
theorem dX8_enqueue_49 : decode cX8_enqueue 49 = .ok (.iadd, 1) := by decide +kernel
theorem dX8_enqueue_50 : decode cX8_enqueue 50 = .ok (.bipush 6, 2) := by decide +kernel
theorem dX8_enqueue_52 : decode cX8_enqueue 52 = .ok (.invokestatic 46, 3) := by decide +kernel
theorem dX8_enqueue_55 : decode cX8_enqueue 55 = .ok (.iastore, 1) := by decide +kernel
theorem dX8_enqueue_56 : decode cX8_enqueue 56 = .ok (.return_, 1) := by decide +kernel
theorem dX8_leave_0 : decode cX8_leave 0 = .ok (.aload_n 0, 1) := by decide +kernel
theorem dX8_leave_1 : decode cX8_leave 1 = .ok (.iconst 1, 1) := by decide +kernel
theorem dX8_leave_2 : decode cX8_leave 2 = .ok (.iload_n 1, 1) := by decide +kernel
theorem dX8_leave_3 : decode cX8_leave 3 = .ok (.invokevirtual 61, 3) := by decide +kernel
theorem dX8_leave_6 : decode cX8_leave 6 = .ok (.istore_n 2, 1) := by decide +kernel
theorem dX8_leave_7 : decode cX8_leave 7 = .ok (.iconst 0, 1) := by decide +kernel
theorem dX8_leave_8 : decode cX8_leave 8 = .ok (.istore_n 3, 1) := by decide +kernel
theorem dX8_leave_9 : decode cX8_leave 9 = .ok (.iconst 0, 1) := by decide +kernel
theorem dX8_leave_10 : decode cX8_leave 10 = .ok (.istore 4, 2) := by decide +kernel
theorem dX8_leave_12 : decode cX8_leave 12 = .ok (.iload 4, 2) := by decide +kernel
theorem dX8_leave_14 : decode cX8_leave 14 = .ok (.aload_n 0, 1) := by decide +kernel
theorem dX8_leave_15 : decode cX8_leave 15 = .ok (.getfield 11, 3) := by decide +kernel
theorem dX8_leave_18 : decode cX8_leave 18 = .ok (.bipush 49, 2) := by decide +kernel
theorem dX8_leave_20 : decode cX8_leave 20 = .ok (.iaload, 1) := by decide +kernel
theorem dX8_leave_21 : decode cX8_leave 21 = .ok (.if_icmp .ge 37, 3) := by decide +kernel
theorem dX8_leave_24 : decode cX8_leave 24 = .ok (.aload_n 0, 1) := by decide +kernel
theorem dX8_leave_25 : decode cX8_leave 25 = .ok (.bipush 7, 2) := by decide +kernel
theorem dX8_leave_27 : decode cX8_leave 27 = .ok (.iload 4, 2) := by decide +kernel
theorem dX8_leave_29 : decode cX8_leave 29 = .ok (.invokevirtual 61, 3) := by decide +kernel
theorem dX8_leave_32 : decode cX8_leave 32 = .ok (.istore 5, 2) := by decide +kernel
theorem dX8_leave_34 : decode cX8_leave 34 = .ok (.iload 5, 2) := by decide +kernel
theorem dX8_leave_36 : decode cX8_leave 36 = .ok (.iload_n 1, 1) := by decide +kernel
theorem dX8_leave_37 : decode cX8_leave 37 = .ok (.if_icmp .eq 15, 3) := by decide +kernel
theorem dX8_leave_40 : decode cX8_leave 40 = .ok (.aload_n 0, 1) := by decide +kernel
theorem dX8_leave_41 : decode cX8_leave 41 = .ok (.bipush 7, 2) := by decide +kernel
theorem dX8_leave_43 : decode cX8_leave 43 = .ok (.iload_n 3, 1) := by decide +kernel
theorem dX8_leave_44 : decode cX8_leave 44 = .ok (.iload 5, 2) := by decide +kernel
theorem dX8_leave_46 : decode cX8_leave 46 = .ok (.invokevirtual 36, 3) := by decide +kernel
theorem dX8_leave_49 : decode cX8_leave 49 = .ok (.iinc 3 1, 3) := by decide +kernel
theorem dX8_leave_52 : decode cX8_leave 52 = .ok (.iinc 4 1, 3) := by decide +kernel
theorem dX8_leave_55 : decode cX8_leave 55 = .ok (.goto (-43), 3) := by decide +kernel
theorem dX8_leave_58 : decode cX8_leave 58 = .ok (.aload_n 0, 1) := by decide +kernel
theorem dX8_leave_59 : decode cX8_leave 59 = .ok (.getfield 11, 3) := by decide +kernel
theorem dX8_leave_62 : decode cX8_leave 62 = .ok (.bipush 49, 2) := by decide +kernel
theorem dX8_leave_64 : decode cX8_leave 64 = .ok (.iload_n 3, 1) := by decide +kernel
theorem dX8_leave_65 : decode cX8_leave 65 = .ok (.iastore, 1) := by decide +kernel
theorem dX8_leave_66 : decode cX8_leave 66 = .ok (.aload_n 0, 1) := by decide +kernel
theorem dX8_leave_67 : decode cX8_leave 67 = .ok (.iconst 1, 1) := by decide +kernel
theorem dX8_leave_68 : decode cX8_leave 68 = .ok (.iload_n 1, 1) := by decide +kernel
theorem dX8_leave_69 : decode cX8_leave 69 = .ok (.iconst (-1), 1) := by decide +kernel
theorem dX8_leave_70 : decode cX8_leave 70 = .ok (.invokevirtual 36, 3) := by decide +kernel
theorem dX8_leave_73 : decode cX8_leave 73 = .ok (.aload_n 0, 1) := by decide +kernel
theorem dX8_leave_74 : decode cX8_leave 74 = .ok (.bipush 6, 2) := by decide +kernel
theorem dX8_leave_76 : decode cX8_leave 76 = .ok (.iload_n 1, 1) := by decide +kernel
theorem dX8_leave_77 : decode cX8_leave 77 = .ok (.iconst (-1), 1) := by decide +kernel
theorem dX8_leave_78 : decode cX8_leave 78 = .ok (.invokevirtual 36, 3) := by decide +kernel
theorem dX8_leave_81 : decode cX8_leave 81 = .ok (.aload_n 0, 1) := by decide +kernel
theorem dX8_leave_82 : decode cX8_leave 82 = .ok (.iconst 2, 1) := by decide +kernel
theorem dX8_leave_83 : decode cX8_leave 83 = .ok (.iload_n 1, 1) := by decide +kernel
theorem dX8_leave_84 : decode cX8_leave 84 = .ok (.iconst 0, 1) := by decide +kernel
theorem dX8_leave_85 : decode cX8_leave 85 = .ok (.invokevirtual 36, 3) := by decide +kernel
theorem dX8_leave_88 : decode cX8_leave 88 = .ok (.iload_n 2, 1) := by decide +kernel
theorem dX8_leave_89 : decode cX8_leave 89 = .ok (.ireturn, 1) := by decide +kernel
theorem dX8_backlog_0 : decode cX8_backlog 0 = .ok (.iconst 0, 1) := by decide +kernel
theorem dX8_backlog_1 : decode cX8_backlog 1 = .ok (.istore_n 2, 1) := by decide +kernel
theorem dX8_backlog_2 : decode cX8_backlog 2 = .ok (.iconst 0, 1) := by decide +kernel
theorem dX8_backlog_3 : decode cX8_backlog 3 = .ok (.istore_n 3, 1) := by decide +kernel
theorem dX8_backlog_4 : decode cX8_backlog 4 = .ok (.iload_n 3, 1) := by decide +kernel
theorem dX8_backlog_5 : decode cX8_backlog 5 = .ok (.aload_n 0, 1) := by decide +kernel
theorem dX8_backlog_6 : decode cX8_backlog 6 = .ok (.getfield 11, 3) := by decide +kernel
theorem dX8_backlog_9 : decode cX8_backlog 9 = .ok (.bipush 49, 2) := by decide +kernel
theorem dX8_backlog_11 : decode cX8_backlog 11 = .ok (.iaload, 1) := by decide +kernel
theorem dX8_backlog_12 : decode cX8_backlog 12 = .ok (.if_icmp .ge 34, 3) := by decide +kernel
theorem dX8_backlog_15 : decode cX8_backlog 15 = .ok (.iload_n 2, 1) := by decide +kernel
theorem dX8_backlog_16 : decode cX8_backlog 16 = .ok (.aload_n 0, 1) := by decide +kernel
theorem dX8_backlog_17 : decode cX8_backlog 17 = .ok (.bipush 6, 2) := by decide +kernel
theorem dX8_backlog_19 : decode cX8_backlog 19 = .ok (.aload_n 0, 1) := by decide +kernel
theorem dX8_backlog_20 : decode cX8_backlog 20 = .ok (.bipush 7, 2) := by decide +kernel
theorem dX8_backlog_22 : decode cX8_backlog 22 = .ok (.iload_n 3, 1) := by decide +kernel
theorem dX8_backlog_23 : decode cX8_backlog 23 = .ok (.invokevirtual 61, 3) := by decide +kernel
theorem dX8_backlog_26 : decode cX8_backlog 26 = .ok (.invokevirtual 61, 3) := by decide +kernel
theorem dX8_backlog_29 : decode cX8_backlog 29 = .ok (.iload_n 1, 1) := by decide +kernel
theorem dX8_backlog_30 : decode cX8_backlog 30 = .ok (.if_icmp .ne 7, 3) := by decide +kernel
theorem dX8_backlog_33 : decode cX8_backlog 33 = .ok (.iconst 1, 1) := by decide +kernel
theorem dX8_backlog_34 : decode cX8_backlog 34 = .ok (.goto 4, 3) := by decide +kernel
theorem dX8_backlog_37 : decode cX8_backlog 37 = .ok (.iconst 0, 1) := by decide +kernel
theorem dX8_backlog_38 : decode cX8_backlog 38 = .ok (.iadd, 1) := by decide +kernel
theorem dX8_backlog_39 : decode cX8_backlog 39 = .ok (.istore_n 2, 1) := by decide +kernel
theorem dX8_backlog_40 : decode cX8_backlog 40 = .ok (.iinc 3 1, 3) := by decide +kernel
theorem dX8_backlog_43 : decode cX8_backlog 43 = .ok (.goto (-39), 3) := by decide +kernel
theorem dX8_backlog_46 : decode cX8_backlog 46 = .ok (.iload_n 2, 1) := by decide +kernel
theorem dX8_backlog_47 : decode cX8_backlog 47 = .ok (.ireturn, 1) := by decide +kernel
theorem dX8_first_0 : decode cX8_first 0 = .ok (.iconst 0, 1) := by decide +kernel
theorem dX8_first_1 : decode cX8_first 1 = .ok (.istore_n 2, 1) := by decide +kernel
theorem dX8_first_2 : decode cX8_first 2 = .ok (.iload_n 2, 1) := by decide +kernel
theorem dX8_first_3 : decode cX8_first 3 = .ok (.aload_n 0, 1) := by decide +kernel
theorem dX8_first_4 : decode cX8_first 4 = .ok (.getfield 11, 3) := by decide +kernel
theorem dX8_first_7 : decode cX8_first 7 = .ok (.bipush 49, 2) := by decide +kernel
theorem dX8_first_9 : decode cX8_first 9 = .ok (.iaload, 1) := by decide +kernel
theorem dX8_first_10 : decode cX8_first 10 = .ok (.if_icmp .ge 30, 3) := by decide +kernel
theorem dX8_first_13 : decode cX8_first 13 = .ok (.aload_n 0, 1) := by decide +kernel
theorem dX8_first_14 : decode cX8_first 14 = .ok (.bipush 7, 2) := by decide +kernel
theorem dX8_first_16 : decode cX8_first 16 = .ok (.iload_n 2, 1) := by decide +kernel
theorem dX8_first_17 : decode cX8_first 17 = .ok (.invokevirtual 61, 3) := by decide +kernel
theorem dX8_first_20 : decode cX8_first 20 = .ok (.istore_n 3, 1) := by decide +kernel
theorem dX8_first_21 : decode cX8_first 21 = .ok (.aload_n 0, 1) := by decide +kernel
theorem dX8_first_22 : decode cX8_first 22 = .ok (.bipush 6, 2) := by decide +kernel
theorem dX8_first_24 : decode cX8_first 24 = .ok (.iload_n 3, 1) := by decide +kernel
theorem dX8_first_25 : decode cX8_first 25 = .ok (.invokevirtual 61, 3) := by decide +kernel
theorem dX8_first_28 : decode cX8_first 28 = .ok (.iload_n 1, 1) := by decide +kernel
theorem dX8_first_29 : decode cX8_first 29 = .ok (.if_icmp .ne 5, 3) := by decide +kernel
theorem dX8_first_32 : decode cX8_first 32 = .ok (.iload_n 3, 1) := by decide +kernel
theorem dX8_first_33 : decode cX8_first 33 = .ok (.ireturn, 1) := by decide +kernel
theorem dX8_first_34 : decode cX8_first 34 = .ok (.iinc 2 1, 3) := by decide +kernel
theorem dX8_first_37 : decode cX8_first 37 = .ok (.goto (-35), 3) := by decide +kernel
theorem dX8_first_40 : decode cX8_first 40 = .ok (.iconst (-1), 1) := by decide +kernel
theorem dX8_first_41 : decode cX8_first 41 = .ok (.ireturn, 1) := by decide +kernel
theorem dX8_pass_0 : decode cX8_pass 0 = .ok (.aload_n 0, 1) := by decide +kernel
theorem dX8_pass_1 : decode cX8_pass 1 = .ok (.invokevirtual 84, 3) := by decide +kernel
theorem dX8_pass_4 : decode cX8_pass 4 = .ok (.istore 4, 2) := by decide +kernel
theorem dX8_pass_6 : decode cX8_pass 6 = .ok (.iload 4, 2) := by decide +kernel
theorem dX8_pass_8 : decode cX8_pass 8 = .ok (.aload_n 1, 1) := by decide +kernel
theorem dX8_pass_9 : decode cX8_pass 9 = .ok (.iconst 0, 1) := by decide +kernel
theorem dX8_pass_10 : decode cX8_pass 10 = .ok (.iconst 0, 1) := by decide +kernel
theorem dX8_pass_11 : decode cX8_pass 11 = .ok (.iconst 0, 1) := by decide +kernel
theorem dX8_pass_12 : decode cX8_pass 12 = .ok (.invokevirtual 64, 3) := by decide +kernel
theorem dX8_pass_15 : decode cX8_pass 15 = .ok (.if_icmp .ne 9, 3) := by decide +kernel
theorem dX8_pass_18 : decode cX8_pass 18 = .ok (.aload_n 0, 1) := by decide +kernel
theorem dX8_pass_19 : decode cX8_pass 19 = .ok (.aload_n 1, 1) := by decide +kernel
theorem dX8_pass_20 : decode cX8_pass 20 = .ok (.iload_n 3, 1) := by decide +kernel
theorem dX8_pass_21 : decode cX8_pass 21 = .ok (.invokevirtual 87, 3) := by decide +kernel
theorem dX8_pass_24 : decode cX8_pass 24 = .ok (.iconst 0, 1) := by decide +kernel
theorem dX8_pass_25 : decode cX8_pass 25 = .ok (.istore 5, 2) := by decide +kernel
theorem dX8_pass_27 : decode cX8_pass 27 = .ok (.iload 5, 2) := by decide +kernel
theorem dX8_pass_29 : decode cX8_pass 29 = .ok (.aload_n 1, 1) := by decide +kernel
theorem dX8_pass_30 : decode cX8_pass 30 = .ok (.iconst 2, 1) := by decide +kernel
theorem dX8_pass_31 : decode cX8_pass 31 = .ok (.invokevirtual 91, 3) := by decide +kernel
theorem dX8_pass_34 : decode cX8_pass 34 = .ok (.if_icmp .ge 28, 3) := by decide +kernel
theorem dX8_pass_37 : decode cX8_pass 37 = .ok (.aload_n 1, 1) := by decide +kernel
theorem dX8_pass_38 : decode cX8_pass 38 = .ok (.iload 5, 2) := by decide +kernel
theorem dX8_pass_40 : decode cX8_pass 40 = .ok (.iload 4, 2) := by decide +kernel
theorem dX8_pass_42 : decode cX8_pass 42 = .ok (.invokevirtual 94, 3) := by decide +kernel
theorem dX8_pass_45 : decode cX8_pass 45 = .ok (.ifCond .eq 11, 3) := by decide +kernel
theorem dX8_pass_48 : decode cX8_pass 48 = .ok (.aload_n 0, 1) := by decide +kernel
theorem dX8_pass_49 : decode cX8_pass 49 = .ok (.aload_n 1, 1) := by decide +kernel
theorem dX8_pass_50 : decode cX8_pass 50 = .ok (.aload_n 2, 1) := by decide +kernel
theorem dX8_pass_51 : decode cX8_pass 51 = .ok (.iload 5, 2) := by decide +kernel
theorem dX8_pass_53 : decode cX8_pass 53 = .ok (.invokevirtual 97, 3) := by decide +kernel
theorem dX8_pass_56 : decode cX8_pass 56 = .ok (.iinc 5 1, 3) := by decide +kernel
theorem dX8_pass_59 : decode cX8_pass 59 = .ok (.goto (-32), 3) := by decide +kernel
theorem dX8_pass_62 : decode cX8_pass 62 = .ok (.aload_n 0, 1) := by decide +kernel
theorem dX8_pass_63 : decode cX8_pass 63 = .ok (.getfield 11, 3) := by decide +kernel
theorem dX8_pass_66 : decode cX8_pass 66 = .ok (.bipush 48, 2) := by decide +kernel
theorem dX8_pass_68 : decode cX8_pass 68 = .ok (.dup2, 1) := by decide +kernel
theorem dX8_pass_69 : decode cX8_pass 69 = .ok (.iaload, 1) := by decide +kernel
theorem dX8_pass_70 : decode cX8_pass 70 = .ok (.iconst 1, 1) := by decide +kernel
theorem dX8_pass_71 : decode cX8_pass 71 = .ok (.iadd, 1) := by decide +kernel
theorem dX8_pass_72 : decode cX8_pass 72 = .ok (.iastore, 1) := by decide +kernel
theorem dX8_pass_73 : decode cX8_pass 73 = .ok (.return_, 1) := by decide +kernel
theorem dX8_dawn_0 : decode cX8_dawn 0 = .ok (.iconst 0, 1) := by decide +kernel
theorem dX8_dawn_1 : decode cX8_dawn 1 = .ok (.istore_n 3, 1) := by decide +kernel
theorem dX8_dawn_2 : decode cX8_dawn 2 = .ok (.iload_n 3, 1) := by decide +kernel
theorem dX8_dawn_3 : decode cX8_dawn 3 = .ok (.aload_n 1, 1) := by decide +kernel
theorem dX8_dawn_4 : decode cX8_dawn 4 = .ok (.iconst 1, 1) := by decide +kernel
theorem dX8_dawn_5 : decode cX8_dawn 5 = .ok (.invokevirtual 91, 3) := by decide +kernel
theorem dX8_dawn_8 : decode cX8_dawn 8 = .ok (.if_icmp .ge 50, 3) := by decide +kernel
theorem dX8_dawn_11 : decode cX8_dawn 11 = .ok (.aload_n 1, 1) := by decide +kernel
theorem dX8_dawn_12 : decode cX8_dawn 12 = .ok (.iconst 1, 1) := by decide +kernel
theorem dX8_dawn_13 : decode cX8_dawn 13 = .ok (.iload_n 3, 1) := by decide +kernel
theorem dX8_dawn_14 : decode cX8_dawn 14 = .ok (.iconst 0, 1) := by decide +kernel
theorem dX8_dawn_15 : decode cX8_dawn 15 = .ok (.invokevirtual 64, 3) := by decide +kernel
theorem dX8_dawn_18 : decode cX8_dawn 18 = .ok (.istore 4, 2) := by decide +kernel
theorem dX8_dawn_20 : decode cX8_dawn 20 = .ok (.aload_n 0, 1) := by decide +kernel
theorem dX8_dawn_21 : decode cX8_dawn 21 = .ok (.getfield 18, 3) := by decide +kernel
theorem dX8_dawn_24 : decode cX8_dawn 24 = .ok (.iload_n 3, 1) := by decide +kernel
theorem dX8_dawn_25 : decode cX8_dawn 25 = .ok (.iload_n 2, 1) := by decide +kernel
theorem dX8_dawn_26 : decode cX8_dawn 26 = .ok (.ifCond .ne 22, 3) := by decide +kernel
theorem dX8_dawn_29 : decode cX8_dawn 29 = .ok (.aload_n 0, 1) := by decide +kernel
theorem dX8_dawn_30 : decode cX8_dawn 30 = .ok (.iconst 0, 1) := by decide +kernel
theorem dX8_dawn_31 : decode cX8_dawn 31 = .ok (.iload_n 3, 1) := by decide +kernel
theorem dX8_dawn_32 : decode cX8_dawn 32 = .ok (.invokevirtual 61, 3) := by decide +kernel
theorem dX8_dawn_35 : decode cX8_dawn 35 = .ok (.iload 4, 2) := by decide +kernel
theorem dX8_dawn_37 : decode cX8_dawn 37 = .ok (.invokestatic 70, 3) := by decide +kernel
theorem dX8_dawn_40 : decode cX8_dawn 40 = .ok (.ifCond .eq 8, 3) := by decide +kernel
theorem dX8_dawn_43 : decode cX8_dawn 43 = .ok (.iload 4, 2) := by decide +kernel
theorem dX8_dawn_45 : decode cX8_dawn 45 = .ok (.goto 4, 3) := by decide +kernel
theorem dX8_dawn_48 : decode cX8_dawn 48 = .ok (.iconst (-1), 1) := by decide +kernel
theorem dX8_dawn_49 : decode cX8_dawn 49 = .ok (.invokestatic 53, 3) := by decide +kernel
theorem dX8_dawn_52 : decode cX8_dawn 52 = .ok (.iinc 3 1, 3) := by decide +kernel
theorem dX8_dawn_55 : decode cX8_dawn 55 = .ok (.goto (-53), 3) := by decide +kernel
theorem dX8_dawn_58 : decode cX8_dawn 58 = .ok (.iconst 0, 1) := by decide +kernel
theorem dX8_dawn_59 : decode cX8_dawn 59 = .ok (.istore_n 3, 1) := by decide +kernel
theorem dX8_dawn_60 : decode cX8_dawn 60 = .ok (.iconst 0, 1) := by decide +kernel
theorem dX8_dawn_61 : decode cX8_dawn 61 = .ok (.istore 4, 2) := by decide +kernel
theorem dX8_dawn_63 : decode cX8_dawn 63 = .ok (.iconst 0, 1) := by decide +kernel
theorem dX8_dawn_64 : decode cX8_dawn 64 = .ok (.istore 5, 2) := by decide +kernel
theorem dX8_dawn_66 : decode cX8_dawn 66 = .ok (.iload 5, 2) := by decide +kernel
theorem dX8_dawn_68 : decode cX8_dawn 68 = .ok (.aload_n 1, 1) := by decide +kernel
theorem dX8_dawn_69 : decode cX8_dawn 69 = .ok (.iconst 1, 1) := by decide +kernel
theorem dX8_dawn_70 : decode cX8_dawn 70 = .ok (.invokevirtual 91, 3) := by decide +kernel
theorem dX8_dawn_73 : decode cX8_dawn 73 = .ok (.if_icmp .ge 85, 3) := by decide +kernel
theorem dX8_dawn_76 : decode cX8_dawn 76 = .ok (.aload_n 1, 1) := by decide +kernel
theorem dX8_dawn_77 : decode cX8_dawn 77 = .ok (.aload_n 0, 1) := by decide +kernel
theorem dX8_dawn_78 : decode cX8_dawn 78 = .ok (.getfield 18, 3) := by decide +kernel
theorem dX8_dawn_81 : decode cX8_dawn 81 = .ok (.iload 5, 2) := by decide +kernel
theorem dX8_dawn_83 : decode cX8_dawn 83 = .ok (.invokevirtual 101, 3) := by decide +kernel
theorem dX8_dawn_86 : decode cX8_dawn 86 = .ok (.istore 6, 2) := by decide +kernel
theorem dX8_dawn_88 : decode cX8_dawn 88 = .ok (.aload_n 0, 1) := by decide +kernel
theorem dX8_dawn_89 : decode cX8_dawn 89 = .ok (.iconst 3, 1) := by decide +kernel
theorem dX8_dawn_90 : decode cX8_dawn 90 = .ok (.iload 5, 2) := by decide +kernel
theorem dX8_dawn_92 : decode cX8_dawn 92 = .ok (.iload 6, 2) := by decide +kernel
theorem dX8_dawn_94 : decode cX8_dawn 94 = .ok (.invokevirtual 36, 3) := by decide +kernel
theorem dX8_dawn_97 : decode cX8_dawn 97 = .ok (.iload 4, 2) := by decide +kernel
theorem dX8_dawn_99 : decode cX8_dawn 99 = .ok (.iload 6, 2) := by decide +kernel
theorem dX8_dawn_101 : decode cX8_dawn 101 = .ok (.iadd, 1) := by decide +kernel
theorem dX8_dawn_102 : decode cX8_dawn 102 = .ok (.istore 4, 2) := by decide +kernel
theorem dX8_dawn_104 : decode cX8_dawn 104 = .ok (.aload_n 0, 1) := by decide +kernel
theorem dX8_dawn_105 : decode cX8_dawn 105 = .ok (.getfield 18, 3) := by decide +kernel
theorem dX8_dawn_108 : decode cX8_dawn 108 = .ok (.iload 5, 2) := by decide +kernel
theorem dX8_dawn_110 : decode cX8_dawn 110 = .ok (.invokestatic 49, 3) := by decide +kernel
theorem dX8_dawn_113 : decode cX8_dawn 113 = .ok (.iconst (-1), 1) := by decide +kernel
theorem dX8_dawn_114 : decode cX8_dawn 114 = .ok (.if_icmp .eq 38, 3) := by decide +kernel
theorem dX8_dawn_117 : decode cX8_dawn 117 = .ok (.iload_n 3, 1) := by decide +kernel
theorem dX8_dawn_118 : decode cX8_dawn 118 = .ok (.iconst 1, 1) := by decide +kernel
theorem dX8_dawn_119 : decode cX8_dawn 119 = .ok (.iload 5, 2) := by decide +kernel
theorem dX8_dawn_121 : decode cX8_dawn 121 = .ok (.ishl, 1) := by decide +kernel
theorem dX8_dawn_122 : decode cX8_dawn 122 = .ok (.ior, 1) := by decide +kernel
theorem dX8_dawn_123 : decode cX8_dawn 123 = .ok (.istore_n 3, 1) := by decide +kernel
theorem dX8_dawn_124 : decode cX8_dawn 124 = .ok (.aload_n 0, 1) := by decide +kernel
theorem dX8_dawn_125 : decode cX8_dawn 125 = .ok (.iconst 0, 1) := by decide +kernel
theorem dX8_dawn_126 : decode cX8_dawn 126 = .ok (.iload 5, 2) := by decide +kernel
theorem dX8_dawn_128 : decode cX8_dawn 128 = .ok (.aload_n 0, 1) := by decide +kernel
theorem dX8_dawn_129 : decode cX8_dawn 129 = .ok (.iconst 0, 1) := by decide +kernel
theorem dX8_dawn_130 : decode cX8_dawn 130 = .ok (.iload 5, 2) := by decide +kernel
theorem dX8_dawn_132 : decode cX8_dawn 132 = .ok (.invokevirtual 61, 3) := by decide +kernel
theorem dX8_dawn_135 : decode cX8_dawn 135 = .ok (.iconst 1, 1) := by decide +kernel
theorem dX8_dawn_136 : decode cX8_dawn 136 = .ok (.aload_n 0, 1) := by decide +kernel
theorem dX8_dawn_137 : decode cX8_dawn 137 = .ok (.getfield 18, 3) := by decide +kernel
theorem dX8_dawn_140 : decode cX8_dawn 140 = .ok (.iload 5, 2) := by decide +kernel
theorem dX8_dawn_142 : decode cX8_dawn 142 = .ok (.invokestatic 49, 3) := by decide +kernel
theorem dX8_dawn_145 : decode cX8_dawn 145 = .ok (.ishl, 1) := by decide +kernel
theorem dX8_dawn_146 : decode cX8_dawn 146 = .ok (.iconst (-1), 1) := by decide +kernel
theorem dX8_dawn_147 : decode cX8_dawn 147 = .ok (.ixor, 1) := by decide +kernel
theorem dX8_dawn_148 : decode cX8_dawn 148 = .ok (.iand, 1) := by decide +kernel
theorem dX8_dawn_149 : decode cX8_dawn 149 = .ok (.invokevirtual 36, 3) := by decide +kernel
theorem dX8_dawn_152 : decode cX8_dawn 152 = .ok (.iinc 5 1, 3) := by decide +kernel
theorem dX8_dawn_155 : decode cX8_dawn 155 = .ok (.goto (-89), 3) := by decide +kernel
theorem dX8_dawn_158 : decode cX8_dawn 158 = .ok (.aload_n 0, 1) := by decide +kernel
theorem dX8_dawn_159 : decode cX8_dawn 159 = .ok (.getfield 27, 3) := by decide +kernel
theorem dX8_dawn_162 : decode cX8_dawn 162 = .ok (.aload_n 0, 1) := by decide +kernel
theorem dX8_dawn_163 : decode cX8_dawn 163 = .ok (.getfield 11, 3) := by decide +kernel
theorem dX8_dawn_166 : decode cX8_dawn 166 = .ok (.bipush 50, 2) := by decide +kernel
theorem dX8_dawn_168 : decode cX8_dawn 168 = .ok (.iaload, 1) := by decide +kernel
theorem dX8_dawn_169 : decode cX8_dawn 169 = .ok (.iload 4, 2) := by decide +kernel
theorem dX8_dawn_171 : decode cX8_dawn 171 = .ok (.bipush 6, 2) := by decide +kernel
theorem dX8_dawn_173 : decode cX8_dawn 173 = .ok (.ishl, 1) := by decide +kernel
theorem dX8_dawn_174 : decode cX8_dawn 174 = .ok (.iload_n 3, 1) := by decide +kernel
theorem dX8_dawn_175 : decode cX8_dawn 175 = .ok (.ior, 1) := by decide +kernel
theorem dX8_dawn_176 : decode cX8_dawn 176 = .ok (.invokestatic 53, 3) := by decide +kernel
theorem dX8_dawn_179 : decode cX8_dawn 179 = .ok (.aload_n 0, 1) := by decide +kernel
theorem dX8_dawn_180 : decode cX8_dawn 180 = .ok (.getfield 11, 3) := by decide +kernel
theorem dX8_dawn_183 : decode cX8_dawn 183 = .ok (.bipush 50, 2) := by decide +kernel
theorem dX8_dawn_185 : decode cX8_dawn 185 = .ok (.dup2, 1) := by decide +kernel
theorem dX8_dawn_186 : decode cX8_dawn 186 = .ok (.iaload, 1) := by decide +kernel
theorem dX8_dawn_187 : decode cX8_dawn 187 = .ok (.iconst 1, 1) := by decide +kernel
theorem dX8_dawn_188 : decode cX8_dawn 188 = .ok (.iadd, 1) := by decide +kernel
theorem dX8_dawn_189 : decode cX8_dawn 189 = .ok (.iastore, 1) := by decide +kernel
theorem dX8_dawn_190 : decode cX8_dawn 190 = .ok (.return_, 1) := by decide +kernel
theorem dX8_serve_0 : decode cX8_serve 0 = .ok (.aload_n 0, 1) := by decide +kernel
theorem dX8_serve_1 : decode cX8_serve 1 = .ok (.iload_n 3, 1) := by decide +kernel
theorem dX8_serve_2 : decode cX8_serve 2 = .ok (.invokevirtual 104, 3) := by decide +kernel
theorem dX8_serve_5 : decode cX8_serve 5 = .ok (.istore 4, 2) := by decide +kernel
theorem dX8_serve_7 : decode cX8_serve 7 = .ok (.iload 4, 2) := by decide +kernel
theorem dX8_serve_9 : decode cX8_serve 9 = .ok (.iconst (-1), 1) := by decide +kernel
theorem dX8_serve_10 : decode cX8_serve 10 = .ok (.if_icmp .ne 4, 3) := by decide +kernel
theorem dX8_serve_13 : decode cX8_serve 13 = .ok (.return_, 1) := by decide +kernel
theorem dX8_serve_14 : decode cX8_serve 14 = .ok (.aload_n 0, 1) := by decide +kernel
theorem dX8_serve_15 : decode cX8_serve 15 = .ok (.iconst 2, 1) := by decide +kernel
theorem dX8_serve_16 : decode cX8_serve 16 = .ok (.iload 4, 2) := by decide +kernel
theorem dX8_serve_18 : decode cX8_serve 18 = .ok (.invokevirtual 61, 3) := by decide +kernel
theorem dX8_serve_21 : decode cX8_serve 21 = .ok (.iconst 1, 1) := by decide +kernel
theorem dX8_serve_22 : decode cX8_serve 22 = .ok (.iadd, 1) := by decide +kernel
theorem dX8_serve_23 : decode cX8_serve 23 = .ok (.istore 5, 2) := by decide +kernel
theorem dX8_serve_25 : decode cX8_serve 25 = .ok (.aload_n 0, 1) := by decide +kernel
theorem dX8_serve_26 : decode cX8_serve 26 = .ok (.iconst 2, 1) := by decide +kernel
theorem dX8_serve_27 : decode cX8_serve 27 = .ok (.iload 4, 2) := by decide +kernel
theorem dX8_serve_29 : decode cX8_serve 29 = .ok (.iload 5, 2) := by decide +kernel
theorem dX8_serve_31 : decode cX8_serve 31 = .ok (.invokevirtual 36, 3) := by decide +kernel
theorem dX8_serve_34 : decode cX8_serve 34 = .ok (.iload 5, 2) := by decide +kernel
theorem dX8_serve_36 : decode cX8_serve 36 = .ok (.aload_n 1, 1) := by decide +kernel
theorem dX8_serve_37 : decode cX8_serve 37 = .ok (.iconst 2, 1) := by decide +kernel
theorem dX8_serve_38 : decode cX8_serve 38 = .ok (.iload_n 3, 1) := by decide +kernel
theorem dX8_serve_39 : decode cX8_serve 39 = .ok (.iconst 2, 1) := by decide +kernel
theorem dX8_serve_40 : decode cX8_serve 40 = .ok (.invokevirtual 64, 3) := by decide +kernel
theorem dX8_serve_43 : decode cX8_serve 43 = .ok (.if_icmp .lt 12, 3) := by decide +kernel
theorem dX8_serve_46 : decode cX8_serve 46 = .ok (.aload_n 0, 1) := by decide +kernel
theorem dX8_serve_47 : decode cX8_serve 47 = .ok (.aload_n 1, 1) := by decide +kernel
theorem dX8_serve_48 : decode cX8_serve 48 = .ok (.aload_n 2, 1) := by decide +kernel
theorem dX8_serve_49 : decode cX8_serve 49 = .ok (.iload_n 3, 1) := by decide +kernel
theorem dX8_serve_50 : decode cX8_serve 50 = .ok (.iload 4, 2) := by decide +kernel
theorem dX8_serve_52 : decode cX8_serve 52 = .ok (.invokevirtual 107, 3) := by decide +kernel
theorem dX8_serve_55 : decode cX8_serve 55 = .ok (.return_, 1) := by decide +kernel
theorem dX8_decide_0 : decode cX8_decide 0 = .ok (.aload_n 0, 1) := by decide +kernel
theorem dX8_decide_1 : decode cX8_decide 1 = .ok (.iconst 1, 1) := by decide +kernel
theorem dX8_decide_2 : decode cX8_decide 2 = .ok (.iload 4, 2) := by decide +kernel
theorem dX8_decide_4 : decode cX8_decide 4 = .ok (.invokevirtual 61, 3) := by decide +kernel
theorem dX8_decide_7 : decode cX8_decide 7 = .ok (.istore 5, 2) := by decide +kernel
theorem dX8_decide_9 : decode cX8_decide 9 = .ok (.aload_n 0, 1) := by decide +kernel
theorem dX8_decide_10 : decode cX8_decide 10 = .ok (.iconst 0, 1) := by decide +kernel
theorem dX8_decide_11 : decode cX8_decide 11 = .ok (.iload 4, 2) := by decide +kernel
theorem dX8_decide_13 : decode cX8_decide 13 = .ok (.invokevirtual 61, 3) := by decide +kernel
theorem dX8_decide_16 : decode cX8_decide 16 = .ok (.istore 6, 2) := by decide +kernel
theorem dX8_decide_18 : decode cX8_decide 18 = .ok (.aload_n 0, 1) := by decide +kernel
theorem dX8_decide_19 : decode cX8_decide 19 = .ok (.getfield 15, 3) := by decide +kernel
theorem dX8_decide_22 : decode cX8_decide 22 = .ok (.iconst 0, 1) := by decide +kernel
theorem dX8_decide_23 : decode cX8_decide 23 = .ok (.aload_n 0, 1) := by decide +kernel
theorem dX8_decide_24 : decode cX8_decide 24 = .ok (.invokevirtual 84, 3) := by decide +kernel
theorem dX8_decide_27 : decode cX8_decide 27 = .ok (.iastore, 1) := by decide +kernel
theorem dX8_decide_28 : decode cX8_decide 28 = .ok (.aload_n 0, 1) := by decide +kernel
theorem dX8_decide_29 : decode cX8_decide 29 = .ok (.getfield 15, 3) := by decide +kernel
theorem dX8_decide_32 : decode cX8_decide 32 = .ok (.iconst 1, 1) := by decide +kernel
theorem dX8_decide_33 : decode cX8_decide 33 = .ok (.aload_n 0, 1) := by decide +kernel
theorem dX8_decide_34 : decode cX8_decide 34 = .ok (.invokevirtual 74, 3) := by decide +kernel
theorem dX8_decide_37 : decode cX8_decide 37 = .ok (.bipush 24, 2) := by decide +kernel
theorem dX8_decide_39 : decode cX8_decide 39 = .ok (.idiv, 1) := by decide +kernel
theorem dX8_decide_40 : decode cX8_decide 40 = .ok (.iastore, 1) := by decide +kernel
theorem dX8_decide_41 : decode cX8_decide 41 = .ok (.aload_n 0, 1) := by decide +kernel
theorem dX8_decide_42 : decode cX8_decide 42 = .ok (.getfield 15, 3) := by decide +kernel
theorem dX8_decide_45 : decode cX8_decide 45 = .ok (.iconst 2, 1) := by decide +kernel
theorem dX8_decide_46 : decode cX8_decide 46 = .ok (.aload_n 0, 1) := by decide +kernel
theorem dX8_decide_47 : decode cX8_decide 47 = .ok (.iload_n 3, 1) := by decide +kernel
theorem dX8_decide_48 : decode cX8_decide 48 = .ok (.invokevirtual 111, 3) := by decide +kernel
theorem dX8_decide_51 : decode cX8_decide 51 = .ok (.iastore, 1) := by decide +kernel
theorem dX8_decide_52 : decode cX8_decide 52 = .ok (.aload_n 0, 1) := by decide +kernel
theorem dX8_decide_53 : decode cX8_decide 53 = .ok (.getfield 15, 3) := by decide +kernel
theorem dX8_decide_56 : decode cX8_decide 56 = .ok (.iconst 3, 1) := by decide +kernel
theorem dX8_decide_57 : decode cX8_decide 57 = .ok (.iload 6, 2) := by decide +kernel
theorem dX8_decide_59 : decode cX8_decide 59 = .ok (.invokestatic 114, 3) := by decide +kernel
theorem dX8_decide_62 : decode cX8_decide 62 = .ok (.iastore, 1) := by decide +kernel
theorem dX8_decide_63 : decode cX8_decide 63 = .ok (.aload_n 0, 1) := by decide +kernel
theorem dX8_decide_64 : decode cX8_decide 64 = .ok (.getfield 15, 3) := by decide +kernel
theorem dX8_decide_67 : decode cX8_decide 67 = .ok (.iconst 4, 1) := by decide +kernel
theorem dX8_decide_68 : decode cX8_decide 68 = .ok (.iload 4, 2) := by decide +kernel
theorem dX8_decide_70 : decode cX8_decide 70 = .ok (.iastore, 1) := by decide +kernel
theorem dX8_decide_71 : decode cX8_decide 71 = .ok (.aload_n 0, 1) := by decide +kernel
theorem dX8_decide_72 : decode cX8_decide 72 = .ok (.getfield 15, 3) := by decide +kernel
theorem dX8_decide_75 : decode cX8_decide 75 = .ok (.iconst 5, 1) := by decide +kernel
theorem dX8_decide_76 : decode cX8_decide 76 = .ok (.iload 5, 2) := by decide +kernel
theorem dX8_decide_78 : decode cX8_decide 78 = .ok (.iastore, 1) := by decide +kernel
theorem dX8_decide_79 : decode cX8_decide 79 = .ok (.aload_n 0, 1) := by decide +kernel
theorem dX8_decide_80 : decode cX8_decide 80 = .ok (.getfield 15, 3) := by decide +kernel
theorem dX8_decide_83 : decode cX8_decide 83 = .ok (.bipush 6, 2) := by decide +kernel
theorem dX8_decide_85 : decode cX8_decide 85 = .ok (.aload_n 1, 1) := by decide +kernel
theorem dX8_decide_86 : decode cX8_decide 86 = .ok (.iconst 1, 1) := by decide +kernel
theorem dX8_decide_87 : decode cX8_decide 87 = .ok (.iload 4, 2) := by decide +kernel
theorem dX8_decide_89 : decode cX8_decide 89 = .ok (.iconst 2, 1) := by decide +kernel
theorem dX8_decide_90 : decode cX8_decide 90 = .ok (.invokevirtual 64, 3) := by decide +kernel
theorem dX8_decide_93 : decode cX8_decide 93 = .ok (.iastore, 1) := by decide +kernel
theorem dX8_decide_94 : decode cX8_decide 94 = .ok (.aload_n 0, 1) := by decide +kernel
theorem dX8_decide_95 : decode cX8_decide 95 = .ok (.iload 4, 2) := by decide +kernel
theorem dX8_decide_97 : decode cX8_decide 97 = .ok (.invokevirtual 119, 3) := by decide +kernel
theorem dX8_decide_100 : decode cX8_decide 100 = .ok (.pop, 1) := by decide +kernel
theorem dX8_decide_101 : decode cX8_decide 101 = .ok (.aload_n 0, 1) := by decide +kernel
theorem dX8_decide_102 : decode cX8_decide 102 = .ok (.iconst 4, 1) := by decide +kernel
theorem dX8_decide_103 : decode cX8_decide 103 = .ok (.iload 4, 2) := by decide +kernel
theorem dX8_decide_105 : decode cX8_decide 105 = .ok (.aload_n 0, 1) := by decide +kernel
theorem dX8_decide_106 : decode cX8_decide 106 = .ok (.iconst 4, 1) := by decide +kernel
theorem dX8_decide_107 : decode cX8_decide 107 = .ok (.iload 4, 2) := by decide +kernel
theorem dX8_decide_109 : decode cX8_decide 109 = .ok (.invokevirtual 61, 3) := by decide +kernel
theorem dX8_decide_112 : decode cX8_decide 112 = .ok (.aload_n 1, 1) := by decide +kernel
theorem dX8_decide_113 : decode cX8_decide 113 = .ok (.iconst 2, 1) := by decide +kernel
theorem dX8_decide_114 : decode cX8_decide 114 = .ok (.iload_n 3, 1) := by decide +kernel
theorem dX8_decide_115 : decode cX8_decide 115 = .ok (.iconst 3, 1) := by decide +kernel
theorem dX8_decide_116 : decode cX8_decide 116 = .ok (.invokevirtual 64, 3) := by decide +kernel
theorem dX8_decide_119 : decode cX8_decide 119 = .ok (.iadd, 1) := by decide +kernel
theorem dX8_decide_120 : decode cX8_decide 120 = .ok (.invokevirtual 36, 3) := by decide +kernel
theorem dX8_decide_123 : decode cX8_decide 123 = .ok (.aload_n 2, 1) := by decide +kernel
theorem dX8_decide_124 : decode cX8_decide 124 = .ok (.getfield 122, 3) := by decide +kernel
theorem dX8_decide_127 : decode cX8_decide 127 = .ok (.iconst (-1), 1) := by decide +kernel
theorem dX8_decide_128 : decode cX8_decide 128 = .ok (.if_icmp .eq 14, 3) := by decide +kernel
theorem dX8_decide_131 : decode cX8_decide 131 = .ok (.aload_n 2, 1) := by decide +kernel
theorem dX8_decide_132 : decode cX8_decide 132 = .ok (.aload_n 0, 1) := by decide +kernel
theorem dX8_decide_133 : decode cX8_decide 133 = .ok (.getfield 15, 3) := by decide +kernel
theorem dX8_decide_136 : decode cX8_decide 136 = .ok (.invokevirtual 128, 3) := by decide +kernel
theorem dX8_decide_139 : decode cX8_decide 139 = .ok (.ifCond .le 20, 3) := by decide +kernel
theorem dX8_decide_142 : decode cX8_decide 142 = .ok (.aload_n 0, 1) := by decide +kernel
theorem dX8_decide_143 : decode cX8_decide 143 = .ok (.iconst 0, 1) := by decide +kernel
theorem dX8_decide_144 : decode cX8_decide 144 = .ok (.iload 4, 2) := by decide +kernel
theorem dX8_decide_146 : decode cX8_decide 146 = .ok (.iload 6, 2) := by decide +kernel
theorem dX8_decide_148 : decode cX8_decide 148 = .ok (.iconst 1, 1) := by decide +kernel
theorem dX8_decide_149 : decode cX8_decide 149 = .ok (.iload 5, 2) := by decide +kernel
theorem dX8_decide_151 : decode cX8_decide 151 = .ok (.ishl, 1) := by decide +kernel
theorem dX8_decide_152 : decode cX8_decide 152 = .ok (.ior, 1) := by decide +kernel
theorem dX8_decide_153 : decode cX8_decide 153 = .ok (.invokevirtual 36, 3) := by decide +kernel
theorem dX8_decide_156 : decode cX8_decide 156 = .ok (.goto 19, 3) := by decide +kernel
theorem dX8_decide_159 : decode cX8_decide 159 = .ok (.aload_n 0, 1) := by decide +kernel
theorem dX8_decide_160 : decode cX8_decide 160 = .ok (.iconst 5, 1) := by decide +kernel
theorem dX8_decide_161 : decode cX8_decide 161 = .ok (.iload 4, 2) := by decide +kernel
theorem dX8_decide_163 : decode cX8_decide 163 = .ok (.aload_n 0, 1) := by decide +kernel
theorem dX8_decide_164 : decode cX8_decide 164 = .ok (.iconst 5, 1) := by decide +kernel
theorem dX8_decide_165 : decode cX8_decide 165 = .ok (.iload 4, 2) := by decide +kernel
theorem dX8_decide_167 : decode cX8_decide 167 = .ok (.invokevirtual 61, 3) := by decide +kernel
theorem dX8_decide_170 : decode cX8_decide 170 = .ok (.iconst 1, 1) := by decide +kernel
theorem dX8_decide_171 : decode cX8_decide 171 = .ok (.iadd, 1) := by decide +kernel
theorem dX8_decide_172 : decode cX8_decide 172 = .ok (.invokevirtual 36, 3) := by decide +kernel
theorem dX8_decide_175 : decode cX8_decide 175 = .ok (.return_, 1) := by decide +kernel
theorem dX9_init_0 : decode cX9_init 0 = .ok (.aload_n 0, 1) := by decide +kernel
theorem dX9_init_1 : decode cX9_init 1 = .ok (.invokespecial 3, 3) := by decide +kernel
theorem dX9_init_4 : decode cX9_init 4 = .ok (.aload_n 0, 1) := by decide +kernel
theorem dX9_init_5 : decode cX9_init 5 = .ok (.sipush 240, 3) := by decide +kernel
theorem dX9_init_8 : decode cX9_init 8 = .ok (.newarray .int, 2) := by decide +kernel
theorem dX9_init_10 : decode cX9_init 10 = .ok (.putfield 9, 3) := by decide +kernel
theorem dX9_init_13 : decode cX9_init 13 = .ok (.aload_n 0, 1) := by decide +kernel
theorem dX9_init_14 : decode cX9_init 14 = .ok (.iconst (-1), 1) := by decide +kernel
theorem dX9_init_15 : decode cX9_init 15 = .ok (.putfield 15, 3) := by decide +kernel
theorem dX9_init_18 : decode cX9_init 18 = .ok (.return_, 1) := by decide +kernel
theorem dX9_bytesIn_0 : decode cX9_bytesIn 0 = .ok (.iconst 0, 1) := by decide +kernel
theorem dX9_bytesIn_1 : decode cX9_bytesIn 1 = .ok (.istore_n 1, 1) := by decide +kernel
theorem dX9_bytesIn_2 : decode cX9_bytesIn 2 = .ok (.bipush 24, 2) := by decide +kernel
theorem dX9_bytesIn_4 : decode cX9_bytesIn 4 = .ok (.istore_n 2, 1) := by decide +kernel
theorem dX9_bytesIn_5 : decode cX9_bytesIn 5 = .ok (.iload_n 2, 1) := by decide +kernel
theorem dX9_bytesIn_6 : decode cX9_bytesIn 6 = .ok (.ifCond .lt 27, 3) := by decide +kernel
theorem dX9_bytesIn_9 : decode cX9_bytesIn 9 = .ok (.iload_n 1, 1) := by decide +kernel
theorem dX9_bytesIn_10 : decode cX9_bytesIn 10 = .ok (.iload_n 0, 1) := by decide +kernel
theorem dX9_bytesIn_11 : decode cX9_bytesIn 11 = .ok (.iload_n 2, 1) := by decide +kernel
theorem dX9_bytesIn_12 : decode cX9_bytesIn 12 = .ok (.iushr, 1) := by decide +kernel
theorem dX9_bytesIn_13 : decode cX9_bytesIn 13 = .ok (.sipush 255, 3) := by decide +kernel
theorem dX9_bytesIn_16 : decode cX9_bytesIn 16 = .ok (.iand, 1) := by decide +kernel
theorem dX9_bytesIn_17 : decode cX9_bytesIn 17 = .ok (.ifCond .eq 7, 3) := by decide +kernel
theorem dX9_bytesIn_20 : decode cX9_bytesIn 20 = .ok (.iconst 1, 1) := by decide +kernel
theorem dX9_bytesIn_21 : decode cX9_bytesIn 21 = .ok (.goto 4, 3) := by decide +kernel
theorem dX9_bytesIn_24 : decode cX9_bytesIn 24 = .ok (.iconst 0, 1) := by decide +kernel
theorem dX9_bytesIn_25 : decode cX9_bytesIn 25 = .ok (.iadd, 1) := by decide +kernel
theorem dX9_bytesIn_26 : decode cX9_bytesIn 26 = .ok (.istore_n 1, 1) := by decide +kernel
theorem dX9_bytesIn_27 : decode cX9_bytesIn 27 = .ok (.iinc 2 (-8), 3) := by decide +kernel
theorem dX9_bytesIn_30 : decode cX9_bytesIn 30 = .ok (.goto (-25), 3) := by decide +kernel
theorem dX9_bytesIn_33 : decode cX9_bytesIn 33 = .ok (.iload_n 1, 1) := by decide +kernel
theorem dX9_bytesIn_34 : decode cX9_bytesIn 34 = .ok (.ireturn, 1) := by decide +kernel
theorem dX9_append_0 : decode cX9_append 0 = .ok (.bipush 24, 2) := by decide +kernel
theorem dX9_append_2 : decode cX9_append 2 = .ok (.istore_n 2, 1) := by decide +kernel
theorem dX9_append_3 : decode cX9_append 3 = .ok (.iload_n 2, 1) := by decide +kernel
theorem dX9_append_4 : decode cX9_append 4 = .ok (.ifCond .lt 53, 3) := by decide +kernel
theorem dX9_append_7 : decode cX9_append 7 = .ok (.iload_n 1, 1) := by decide +kernel
theorem dX9_append_8 : decode cX9_append 8 = .ok (.iload_n 2, 1) := by decide +kernel
theorem dX9_append_9 : decode cX9_append 9 = .ok (.iushr, 1) := by decide +kernel
theorem dX9_append_10 : decode cX9_append 10 = .ok (.sipush 255, 3) := by decide +kernel
theorem dX9_append_13 : decode cX9_append 13 = .ok (.iand, 1) := by decide +kernel
theorem dX9_append_14 : decode cX9_append 14 = .ok (.istore_n 3, 1) := by decide +kernel
theorem dX9_append_15 : decode cX9_append 15 = .ok (.iload_n 3, 1) := by decide +kernel
theorem dX9_append_16 : decode cX9_append 16 = .ok (.ifCond .eq 35, 3) := by decide +kernel
theorem dX9_append_19 : decode cX9_append 19 = .ok (.aload_n 0, 1) := by decide +kernel
theorem dX9_append_20 : decode cX9_append 20 = .ok (.getfield 19, 3) := by decide +kernel
theorem dX9_append_23 : decode cX9_append 23 = .ok (.sipush 240, 3) := by decide +kernel
theorem dX9_append_26 : decode cX9_append 26 = .ok (.if_icmp .ge 25, 3) := by decide +kernel
theorem dX9_append_29 : decode cX9_append 29 = .ok (.aload_n 0, 1) := by decide +kernel
theorem dX9_append_30 : decode cX9_append 30 = .ok (.getfield 9, 3) := by decide +kernel
theorem dX9_append_33 : decode cX9_append 33 = .ok (.aload_n 0, 1) := by decide +kernel
theorem dX9_append_34 : decode cX9_append 34 = .ok (.getfield 19, 3) := by decide +kernel
theorem dX9_append_37 : decode cX9_append 37 = .ok (.iload_n 3, 1) := by decide +kernel
theorem dX9_append_38 : decode cX9_append 38 = .ok (.invokestatic 22, 3) := by decide +kernel
theorem dX9_append_41 : decode cX9_append 41 = .ok (.aload_n 0, 1) := by decide +kernel
theorem dX9_append_42 : decode cX9_append 42 = .ok (.dup, 1) := by decide +kernel
theorem dX9_append_43 : decode cX9_append 43 = .ok (.getfield 19, 3) := by decide +kernel
theorem dX9_append_46 : decode cX9_append 46 = .ok (.iconst 1, 1) := by decide +kernel
theorem dX9_append_47 : decode cX9_append 47 = .ok (.iadd, 1) := by decide +kernel
theorem dX9_append_48 : decode cX9_append 48 = .ok (.putfield 19, 3) := by decide +kernel
theorem dX9_append_51 : decode cX9_append 51 = .ok (.iinc 2 (-8), 3) := by decide +kernel
theorem dX9_append_54 : decode cX9_append 54 = .ok (.goto (-51), 3) := by decide +kernel
theorem dX9_append_57 : decode cX9_append 57 = .ok (.return_, 1) := by decide +kernel
theorem dX9_rewind_0 : decode cX9_rewind 0 = .ok (.aload_n 0, 1) := by decide +kernel
theorem dX9_rewind_1 : decode cX9_rewind 1 = .ok (.iconst 0, 1) := by decide +kernel
theorem dX9_rewind_2 : decode cX9_rewind 2 = .ok (.putfield 26, 3) := by decide +kernel
theorem dX9_rewind_5 : decode cX9_rewind 5 = .ok (.aload_n 0, 1) := by decide +kernel
theorem dX9_rewind_6 : decode cX9_rewind 6 = .ok (.iconst (-1), 1) := by decide +kernel
theorem dX9_rewind_7 : decode cX9_rewind 7 = .ok (.putfield 15, 3) := by decide +kernel
theorem dX9_rewind_10 : decode cX9_rewind 10 = .ok (.return_, 1) := by decide +kernel
theorem dX9_next_0 : decode cX9_next 0 = .ok (.aload_n 0, 1) := by decide +kernel
theorem dX9_next_1 : decode cX9_next 1 = .ok (.getfield 26, 3) := by decide +kernel
theorem dX9_next_4 : decode cX9_next 4 = .ok (.aload_n 0, 1) := by decide +kernel
theorem dX9_next_5 : decode cX9_next 5 = .ok (.getfield 19, 3) := by decide +kernel
theorem dX9_next_8 : decode cX9_next 8 = .ok (.if_icmp .ge 32, 3) := by decide +kernel
theorem dX9_next_11 : decode cX9_next 11 = .ok (.aload_n 0, 1) := by decide +kernel
theorem dX9_next_12 : decode cX9_next 12 = .ok (.getfield 9, 3) := by decide +kernel
theorem dX9_next_15 : decode cX9_next 15 = .ok (.aload_n 0, 1) := by decide +kernel
theorem dX9_next_16 : decode cX9_next 16 = .ok (.getfield 26, 3) := by decide +kernel
theorem dX9_next_19 : decode cX9_next 19 = .ok (.invokestatic 29, 3) := by decide +kernel
theorem dX9_next_22 : decode cX9_next 22 = .ok (.bipush 32, 2) := by decide +kernel
theorem dX9_next_24 : decode cX9_next 24 = .ok (.if_icmp .ne 16, 3) := by decide +kernel
theorem dX9_next_27 : decode cX9_next 27 = .ok (.aload_n 0, 1) := by decide +kernel
theorem dX9_next_28 : decode cX9_next 28 = .ok (.dup, 1) := by decide +kernel
theorem dX9_next_29 : decode cX9_next 29 = .ok (.getfield 26, 3) := by decide +kernel
theorem dX9_next_32 : decode cX9_next 32 = .ok (.iconst 1, 1) := by decide +kernel
theorem dX9_next_33 : decode cX9_next 33 = .ok (.iadd, 1) := by decide +kernel
theorem dX9_next_34 : decode cX9_next 34 = .ok (.putfield 26, 3) := by decide +kernel
theorem dX9_next_37 : decode cX9_next 37 = .ok (.goto (-37), 3) := by decide +kernel
theorem dX9_next_40 : decode cX9_next 40 = .ok (.aload_n 0, 1) := by decide +kernel
theorem dX9_next_41 : decode cX9_next 41 = .ok (.getfield 15, 3) := by decide +kernel
theorem dX9_next_44 : decode cX9_next 44 = .ok (.iconst (-1), 1) := by decide +kernel
theorem dX9_next_45 : decode cX9_next 45 = .ok (.if_icmp .ne 14, 3) := by decide +kernel
theorem dX9_next_48 : decode cX9_next 48 = .ok (.aload_n 0, 1) := by decide +kernel
theorem dX9_next_49 : decode cX9_next 49 = .ok (.getfield 26, 3) := by decide +kernel
theorem dX9_next_52 : decode cX9_next 52 = .ok (.aload_n 0, 1) := by decide +kernel
theorem dX9_next_53 : decode cX9_next 53 = .ok (.getfield 19, 3) := by decide +kernel
theorem dX9_next_56 : decode cX9_next 56 = .ok (.if_icmp .lt 7, 3) := by decide +kernel
theorem dX9_next_59 : decode cX9_next 59 = .ok (.iconst (-1), 1) := by decide +kernel
theorem dX9_next_60 : decode cX9_next 60 = .ok (.goto 14, 3) := by decide +kernel
theorem dX9_next_63 : decode cX9_next 63 = .ok (.aload_n 0, 1) := by decide +kernel
theorem dX9_next_64 : decode cX9_next 64 = .ok (.getfield 9, 3) := by decide +kernel
theorem dX9_next_67 : decode cX9_next 67 = .ok (.aload_n 0, 1) := by decide +kernel
theorem dX9_next_68 : decode cX9_next 68 = .ok (.getfield 26, 3) := by decide +kernel
theorem dX9_next_71 : decode cX9_next 71 = .ok (.invokestatic 29, 3) := by decide +kernel
theorem dX9_next_74 : decode cX9_next 74 = .ok (.ireturn, 1) := by decide +kernel
theorem dX9_take_0 : decode cX9_take 0 = .ok (.aload_n 0, 1) := by decide +kernel
theorem dX9_take_1 : decode cX9_take 1 = .ok (.invokevirtual 33, 3) := by decide +kernel
theorem dX9_take_4 : decode cX9_take 4 = .ok (.iload_n 1, 1) := by decide +kernel
theorem dX9_take_5 : decode cX9_take 5 = .ok (.if_icmp .eq 5, 3) := by decide +kernel
theorem dX9_take_8 : decode cX9_take 8 = .ok (.iconst 0, 1) := by decide +kernel
theorem dX9_take_9 : decode cX9_take 9 = .ok (.ireturn, 1) := by decide +kernel
theorem dX9_take_10 : decode cX9_take 10 = .ok (.aload_n 0, 1) := by decide +kernel
theorem dX9_take_11 : decode cX9_take 11 = .ok (.dup, 1) := by decide +kernel
theorem dX9_take_12 : decode cX9_take 12 = .ok (.getfield 26, 3) := by decide +kernel
theorem dX9_take_15 : decode cX9_take 15 = .ok (.iconst 1, 1) := by decide +kernel
theorem dX9_take_16 : decode cX9_take 16 = .ok (.iadd, 1) := by decide +kernel
theorem dX9_take_17 : decode cX9_take 17 = .ok (.putfield 26, 3) := by decide +kernel
theorem dX9_take_20 : decode cX9_take 20 = .ok (.iconst 1, 1) := by decide +kernel
theorem dX9_take_21 : decode cX9_take 21 = .ok (.ireturn, 1) := by decide +kernel
theorem dX9_blame_0 : decode cX9_blame 0 = .ok (.aload_n 0, 1) := by decide +kernel
theorem dX9_blame_1 : decode cX9_blame 1 = .ok (.getfield 15, 3) := by decide +kernel
theorem dX9_blame_4 : decode cX9_blame 4 = .ok (.iconst (-1), 1) := by decide +kernel
theorem dX9_blame_5 : decode cX9_blame 5 = .ok (.if_icmp .ne 8, 3) := by decide +kernel
theorem dX9_blame_8 : decode cX9_blame 8 = .ok (.aload_n 0, 1) := by decide +kernel
theorem dX9_blame_9 : decode cX9_blame 9 = .ok (.iload_n 1, 1) := by decide +kernel
theorem dX9_blame_10 : decode cX9_blame 10 = .ok (.putfield 15, 3) := by decide +kernel
theorem dX9_blame_13 : decode cX9_blame 13 = .ok (.return_, 1) := by decide +kernel
theorem dX9_number_0 : decode cX9_number 0 = .ok (.aload_n 0, 1) := by decide +kernel
theorem dX9_number_1 : decode cX9_number 1 = .ok (.invokevirtual 33, 3) := by decide +kernel
theorem dX9_number_4 : decode cX9_number 4 = .ok (.istore_n 2, 1) := by decide +kernel
theorem dX9_number_5 : decode cX9_number 5 = .ok (.iconst 0, 1) := by decide +kernel
theorem dX9_number_6 : decode cX9_number 6 = .ok (.istore_n 3, 1) := by decide +kernel
theorem dX9_number_7 : decode cX9_number 7 = .ok (.iconst 0, 1) := by decide +kernel
theorem dX9_number_8 : decode cX9_number 8 = .ok (.istore 4, 2) := by decide +kernel
theorem dX9_number_10 : decode cX9_number 10 = .ok (.iload 4, 2) := by decide +kernel
theorem dX9_number_12 : decode cX9_number 12 = .ok (.iload_n 1, 1) := by decide +kernel
theorem dX9_number_13 : decode cX9_number 13 = .ok (.if_icmp .ge 63, 3) := by decide +kernel
theorem dX9_number_16 : decode cX9_number 16 = .ok (.iload_n 2, 1) := by decide +kernel
theorem dX9_number_17 : decode cX9_number 17 = .ok (.invokestatic 37, 3) := by decide +kernel
theorem dX9_number_20 : decode cX9_number 20 = .ok (.ifCond .eq 56, 3) := by decide +kernel
theorem dX9_number_23 : decode cX9_number 23 = .ok (.iload_n 3, 1) := by decide +kernel
theorem dX9_number_24 : decode cX9_number 24 = .ok (.bipush 10, 2) := by decide +kernel
theorem dX9_number_26 : decode cX9_number 26 = .ok (.imul, 1) := by decide +kernel
theorem dX9_number_27 : decode cX9_number 27 = .ok (.iload_n 2, 1) := by decide +kernel
theorem dX9_number_28 : decode cX9_number 28 = .ok (.iadd, 1) := by decide +kernel
theorem dX9_number_29 : decode cX9_number 29 = .ok (.bipush 48, 2) := by decide +kernel
theorem dX9_number_31 : decode cX9_number 31 = .ok (.isub, 1) := by decide +kernel
theorem dX9_number_32 : decode cX9_number 32 = .ok (.istore_n 3, 1) := by decide +kernel
theorem dX9_number_33 : decode cX9_number 33 = .ok (.aload_n 0, 1) := by decide +kernel
theorem dX9_number_34 : decode cX9_number 34 = .ok (.dup, 1) := by decide +kernel
theorem dX9_number_35 : decode cX9_number 35 = .ok (.getfield 26, 3) := by decide +kernel
theorem dX9_number_38 : decode cX9_number 38 = .ok (.iconst 1, 1) := by decide +kernel
theorem dX9_number_39 : decode cX9_number 39 = .ok (.iadd, 1) := by decide +kernel
theorem dX9_number_40 : decode cX9_number 40 = .ok (.putfield 26, 3) := by decide +kernel
theorem dX9_number_43 : decode cX9_number 43 = .ok (.aload_n 0, 1) := by decide +kernel
theorem dX9_number_44 : decode cX9_number 44 = .ok (.getfield 26, 3) := by decide +kernel
theorem dX9_number_47 : decode cX9_number 47 = .ok (.aload_n 0, 1) := by decide +kernel
theorem dX9_number_48 : decode cX9_number 48 = .ok (.getfield 19, 3) := by decide +kernel
theorem dX9_number_51 : decode cX9_number 51 = .ok (.if_icmp .ge 17, 3) := by decide +kernel
theorem dX9_number_54 : decode cX9_number 54 = .ok (.aload_n 0, 1) := by decide +kernel
theorem dX9_number_55 : decode cX9_number 55 = .ok (.getfield 9, 3) := by decide +kernel
theorem dX9_number_58 : decode cX9_number 58 = .ok (.aload_n 0, 1) := by decide +kernel
theorem dX9_number_59 : decode cX9_number 59 = .ok (.getfield 26, 3) := by decide +kernel
theorem dX9_number_62 : decode cX9_number 62 = .ok (.invokestatic 29, 3) := by decide +kernel
theorem dX9_number_65 : decode cX9_number 65 = .ok (.goto 4, 3) := by decide +kernel
theorem dX9_number_68 : decode cX9_number 68 = .ok (.iconst (-1), 1) := by decide +kernel
theorem dX9_number_69 : decode cX9_number 69 = .ok (.istore_n 2, 1) := by decide +kernel
theorem dX9_number_70 : decode cX9_number 70 = .ok (.iinc 4 1, 3) := by decide +kernel
theorem dX9_number_73 : decode cX9_number 73 = .ok (.goto (-63), 3) := by decide +kernel
theorem dX9_number_76 : decode cX9_number 76 = .ok (.iload 4, 2) := by decide +kernel
theorem dX9_number_78 : decode cX9_number 78 = .ok (.ifCond .eq 10, 3) := by decide +kernel
theorem dX9_number_81 : decode cX9_number 81 = .ok (.iload_n 2, 1) := by decide +kernel
theorem dX9_number_82 : decode cX9_number 82 = .ok (.invokestatic 37, 3) := by decide +kernel
theorem dX9_number_85 : decode cX9_number 85 = .ok (.ifCond .eq 11, 3) := by decide +kernel
theorem dX9_number_88 : decode cX9_number 88 = .ok (.aload_n 0, 1) := by decide +kernel
theorem dX9_number_89 : decode cX9_number 89 = .ok (.aload_n 0, 1) := by decide +kernel
theorem dX9_number_90 : decode cX9_number 90 = .ok (.getfield 26, 3) := by decide +kernel
theorem dX9_number_93 : decode cX9_number 93 = .ok (.invokevirtual 41, 3) := by decide +kernel
theorem dX9_number_96 : decode cX9_number 96 = .ok (.iload_n 3, 1) := by decide +kernel
theorem dX9_number_97 : decode cX9_number 97 = .ok (.ireturn, 1) := by decide +kernel
theorem dX9_close_0 : decode cX9_close 0 = .ok (.aload_n 0, 1) := by decide +kernel
theorem dX9_close_1 : decode cX9_close 1 = .ok (.invokevirtual 33, 3) := by decide +kernel
theorem dX9_close_4 : decode cX9_close 4 = .ok (.iconst (-1), 1) := by decide +kernel
theorem dX9_close_5 : decode cX9_close 5 = .ok (.if_icmp .eq 11, 3) := by decide +kernel
theorem dX9_close_8 : decode cX9_close 8 = .ok (.aload_n 0, 1) := by decide +kernel
theorem dX9_close_9 : decode cX9_close 9 = .ok (.aload_n 0, 1) := by decide +kernel
theorem dX9_close_10 : decode cX9_close 10 = .ok (.getfield 26, 3) := by decide +kernel
theorem dX9_close_13 : decode cX9_close 13 = .ok (.invokevirtual 41, 3) := by decide +kernel
theorem dX9_close_16 : decode cX9_close 16 = .ok (.aload_n 0, 1) := by decide +kernel
theorem dX9_close_17 : decode cX9_close 17 = .ok (.getfield 15, 3) := by decide +kernel
theorem dX9_close_20 : decode cX9_close 20 = .ok (.ireturn, 1) := by decide +kernel
theorem dX9_isDigit_0 : decode cX9_isDigit 0 = .ok (.iload_n 0, 1) := by decide +kernel
theorem dX9_isDigit_1 : decode cX9_isDigit 1 = .ok (.bipush 48, 2) := by decide +kernel
theorem dX9_isDigit_3 : decode cX9_isDigit 3 = .ok (.if_icmp .lt 13, 3) := by decide +kernel
theorem dX9_isDigit_6 : decode cX9_isDigit 6 = .ok (.iload_n 0, 1) := by decide +kernel
theorem dX9_isDigit_7 : decode cX9_isDigit 7 = .ok (.bipush 57, 2) := by decide +kernel
theorem dX9_isDigit_9 : decode cX9_isDigit 9 = .ok (.if_icmp .gt 7, 3) := by decide +kernel
theorem dX9_isDigit_12 : decode cX9_isDigit 12 = .ok (.iconst 1, 1) := by decide +kernel
theorem dX9_isDigit_13 : decode cX9_isDigit 13 = .ok (.goto 4, 3) := by decide +kernel
theorem dX9_isDigit_16 : decode cX9_isDigit 16 = .ok (.iconst 0, 1) := by decide +kernel
theorem dX9_isDigit_17 : decode cX9_isDigit 17 = .ok (.ireturn, 1) := by decide +kernel
theorem dX10_init_0 : decode cX10_init 0 = .ok (.aload_n 0, 1) := by decide +kernel
theorem dX10_init_1 : decode cX10_init 1 = .ok (.invokespecial 1, 3) := by decide +kernel
theorem dX10_init_4 : decode cX10_init 4 = .ok (.aload_n 0, 1) := by decide +kernel
theorem dX10_init_5 : decode cX10_init 5 = .ok (.new 7, 3) := by decide +kernel
theorem dX10_init_8 : decode cX10_init 8 = .ok (.dup, 1) := by decide +kernel
theorem dX10_init_9 : decode cX10_init 9 = .ok (.invokespecial 9, 3) := by decide +kernel
theorem dX10_init_12 : decode cX10_init 12 = .ok (.putfield 10, 3) := by decide +kernel
theorem dX10_init_15 : decode cX10_init 15 = .ok (.aload_n 0, 1) := by decide +kernel
theorem dX10_init_16 : decode cX10_init 16 = .ok (.new 16, 3) := by decide +kernel
theorem dX10_init_19 : decode cX10_init 19 = .ok (.dup, 1) := by decide +kernel
theorem dX10_init_20 : decode cX10_init 20 = .ok (.invokespecial 18, 3) := by decide +kernel
theorem dX10_init_23 : decode cX10_init 23 = .ok (.putfield 19, 3) := by decide +kernel
theorem dX10_init_26 : decode cX10_init 26 = .ok (.aload_n 0, 1) := by decide +kernel
theorem dX10_init_27 : decode cX10_init 27 = .ok (.new 16, 3) := by decide +kernel
theorem dX10_init_30 : decode cX10_init 30 = .ok (.dup, 1) := by decide +kernel
theorem dX10_init_31 : decode cX10_init 31 = .ok (.invokespecial 18, 3) := by decide +kernel
theorem dX10_init_34 : decode cX10_init 34 = .ok (.putfield 23, 3) := by decide +kernel
theorem dX10_init_37 : decode cX10_init 37 = .ok (.aload_n 0, 1) := by decide +kernel
theorem dX10_init_38 : decode cX10_init 38 = .ok (.new 26, 3) := by decide +kernel
theorem dX10_init_41 : decode cX10_init 41 = .ok (.dup, 1) := by decide +kernel
theorem dX10_init_42 : decode cX10_init 42 = .ok (.invokespecial 28, 3) := by decide +kernel
theorem dX10_init_45 : decode cX10_init 45 = .ok (.putfield 29, 3) := by decide +kernel
theorem dX10_init_48 : decode cX10_init 48 = .ok (.aload_n 0, 1) := by decide +kernel
theorem dX10_init_49 : decode cX10_init 49 = .ok (.new 33, 3) := by decide +kernel
theorem dX10_init_52 : decode cX10_init 52 = .ok (.dup, 1) := by decide +kernel
theorem dX10_init_53 : decode cX10_init 53 = .ok (.invokespecial 35, 3) := by decide +kernel
theorem dX10_init_56 : decode cX10_init 56 = .ok (.putfield 36, 3) := by decide +kernel
theorem dX10_init_59 : decode cX10_init 59 = .ok (.aload_n 0, 1) := by decide +kernel
theorem dX10_init_60 : decode cX10_init 60 = .ok (.new 40, 3) := by decide +kernel
theorem dX10_init_63 : decode cX10_init 63 = .ok (.dup, 1) := by decide +kernel
theorem dX10_init_64 : decode cX10_init 64 = .ok (.invokespecial 42, 3) := by decide +kernel
theorem dX10_init_67 : decode cX10_init 67 = .ok (.putfield 43, 3) := by decide +kernel
theorem dX10_init_70 : decode cX10_init 70 = .ok (.aload_n 0, 1) := by decide +kernel
theorem dX10_init_71 : decode cX10_init 71 = .ok (.new 47, 3) := by decide +kernel
theorem dX10_init_74 : decode cX10_init 74 = .ok (.dup, 1) := by decide +kernel
theorem dX10_init_75 : decode cX10_init 75 = .ok (.sipush 420, 3) := by decide +kernel
theorem dX10_init_78 : decode cX10_init 78 = .ok (.invokespecial 49, 3) := by decide +kernel
theorem dX10_init_81 : decode cX10_init 81 = .ok (.putfield 52, 3) := by decide +kernel
theorem dX10_init_84 : decode cX10_init 84 = .ok (.aload_n 0, 1) := by decide +kernel
theorem dX10_init_85 : decode cX10_init 85 = .ok (.new 47, 3) := by decide +kernel
theorem dX10_init_88 : decode cX10_init 88 = .ok (.dup, 1) := by decide +kernel
theorem dX10_init_89 : decode cX10_init 89 = .ok (.iconst 0, 1) := by decide +kernel
theorem dX10_init_90 : decode cX10_init 90 = .ok (.invokespecial 49, 3) := by decide +kernel
theorem dX10_init_93 : decode cX10_init 93 = .ok (.putfield 56, 3) := by decide +kernel
theorem dX10_init_96 : decode cX10_init 96 = .ok (.aload_n 0, 1) := by decide +kernel
theorem dX10_init_97 : decode cX10_init 97 = .ok (.new 47, 3) := by decide +kernel
theorem dX10_init_100 : decode cX10_init 100 = .ok (.dup, 1) := by decide +kernel
theorem dX10_init_101 : decode cX10_init 101 = .ok (.sipush 420, 3) := by decide +kernel
theorem dX10_init_104 : decode cX10_init 104 = .ok (.invokespecial 49, 3) := by decide +kernel
theorem dX10_init_107 : decode cX10_init 107 = .ok (.putfield 59, 3) := by decide +kernel
theorem dX10_init_110 : decode cX10_init 110 = .ok (.aload_n 0, 1) := by decide +kernel
theorem dX10_init_111 : decode cX10_init 111 = .ok (.new 62, 3) := by decide +kernel
theorem dX10_init_114 : decode cX10_init 114 = .ok (.dup, 1) := by decide +kernel
theorem dX10_init_115 : decode cX10_init 115 = .ok (.invokespecial 64, 3) := by decide +kernel
theorem dX10_init_118 : decode cX10_init 118 = .ok (.putfield 65, 3) := by decide +kernel
theorem dX10_init_121 : decode cX10_init 121 = .ok (.aload_n 0, 1) := by decide +kernel
theorem dX10_init_122 : decode cX10_init 122 = .ok (.new 69, 3) := by decide +kernel
theorem dX10_init_125 : decode cX10_init 125 = .ok (.dup, 1) := by decide +kernel
theorem dX10_init_126 : decode cX10_init 126 = .ok (.invokespecial 71, 3) := by decide +kernel
theorem dX10_init_129 : decode cX10_init 129 = .ok (.putfield 72, 3) := by decide +kernel
theorem dX10_init_132 : decode cX10_init 132 = .ok (.aload_n 0, 1) := by decide +kernel
theorem dX10_init_133 : decode cX10_init 133 = .ok (.new 76, 3) := by decide +kernel
theorem dX10_init_136 : decode cX10_init 136 = .ok (.dup, 1) := by decide +kernel
theorem dX10_init_137 : decode cX10_init 137 = .ok (.invokespecial 78, 3) := by decide +kernel
theorem dX10_init_140 : decode cX10_init 140 = .ok (.putfield 79, 3) := by decide +kernel
theorem dX10_init_143 : decode cX10_init 143 = .ok (.aload_n 0, 1) := by decide +kernel
theorem dX10_init_144 : decode cX10_init 144 = .ok (.new 83, 3) := by decide +kernel
theorem dX10_init_147 : decode cX10_init 147 = .ok (.dup, 1) := by decide +kernel
theorem dX10_init_148 : decode cX10_init 148 = .ok (.invokespecial 85, 3) := by decide +kernel
theorem dX10_init_151 : decode cX10_init 151 = .ok (.putfield 86, 3) := by decide +kernel
theorem dX10_init_154 : decode cX10_init 154 = .ok (.return_, 1) := by decide +kernel
theorem dX10_feed_0 : decode cX10_feed 0 = .ok (.iload_n 1, 1) := by decide +kernel
theorem dX10_feed_1 : decode cX10_feed 1 = .ok (.invokestatic 90, 3) := by decide +kernel
theorem dX10_feed_4 : decode cX10_feed 4 = .ok (.iload_n 2, 1) := by decide +kernel
theorem dX10_feed_5 : decode cX10_feed 5 = .ok (.invokestatic 90, 3) := by decide +kernel
theorem dX10_feed_8 : decode cX10_feed 8 = .ok (.iadd, 1) := by decide +kernel
theorem dX10_feed_9 : decode cX10_feed 9 = .ok (.iload_n 3, 1) := by decide +kernel
theorem dX10_feed_10 : decode cX10_feed 10 = .ok (.invokestatic 90, 3) := by decide +kernel
theorem dX10_feed_13 : decode cX10_feed 13 = .ok (.iadd, 1) := by decide +kernel
theorem dX10_feed_14 : decode cX10_feed 14 = .ok (.iload 4, 2) := by decide +kernel
theorem dX10_feed_16 : decode cX10_feed 16 = .ok (.invokestatic 90, 3) := by decide +kernel
theorem dX10_feed_19 : decode cX10_feed 19 = .ok (.iadd, 1) := by decide +kernel
theorem dX10_feed_20 : decode cX10_feed 20 = .ok (.iload 5, 2) := by decide +kernel
theorem dX10_feed_22 : decode cX10_feed 22 = .ok (.invokestatic 90, 3) := by decide +kernel
theorem dX10_feed_25 : decode cX10_feed 25 = .ok (.iadd, 1) := by decide +kernel
theorem dX10_feed_26 : decode cX10_feed 26 = .ok (.istore 6, 2) := by decide +kernel
theorem dX10_feed_28 : decode cX10_feed 28 = .ok (.aload_n 0, 1) := by decide +kernel
theorem dX10_feed_29 : decode cX10_feed 29 = .ok (.getfield 10, 3) := by decide +kernel
theorem dX10_feed_32 : decode cX10_feed 32 = .ok (.getfield 94, 3) := by decide +kernel
theorem dX10_feed_35 : decode cX10_feed 35 = .ok (.iload 6, 2) := by decide +kernel
theorem dX10_feed_37 : decode cX10_feed 37 = .ok (.iadd, 1) := by decide +kernel
theorem dX10_feed_38 : decode cX10_feed 38 = .ok (.sipush 240, 3) := by decide +kernel
theorem dX10_feed_41 : decode cX10_feed 41 = .ok (.if_icmp .le 5, 3) := by decide +kernel
theorem dX10_feed_44 : decode cX10_feed 44 = .ok (.iconst (-1), 1) := by decide +kernel
theorem dX10_feed_45 : decode cX10_feed 45 = .ok (.ireturn, 1) := by decide +kernel
theorem dX10_feed_46 : decode cX10_feed 46 = .ok (.aload_n 0, 1) := by decide +kernel
theorem dX10_feed_47 : decode cX10_feed 47 = .ok (.getfield 10, 3) := by decide +kernel
theorem dX10_feed_50 : decode cX10_feed 50 = .ok (.iload_n 1, 1) := by decide +kernel
theorem dX10_feed_51 : decode cX10_feed 51 = .ok (.invokevirtual 98, 3) := by decide +kernel
theorem dX10_feed_54 : decode cX10_feed 54 = .ok (.aload_n 0, 1) := by decide +kernel
theorem dX10_feed_55 : decode cX10_feed 55 = .ok (.getfield 10, 3) := by decide +kernel
theorem dX10_feed_58 : decode cX10_feed 58 = .ok (.iload_n 2, 1) := by decide +kernel
theorem dX10_feed_59 : decode cX10_feed 59 = .ok (.invokevirtual 98, 3) := by decide +kernel
theorem dX10_feed_62 : decode cX10_feed 62 = .ok (.aload_n 0, 1) := by decide +kernel
theorem dX10_feed_63 : decode cX10_feed 63 = .ok (.getfield 10, 3) := by decide +kernel
theorem dX10_feed_66 : decode cX10_feed 66 = .ok (.iload_n 3, 1) := by decide +kernel
theorem dX10_feed_67 : decode cX10_feed 67 = .ok (.invokevirtual 98, 3) := by decide +kernel
theorem dX10_feed_70 : decode cX10_feed 70 = .ok (.aload_n 0, 1) := by decide +kernel
theorem dX10_feed_71 : decode cX10_feed 71 = .ok (.getfield 10, 3) := by decide +kernel
theorem dX10_feed_74 : decode cX10_feed 74 = .ok (.iload 4, 2) := by decide +kernel
theorem dX10_feed_76 : decode cX10_feed 76 = .ok (.invokevirtual 98, 3) := by decide +kernel
theorem dX10_feed_79 : decode cX10_feed 79 = .ok (.aload_n 0, 1) := by decide +kernel
theorem dX10_feed_80 : decode cX10_feed 80 = .ok (.getfield 10, 3) := by decide +kernel
theorem dX10_feed_83 : decode cX10_feed 83 = .ok (.iload 5, 2) := by decide +kernel
theorem dX10_feed_85 : decode cX10_feed 85 = .ok (.invokevirtual 98, 3) := by decide +kernel
theorem dX10_feed_88 : decode cX10_feed 88 = .ok (.aload_n 0, 1) := by decide +kernel
theorem dX10_feed_89 : decode cX10_feed 89 = .ok (.getfield 10, 3) := by decide +kernel
theorem dX10_feed_92 : decode cX10_feed 92 = .ok (.getfield 94, 3) := by decide +kernel
theorem dX10_feed_95 : decode cX10_feed 95 = .ok (.ireturn, 1) := by decide +kernel
theorem dX10_end_0 : decode cX10_end 0 = .ok (.iload_n 1, 1) := by decide +kernel
theorem dX10_end_1 : decode cX10_end 1 = .ok (.ifCond .lt 14, 3) := by decide +kernel
theorem dX10_end_4 : decode cX10_end 4 = .ok (.iload_n 1, 1) := by decide +kernel
theorem dX10_end_5 : decode cX10_end 5 = .ok (.aload_n 0, 1) := by decide +kernel
theorem dX10_end_6 : decode cX10_end 6 = .ok (.getfield 10, 3) := by decide +kernel
theorem dX10_end_9 : decode cX10_end 9 = .ok (.getfield 94, 3) := by decide +kernel
theorem dX10_end_12 : decode cX10_end 12 = .ok (.if_icmp .le 5, 3) := by decide +kernel
theorem dX10_end_15 : decode cX10_end 15 = .ok (.iconst 0, 1) := by decide +kernel
theorem dX10_end_16 : decode cX10_end 16 = .ok (.ireturn, 1) := by decide +kernel
theorem dX10_end_17 : decode cX10_end 17 = .ok (.aload_n 0, 1) := by decide +kernel
theorem dX10_end_18 : decode cX10_end 18 = .ok (.getfield 10, 3) := by decide +kernel
theorem dX10_end_21 : decode cX10_end 21 = .ok (.iload_n 1, 1) := by decide +kernel
theorem dX10_end_22 : decode cX10_end 22 = .ok (.putfield 94, 3) := by decide +kernel
theorem dX10_end_25 : decode cX10_end 25 = .ok (.iconst 1, 1) := by decide +kernel
theorem dX10_end_26 : decode cX10_end 26 = .ok (.ireturn, 1) := by decide +kernel
theorem dX10_fault_0 : decode cX10_fault 0 = .ok (.iload_n 1, 1) := by decide +kernel
theorem dX10_fault_1 : decode cX10_fault 1 = .ok (.ifCond .ne 15, 3) := by decide +kernel
theorem dX10_fault_4 : decode cX10_fault 4 = .ok (.aload_n 0, 1) := by decide +kernel
theorem dX10_fault_5 : decode cX10_fault 5 = .ok (.getfield 23, 3) := by decide +kernel
theorem dX10_fault_8 : decode cX10_fault 8 = .ok (.aload_n 0, 1) := by decide +kernel
theorem dX10_fault_9 : decode cX10_fault 9 = .ok (.getfield 10, 3) := by decide +kernel
theorem dX10_fault_12 : decode cX10_fault 12 = .ok (.invokevirtual 101, 3) := by decide +kernel
theorem dX10_fault_15 : decode cX10_fault 15 = .ok (.ireturn, 1) := by decide +kernel
theorem dX10_fault_16 : decode cX10_fault 16 = .ok (.iload_n 1, 1) := by decide +kernel
theorem dX10_fault_17 : decode cX10_fault 17 = .ok (.iconst 1, 1) := by decide +kernel
theorem dX10_fault_18 : decode cX10_fault 18 = .ok (.if_icmp .ne 15, 3) := by decide +kernel
theorem dX10_fault_21 : decode cX10_fault 21 = .ok (.aload_n 0, 1) := by decide +kernel
theorem dX10_fault_22 : decode cX10_fault 22 = .ok (.getfield 29, 3) := by decide +kernel
theorem dX10_fault_25 : decode cX10_fault 25 = .ok (.aload_n 0, 1) := by decide +kernel
theorem dX10_fault_26 : decode cX10_fault 26 = .ok (.getfield 10, 3) := by decide +kernel
theorem dX10_fault_29 : decode cX10_fault 29 = .ok (.invokevirtual 105, 3) := by decide +kernel
theorem dX10_fault_32 : decode cX10_fault 32 = .ok (.ireturn, 1) := by decide +kernel
theorem dX10_fault_33 : decode cX10_fault 33 = .ok (.iload_n 1, 1) := by decide +kernel
theorem dX10_fault_34 : decode cX10_fault 34 = .ok (.iconst 2, 1) := by decide +kernel
theorem dX10_fault_35 : decode cX10_fault 35 = .ok (.if_icmp .ne 17, 3) := by decide +kernel
theorem dX10_fault_38 : decode cX10_fault 38 = .ok (.aload_n 0, 1) := by decide +kernel
theorem dX10_fault_39 : decode cX10_fault 39 = .ok (.getfield 43, 3) := by decide +kernel
theorem dX10_fault_42 : decode cX10_fault 42 = .ok (.aload_n 0, 1) := by decide +kernel
theorem dX10_fault_43 : decode cX10_fault 43 = .ok (.getfield 10, 3) := by decide +kernel
theorem dX10_fault_46 : decode cX10_fault 46 = .ok (.invokevirtual 106, 3) := by decide +kernel
theorem dX10_fault_49 : decode cX10_fault 49 = .ok (.goto 5, 3) := by decide +kernel
theorem dX10_fault_52 : decode cX10_fault 52 = .ok (.bipush (-2), 2) := by decide +kernel
theorem dX10_fault_54 : decode cX10_fault 54 = .ok (.ireturn, 1) := by decide +kernel
theorem dX10_text_0 : decode cX10_text 0 = .ok (.iload_n 1, 1) := by decide +kernel
theorem dX10_text_1 : decode cX10_text 1 = .ok (.iconst 1, 1) := by decide +kernel
theorem dX10_text_2 : decode cX10_text 2 = .ok (.if_icmp .ne 14, 3) := by decide +kernel
theorem dX10_text_5 : decode cX10_text 5 = .ok (.aload_n 0, 1) := by decide +kernel
theorem dX10_text_6 : decode cX10_text 6 = .ok (.getfield 36, 3) := by decide +kernel
theorem dX10_text_9 : decode cX10_text 9 = .ok (.getfield 107, 3) := by decide +kernel
theorem dX10_text_12 : decode cX10_text 12 = .ok (.iconst 4, 1) := by decide +kernel
theorem dX10_text_13 : decode cX10_text 13 = .ok (.if_icmp .eq 19, 3) := by decide +kernel
theorem dX10_text_16 : decode cX10_text 16 = .ok (.iload_n 1, 1) := by decide +kernel
theorem dX10_text_17 : decode cX10_text 17 = .ok (.iconst 2, 1) := by decide +kernel
theorem dX10_text_18 : decode cX10_text 18 = .ok (.if_icmp .ne 18, 3) := by decide +kernel
theorem dX10_text_21 : decode cX10_text 21 = .ok (.aload_n 0, 1) := by decide +kernel
theorem dX10_text_22 : decode cX10_text 22 = .ok (.getfield 43, 3) := by decide +kernel
theorem dX10_text_25 : decode cX10_text 25 = .ok (.getfield 110, 3) := by decide +kernel
theorem dX10_text_28 : decode cX10_text 28 = .ok (.iconst 4, 1) := by decide +kernel
theorem dX10_text_29 : decode cX10_text 29 = .ok (.if_icmp .ne 7, 3) := by decide +kernel
theorem dX10_text_32 : decode cX10_text 32 = .ok (.iconst 1, 1) := by decide +kernel
theorem dX10_text_33 : decode cX10_text 33 = .ok (.goto 4, 3) := by decide +kernel
theorem dX10_text_36 : decode cX10_text 36 = .ok (.iconst 0, 1) := by decide +kernel
theorem dX10_text_37 : decode cX10_text 37 = .ok (.istore_n 2, 1) := by decide +kernel
theorem dX10_text_38 : decode cX10_text 38 = .ok (.iload_n 2, 1) := by decide +kernel
theorem dX10_text_39 : decode cX10_text 39 = .ok (.ifCond .ne 12, 3) := by decide +kernel
theorem dX10_text_42 : decode cX10_text 42 = .ok (.aload_n 0, 1) := by decide +kernel
theorem dX10_text_43 : decode cX10_text 43 = .ok (.iload_n 1, 1) := by decide +kernel
theorem dX10_text_44 : decode cX10_text 44 = .ok (.invokevirtual 111, 3) := by decide +kernel
theorem dX10_text_47 : decode cX10_text 47 = .ok (.iconst (-1), 1) := by decide +kernel
theorem dX10_text_48 : decode cX10_text 48 = .ok (.if_icmp .eq 5, 3) := by decide +kernel
theorem dX10_text_51 : decode cX10_text 51 = .ok (.iconst (-1), 1) := by decide +kernel
theorem dX10_text_52 : decode cX10_text 52 = .ok (.ireturn, 1) := by decide +kernel
theorem dX10_text_53 : decode cX10_text 53 = .ok (.aload_n 0, 1) := by decide +kernel
theorem dX10_text_54 : decode cX10_text 54 = .ok (.getfield 10, 3) := by decide +kernel
theorem dX10_text_57 : decode cX10_text 57 = .ok (.iconst 0, 1) := by decide +kernel
theorem dX10_text_58 : decode cX10_text 58 = .ok (.putfield 94, 3) := by decide +kernel
theorem dX10_text_61 : decode cX10_text 61 = .ok (.iload_n 1, 1) := by decide +kernel
theorem dX10_text_62 : decode cX10_text 62 = .ok (.iconst 1, 1) := by decide +kernel
theorem dX10_text_63 : decode cX10_text 63 = .ok (.if_icmp .ne 15, 3) := by decide +kernel
theorem dX10_text_66 : decode cX10_text 66 = .ok (.aload_n 0, 1) := by decide +kernel
theorem dX10_text_67 : decode cX10_text 67 = .ok (.getfield 36, 3) := by decide +kernel
theorem dX10_text_70 : decode cX10_text 70 = .ok (.aload_n 0, 1) := by decide +kernel
theorem dX10_text_71 : decode cX10_text 71 = .ok (.getfield 29, 3) := by decide +kernel
theorem dX10_text_74 : decode cX10_text 74 = .ok (.invokevirtual 114, 3) := by decide +kernel
theorem dX10_text_77 : decode cX10_text 77 = .ok (.ireturn, 1) := by decide +kernel
theorem dX10_text_78 : decode cX10_text 78 = .ok (.iload_n 1, 1) := by decide +kernel
theorem dX10_text_79 : decode cX10_text 79 = .ok (.iconst 2, 1) := by decide +kernel
theorem dX10_text_80 : decode cX10_text 80 = .ok (.if_icmp .ne 11, 3) := by decide +kernel
theorem dX10_text_83 : decode cX10_text 83 = .ok (.aload_n 0, 1) := by decide +kernel
theorem dX10_text_84 : decode cX10_text 84 = .ok (.getfield 43, 3) := by decide +kernel
theorem dX10_text_87 : decode cX10_text 87 = .ok (.invokevirtual 118, 3) := by decide +kernel
theorem dX10_text_90 : decode cX10_text 90 = .ok (.ireturn, 1) := by decide +kernel
theorem dX10_text_91 : decode cX10_text 91 = .ok (.aload_n 0, 1) := by decide +kernel
theorem dX10_text_92 : decode cX10_text 92 = .ok (.invokevirtual 121, 3) := by decide +kernel
theorem dX10_text_95 : decode cX10_text 95 = .ok (.aload_n 0, 1) := by decide +kernel
theorem dX10_text_96 : decode cX10_text 96 = .ok (.getfield 19, 3) := by decide +kernel
theorem dX10_text_99 : decode cX10_text 99 = .ok (.iconst 1, 1) := by decide +kernel
theorem dX10_text_100 : decode cX10_text 100 = .ok (.invokevirtual 124, 3) := by decide +kernel
theorem dX10_text_103 : decode cX10_text 103 = .ok (.ireturn, 1) := by decide +kernel
theorem dX10_sun_0 : decode cX10_sun 0 = .ok (.aload_n 0, 1) := by decide +kernel
theorem dX10_sun_1 : decode cX10_sun 1 = .ok (.invokevirtual 126, 3) := by decide +kernel
theorem dX10_sun_4 : decode cX10_sun 4 = .ok (.ifCond .eq 12, 3) := by decide +kernel
theorem dX10_sun_7 : decode cX10_sun 7 = .ok (.iload_n 1, 1) := by decide +kernel
theorem dX10_sun_8 : decode cX10_sun 8 = .ok (.ifCond .lt 8, 3) := by decide +kernel
theorem dX10_sun_11 : decode cX10_sun 11 = .ok (.iload_n 1, 1) := by decide +kernel
theorem dX10_sun_12 : decode cX10_sun 12 = .ok (.iconst 1, 1) := by decide +kernel
theorem dX10_sun_13 : decode cX10_sun 13 = .ok (.if_icmp .le 7, 3) := by decide +kernel
theorem dX10_sun_16 : decode cX10_sun 16 = .ok (.iconst (-1), 1) := by decide +kernel
theorem dX10_sun_17 : decode cX10_sun 17 = .ok (.goto 13, 3) := by decide +kernel
theorem dX10_sun_20 : decode cX10_sun 20 = .ok (.aload_n 0, 1) := by decide +kernel
theorem dX10_sun_21 : decode cX10_sun 21 = .ok (.getfield 19, 3) := by decide +kernel
theorem dX10_sun_24 : decode cX10_sun 24 = .ok (.iconst 0, 1) := by decide +kernel
theorem dX10_sun_25 : decode cX10_sun 25 = .ok (.iconst 0, 1) := by decide +kernel
theorem dX10_sun_26 : decode cX10_sun 26 = .ok (.iload_n 1, 1) := by decide +kernel
theorem dX10_sun_27 : decode cX10_sun 27 = .ok (.invokevirtual 130, 3) := by decide +kernel
theorem dX10_sun_30 : decode cX10_sun 30 = .ok (.ireturn, 1) := by decide +kernel
theorem dX10_parish_0 : decode cX10_parish 0 = .ok (.aload_n 0, 1) := by decide +kernel
theorem dX10_parish_1 : decode cX10_parish 1 = .ok (.getfield 19, 3) := by decide +kernel
theorem dX10_parish_4 : decode cX10_parish 4 = .ok (.iconst 1, 1) := by decide +kernel
theorem dX10_parish_5 : decode cX10_parish 5 = .ok (.iload_n 1, 1) := by decide +kernel
theorem dX10_parish_6 : decode cX10_parish 6 = .ok (.invokevirtual 134, 3) := by decide +kernel
theorem dX10_parish_9 : decode cX10_parish 9 = .ok (.ifCond .eq 13, 3) := by decide +kernel
theorem dX10_parish_12 : decode cX10_parish 12 = .ok (.iload_n 2, 1) := by decide +kernel
theorem dX10_parish_13 : decode cX10_parish 13 = .ok (.ifCond .lt 9, 3) := by decide +kernel
theorem dX10_parish_16 : decode cX10_parish 16 = .ok (.iload_n 2, 1) := by decide +kernel
theorem dX10_parish_17 : decode cX10_parish 17 = .ok (.bipush 8, 2) := by decide +kernel
theorem dX10_parish_19 : decode cX10_parish 19 = .ok (.if_icmp .le 11, 3) := by decide +kernel
theorem dX10_parish_22 : decode cX10_parish 22 = .ok (.new 138, 3) := by decide +kernel
theorem dX10_parish_25 : decode cX10_parish 25 = .ok (.dup, 1) := by decide +kernel
theorem dX10_parish_26 : decode cX10_parish 26 = .ok (.invokespecial 140, 3) := by decide +kernel
theorem dX10_parish_29 : decode cX10_parish 29 = .ok (.athrow, 1) := by decide +kernel
theorem dX10_parish_30 : decode cX10_parish 30 = .ok (.iload_n 2, 1) := by decide +kernel
theorem dX10_parish_31 : decode cX10_parish 31 = .ok (.iconst 2, 1) := by decide +kernel
theorem dX10_parish_32 : decode cX10_parish 32 = .ok (.if_icmp .gt 16, 3) := by decide +kernel
theorem dX10_parish_35 : decode cX10_parish 35 = .ok (.aload_n 0, 1) := by decide +kernel
theorem dX10_parish_36 : decode cX10_parish 36 = .ok (.getfield 19, 3) := by decide +kernel
theorem dX10_parish_39 : decode cX10_parish 39 = .ok (.iconst 1, 1) := by decide +kernel
theorem dX10_parish_40 : decode cX10_parish 40 = .ok (.iload_n 1, 1) := by decide +kernel
theorem dX10_parish_41 : decode cX10_parish 41 = .ok (.iload_n 2, 1) := by decide +kernel
theorem dX10_parish_42 : decode cX10_parish 42 = .ok (.invokevirtual 130, 3) := by decide +kernel
theorem dX10_parish_45 : decode cX10_parish 45 = .ok (.goto 16, 3) := by decide +kernel
theorem dX10_parish_48 : decode cX10_parish 48 = .ok (.aload_n 0, 1) := by decide +kernel
theorem dX10_parish_49 : decode cX10_parish 49 = .ok (.getfield 52, 3) := by decide +kernel
theorem dX10_parish_52 : decode cX10_parish 52 = .ok (.iload_n 2, 1) := by decide +kernel
theorem dX10_parish_53 : decode cX10_parish 53 = .ok (.iconst 2, 1) := by decide +kernel
theorem dX10_parish_54 : decode cX10_parish 54 = .ok (.isub, 1) := by decide +kernel
theorem dX10_parish_55 : decode cX10_parish 55 = .ok (.iconst 1, 1) := by decide +kernel
theorem dX10_parish_56 : decode cX10_parish 56 = .ok (.isub, 1) := by decide +kernel
theorem dX10_parish_57 : decode cX10_parish 57 = .ok (.iload_n 1, 1) := by decide +kernel
theorem dX10_parish_58 : decode cX10_parish 58 = .ok (.invokevirtual 141, 3) := by decide +kernel
theorem dX10_parish_61 : decode cX10_parish 61 = .ok (.ireturn, 1) := by decide +kernel
theorem dX10_desk_0 : decode cX10_desk 0 = .ok (.aload_n 0, 1) := by decide +kernel
theorem dX10_desk_1 : decode cX10_desk 1 = .ok (.getfield 19, 3) := by decide +kernel
theorem dX10_desk_4 : decode cX10_desk 4 = .ok (.iconst 2, 1) := by decide +kernel
theorem dX10_desk_5 : decode cX10_desk 5 = .ok (.iload_n 1, 1) := by decide +kernel
theorem dX10_desk_6 : decode cX10_desk 6 = .ok (.invokevirtual 134, 3) := by decide +kernel
theorem dX10_desk_9 : decode cX10_desk 9 = .ok (.ifCond .eq 7, 3) := by decide +kernel
theorem dX10_desk_12 : decode cX10_desk 12 = .ok (.iload_n 2, 1) := by decide +kernel
theorem dX10_desk_13 : decode cX10_desk 13 = .ok (.ifCond .ge 5, 3) := by decide +kernel
theorem dX10_desk_16 : decode cX10_desk 16 = .ok (.iconst (-1), 1) := by decide +kernel
theorem dX10_desk_17 : decode cX10_desk 17 = .ok (.ireturn, 1) := by decide +kernel
theorem dX10_desk_18 : decode cX10_desk 18 = .ok (.iload_n 2, 1) := by decide +kernel
theorem dX10_desk_19 : decode cX10_desk 19 = .ok (.tableswitch 67 4 6 #[25, 34, 43], 25) := by decide +kernel
theorem dX10_desk_44 : decode cX10_desk 44 = .ok (.aload_n 0, 1) := by decide +kernel
theorem dX10_desk_45 : decode cX10_desk 45 = .ok (.getfield 52, 3) := by decide +kernel
theorem dX10_desk_48 : decode cX10_desk 48 = .ok (.iload_n 1, 1) := by decide +kernel
theorem dX10_desk_49 : decode cX10_desk 49 = .ok (.invokevirtual 145, 3) := by decide +kernel
theorem dX10_desk_52 : decode cX10_desk 52 = .ok (.ireturn, 1) := by decide +kernel
theorem dX10_desk_53 : decode cX10_desk 53 = .ok (.aload_n 0, 1) := by decide +kernel
theorem dX10_desk_54 : decode cX10_desk 54 = .ok (.getfield 52, 3) := by decide +kernel
theorem dX10_desk_57 : decode cX10_desk 57 = .ok (.iload_n 1, 1) := by decide +kernel
theorem dX10_desk_58 : decode cX10_desk 58 = .ok (.invokevirtual 148, 3) := by decide +kernel
theorem dX10_desk_61 : decode cX10_desk 61 = .ok (.ireturn, 1) := by decide +kernel
theorem dX10_desk_62 : decode cX10_desk 62 = .ok (.aload_n 0, 1) := by decide +kernel
theorem dX10_desk_63 : decode cX10_desk 63 = .ok (.getfield 19, 3) := by decide +kernel
theorem dX10_desk_66 : decode cX10_desk 66 = .ok (.iload_n 1, 1) := by decide +kernel
theorem dX10_desk_67 : decode cX10_desk 67 = .ok (.aload_n 0, 1) := by decide +kernel
theorem dX10_desk_68 : decode cX10_desk 68 = .ok (.getfield 52, 3) := by decide +kernel
theorem dX10_desk_71 : decode cX10_desk 71 = .ok (.invokevirtual 151, 3) := by decide +kernel
theorem dX10_desk_74 : decode cX10_desk 74 = .ok (.invokevirtual 154, 3) := by decide +kernel
theorem dX10_desk_77 : decode cX10_desk 77 = .ok (.ifCond .eq 7, 3) := by decide +kernel
theorem dX10_desk_80 : decode cX10_desk 80 = .ok (.iconst 1, 1) := by decide +kernel
theorem dX10_desk_81 : decode cX10_desk 81 = .ok (.goto 4, 3) := by decide +kernel
theorem dX10_desk_84 : decode cX10_desk 84 = .ok (.iconst 0, 1) := by decide +kernel
theorem dX10_desk_85 : decode cX10_desk 85 = .ok (.ireturn, 1) := by decide +kernel
theorem dX10_desk_86 : decode cX10_desk 86 = .ok (.iload_n 2, 1) := by decide +kernel
theorem dX10_desk_87 : decode cX10_desk 87 = .ok (.iconst 3, 1) := by decide +kernel
theorem dX10_desk_88 : decode cX10_desk 88 = .ok (.if_icmp .gt 16, 3) := by decide +kernel
theorem dX10_desk_91 : decode cX10_desk 91 = .ok (.aload_n 0, 1) := by decide +kernel
theorem dX10_desk_92 : decode cX10_desk 92 = .ok (.getfield 19, 3) := by decide +kernel
theorem dX10_desk_95 : decode cX10_desk 95 = .ok (.iconst 2, 1) := by decide +kernel
theorem dX10_desk_96 : decode cX10_desk 96 = .ok (.iload_n 1, 1) := by decide +kernel
theorem dX10_desk_97 : decode cX10_desk 97 = .ok (.iload_n 2, 1) := by decide +kernel
theorem dX10_desk_98 : decode cX10_desk 98 = .ok (.invokevirtual 130, 3) := by decide +kernel
theorem dX10_desk_101 : decode cX10_desk 101 = .ok (.goto 4, 3) := by decide +kernel
theorem dX10_desk_104 : decode cX10_desk 104 = .ok (.iconst (-1), 1) := by decide +kernel
theorem dX10_desk_105 : decode cX10_desk 105 = .ok (.ireturn, 1) := by decide +kernel
theorem dX10_paper_0 : decode cX10_paper 0 = .ok (.aload_n 0, 1) := by decide +kernel
theorem dX10_paper_1 : decode cX10_paper 1 = .ok (.getfield 19, 3) := by decide +kernel
theorem dX10_paper_4 : decode cX10_paper 4 = .ok (.iconst 3, 1) := by decide +kernel
theorem dX10_paper_5 : decode cX10_paper 5 = .ok (.iload_n 1, 1) := by decide +kernel
theorem dX10_paper_6 : decode cX10_paper 6 = .ok (.invokevirtual 134, 3) := by decide +kernel
theorem dX10_paper_9 : decode cX10_paper 9 = .ok (.ifCond .eq 12, 3) := by decide +kernel
theorem dX10_paper_12 : decode cX10_paper 12 = .ok (.iload_n 2, 1) := by decide +kernel
theorem dX10_paper_13 : decode cX10_paper 13 = .ok (.ifCond .lt 8, 3) := by decide +kernel
theorem dX10_paper_16 : decode cX10_paper 16 = .ok (.iload_n 2, 1) := by decide +kernel
theorem dX10_paper_17 : decode cX10_paper 17 = .ok (.iconst 2, 1) := by decide +kernel
theorem dX10_paper_18 : decode cX10_paper 18 = .ok (.if_icmp .le 5, 3) := by decide +kernel
theorem dX10_paper_21 : decode cX10_paper 21 = .ok (.iconst (-1), 1) := by decide +kernel
theorem dX10_paper_22 : decode cX10_paper 22 = .ok (.ireturn, 1) := by decide +kernel
theorem dX10_paper_23 : decode cX10_paper 23 = .ok (.aload_n 0, 1) := by decide +kernel
theorem dX10_paper_24 : decode cX10_paper 24 = .ok (.getfield 19, 3) := by decide +kernel
theorem dX10_paper_27 : decode cX10_paper 27 = .ok (.iconst 3, 1) := by decide +kernel
theorem dX10_paper_28 : decode cX10_paper 28 = .ok (.iload_n 1, 1) := by decide +kernel
theorem dX10_paper_29 : decode cX10_paper 29 = .ok (.iload_n 2, 1) := by decide +kernel
theorem dX10_paper_30 : decode cX10_paper 30 = .ok (.invokevirtual 130, 3) := by decide +kernel
theorem dX10_paper_33 : decode cX10_paper 33 = .ok (.istore_n 3, 1) := by decide +kernel
theorem dX10_paper_34 : decode cX10_paper 34 = .ok (.iload_n 2, 1) := by decide +kernel
theorem dX10_paper_35 : decode cX10_paper 35 = .ok (.ifCond .eq 13, 3) := by decide +kernel
theorem dX10_paper_38 : decode cX10_paper 38 = .ok (.iload_n 3, 1) := by decide +kernel
theorem dX10_paper_39 : decode cX10_paper 39 = .ok (.bipush 8, 2) := by decide +kernel
theorem dX10_paper_41 : decode cX10_paper 41 = .ok (.if_icmp .ne 7, 3) := by decide +kernel
theorem dX10_paper_44 : decode cX10_paper 44 = .ok (.iconst (-1), 1) := by decide +kernel
theorem dX10_paper_45 : decode cX10_paper 45 = .ok (.goto 4, 3) := by decide +kernel
theorem dX10_paper_48 : decode cX10_paper 48 = .ok (.iload_n 3, 1) := by decide +kernel
theorem dX10_paper_49 : decode cX10_paper 49 = .ok (.ireturn, 1) := by decide +kernel
theorem dX10_rule_0 : decode cX10_rule 0 = .ok (.iload_n 1, 1) := by decide +kernel
theorem dX10_rule_1 : decode cX10_rule 1 = .ok (.iconst (-1), 1) := by decide +kernel
theorem dX10_rule_2 : decode cX10_rule 2 = .ok (.if_icmp .lt 14, 3) := by decide +kernel
theorem dX10_rule_5 : decode cX10_rule 5 = .ok (.iload_n 1, 1) := by decide +kernel
theorem dX10_rule_6 : decode cX10_rule 6 = .ok (.aload_n 0, 1) := by decide +kernel
theorem dX10_rule_7 : decode cX10_rule 7 = .ok (.getfield 36, 3) := by decide +kernel
theorem dX10_rule_10 : decode cX10_rule 10 = .ok (.getfield 107, 3) := by decide +kernel
theorem dX10_rule_13 : decode cX10_rule 13 = .ok (.if_icmp .lt 5, 3) := by decide +kernel
theorem dX10_rule_16 : decode cX10_rule 16 = .ok (.iconst 0, 1) := by decide +kernel
theorem dX10_rule_17 : decode cX10_rule 17 = .ok (.ireturn, 1) := by decide +kernel
theorem dX10_rule_18 : decode cX10_rule 18 = .ok (.aload_n 0, 1) := by decide +kernel
theorem dX10_rule_19 : decode cX10_rule 19 = .ok (.getfield 36, 3) := by decide +kernel
theorem dX10_rule_22 : decode cX10_rule 22 = .ok (.iload_n 1, 1) := by decide +kernel
theorem dX10_rule_23 : decode cX10_rule 23 = .ok (.putfield 157, 3) := by decide +kernel
theorem dX10_rule_26 : decode cX10_rule 26 = .ok (.iconst 1, 1) := by decide +kernel
theorem dX10_rule_27 : decode cX10_rule 27 = .ok (.ireturn, 1) := by decide +kernel
theorem dX10_eclipse_0 : decode cX10_eclipse 0 = .ok (.iload_n 1, 1) := by decide +kernel
theorem dX10_eclipse_1 : decode cX10_eclipse 1 = .ok (.ifCond .lt 17, 3) := by decide +kernel
theorem dX10_eclipse_4 : decode cX10_eclipse 4 = .ok (.iload_n 1, 1) := by decide +kernel
theorem dX10_eclipse_5 : decode cX10_eclipse 5 = .ok (.bipush 99, 2) := by decide +kernel
theorem dX10_eclipse_7 : decode cX10_eclipse 7 = .ok (.if_icmp .gt 11, 3) := by decide +kernel
theorem dX10_eclipse_10 : decode cX10_eclipse 10 = .ok (.iload_n 1, 1) := by decide +kernel
theorem dX10_eclipse_11 : decode cX10_eclipse 11 = .ok (.aload_n 0, 1) := by decide +kernel
theorem dX10_eclipse_12 : decode cX10_eclipse 12 = .ok (.getfield 160, 3) := by decide +kernel
theorem dX10_eclipse_15 : decode cX10_eclipse 15 = .ok (.if_icmp .ne 5, 3) := by decide +kernel
theorem dX10_eclipse_18 : decode cX10_eclipse 18 = .ok (.iconst 0, 1) := by decide +kernel
theorem dX10_eclipse_19 : decode cX10_eclipse 19 = .ok (.ireturn, 1) := by decide +kernel
theorem dX10_eclipse_20 : decode cX10_eclipse 20 = .ok (.aload_n 0, 1) := by decide +kernel
theorem dX10_eclipse_21 : decode cX10_eclipse 21 = .ok (.iload_n 1, 1) := by decide +kernel
theorem dX10_eclipse_22 : decode cX10_eclipse 22 = .ok (.putfield 160, 3) := by decide +kernel
theorem dX10_eclipse_25 : decode cX10_eclipse 25 = .ok (.iconst 1, 1) := by decide +kernel
theorem dX10_eclipse_26 : decode cX10_eclipse 26 = .ok (.ireturn, 1) := by decide +kernel
theorem dX10_file_0 : decode cX10_file 0 = .ok (.aload_n 0, 1) := by decide +kernel
theorem dX10_file_1 : decode cX10_file 1 = .ok (.getfield 52, 3) := by decide +kernel
theorem dX10_file_4 : decode cX10_file 4 = .ok (.aload_n 0, 1) := by decide +kernel
theorem dX10_file_5 : decode cX10_file 5 = .ok (.getfield 19, 3) := by decide +kernel
theorem dX10_file_8 : decode cX10_file 8 = .ok (.iconst 0, 1) := by decide +kernel
theorem dX10_file_9 : decode cX10_file 9 = .ok (.iload_n 1, 1) := by decide +kernel
theorem dX10_file_10 : decode cX10_file 10 = .ok (.iload_n 2, 1) := by decide +kernel
theorem dX10_file_11 : decode cX10_file 11 = .ok (.invokevirtual 163, 3) := by decide +kernel
theorem dX10_file_14 : decode cX10_file 14 = .ok (.ifCond .ne 5, 3) := by decide +kernel
theorem dX10_file_17 : decode cX10_file 17 = .ok (.iconst (-1), 1) := by decide +kernel
theorem dX10_file_18 : decode cX10_file 18 = .ok (.ireturn, 1) := by decide +kernel
theorem dX10_file_19 : decode cX10_file 19 = .ok (.aload_n 0, 1) := by decide +kernel
theorem dX10_file_20 : decode cX10_file 20 = .ok (.getfield 65, 3) := by decide +kernel
theorem dX10_file_23 : decode cX10_file 23 = .ok (.aload_n 0, 1) := by decide +kernel
theorem dX10_file_24 : decode cX10_file 24 = .ok (.getfield 52, 3) := by decide +kernel
theorem dX10_file_27 : decode cX10_file 27 = .ok (.invokevirtual 167, 3) := by decide +kernel
theorem dX10_file_30 : decode cX10_file 30 = .ok (.aload_n 0, 1) := by decide +kernel
theorem dX10_file_31 : decode cX10_file 31 = .ok (.getfield 52, 3) := by decide +kernel
theorem dX10_file_34 : decode cX10_file 34 = .ok (.aload_n 0, 1) := by decide +kernel
theorem dX10_file_35 : decode cX10_file 35 = .ok (.getfield 19, 3) := by decide +kernel
theorem dX10_file_38 : decode cX10_file 38 = .ok (.iload_n 1, 1) := by decide +kernel
theorem dX10_file_39 : decode cX10_file 39 = .ok (.iload_n 2, 1) := by decide +kernel
theorem dX10_file_40 : decode cX10_file 40 = .ok (.invokevirtual 171, 3) := by decide +kernel
theorem dX10_file_43 : decode cX10_file 43 = .ok (.aload_n 0, 1) := by decide +kernel
theorem dX10_file_44 : decode cX10_file 44 = .ok (.getfield 52, 3) := by decide +kernel
theorem dX10_file_47 : decode cX10_file 47 = .ok (.aload_n 0, 1) := by decide +kernel
theorem dX10_file_48 : decode cX10_file 48 = .ok (.getfield 19, 3) := by decide +kernel
theorem dX10_file_51 : decode cX10_file 51 = .ok (.iconst 3, 1) := by decide +kernel
theorem dX10_file_52 : decode cX10_file 52 = .ok (.iload_n 2, 1) := by decide +kernel
theorem dX10_file_53 : decode cX10_file 53 = .ok (.iconst 0, 1) := by decide +kernel
theorem dX10_file_54 : decode cX10_file 54 = .ok (.invokevirtual 130, 3) := by decide +kernel
theorem dX10_file_57 : decode cX10_file 57 = .ok (.invokevirtual 145, 3) := by decide +kernel
theorem dX10_file_60 : decode cX10_file 60 = .ok (.ireturn, 1) := by decide +kernel
theorem dX10_withdraw_0 : decode cX10_withdraw 0 = .ok (.aload_n 0, 1) := by decide +kernel
theorem dX10_withdraw_1 : decode cX10_withdraw 1 = .ok (.getfield 52, 3) := by decide +kernel
theorem dX10_withdraw_4 : decode cX10_withdraw 4 = .ok (.aload_n 0, 1) := by decide +kernel
theorem dX10_withdraw_5 : decode cX10_withdraw 5 = .ok (.getfield 19, 3) := by decide +kernel
theorem dX10_withdraw_8 : decode cX10_withdraw 8 = .ok (.iconst 1, 1) := by decide +kernel
theorem dX10_withdraw_9 : decode cX10_withdraw 9 = .ok (.iload_n 1, 1) := by decide +kernel
theorem dX10_withdraw_10 : decode cX10_withdraw 10 = .ok (.iconst (-1), 1) := by decide +kernel
theorem dX10_withdraw_11 : decode cX10_withdraw 11 = .ok (.invokevirtual 163, 3) := by decide +kernel
theorem dX10_withdraw_14 : decode cX10_withdraw 14 = .ok (.ifCond .ne 5, 3) := by decide +kernel
theorem dX10_withdraw_17 : decode cX10_withdraw 17 = .ok (.iconst (-1), 1) := by decide +kernel
theorem dX10_withdraw_18 : decode cX10_withdraw 18 = .ok (.ireturn, 1) := by decide +kernel
theorem dX10_withdraw_19 : decode cX10_withdraw 19 = .ok (.aload_n 0, 1) := by decide +kernel
theorem dX10_withdraw_20 : decode cX10_withdraw 20 = .ok (.getfield 65, 3) := by decide +kernel
theorem dX10_withdraw_23 : decode cX10_withdraw 23 = .ok (.aload_n 0, 1) := by decide +kernel
theorem dX10_withdraw_24 : decode cX10_withdraw 24 = .ok (.getfield 52, 3) := by decide +kernel
theorem dX10_withdraw_27 : decode cX10_withdraw 27 = .ok (.invokevirtual 167, 3) := by decide +kernel
theorem dX10_withdraw_30 : decode cX10_withdraw 30 = .ok (.aload_n 0, 1) := by decide +kernel
theorem dX10_withdraw_31 : decode cX10_withdraw 31 = .ok (.getfield 52, 3) := by decide +kernel
theorem dX10_withdraw_34 : decode cX10_withdraw 34 = .ok (.iload_n 1, 1) := by decide +kernel
theorem dX10_withdraw_35 : decode cX10_withdraw 35 = .ok (.invokevirtual 175, 3) := by decide +kernel
theorem dX10_withdraw_38 : decode cX10_withdraw 38 = .ok (.ireturn, 1) := by decide +kernel
theorem dX10_go_0 : decode cX10_go 0 = .ok (.aload_n 0, 1) := by decide +kernel
theorem dX10_go_1 : decode cX10_go 1 = .ok (.iload_n 1, 1) := by decide +kernel
theorem dX10_go_2 : decode cX10_go 2 = .ok (.sipush 240, 3) := by decide +kernel
theorem dX10_go_5 : decode cX10_go 5 = .ok (.invokevirtual 178, 3) := by decide +kernel
theorem dX10_go_8 : decode cX10_go 8 = .ok (.ifCond .ne 5, 3) := by decide +kernel
theorem dX10_go_11 : decode cX10_go 11 = .ok (.iconst (-1), 1) := by decide +kernel
theorem dX10_go_12 : decode cX10_go 12 = .ok (.ireturn, 1) := by decide +kernel
theorem dX10_go_13 : decode cX10_go 13 = .ok (.iconst 0, 1) := by decide +kernel
theorem dX10_go_14 : decode cX10_go 14 = .ok (.istore_n 2, 1) := by decide +kernel
theorem dX10_go_15 : decode cX10_go 15 = .ok (.iload_n 2, 1) := by decide +kernel
theorem dX10_go_16 : decode cX10_go 16 = .ok (.iload_n 1, 1) := by decide +kernel
theorem dX10_go_17 : decode cX10_go 17 = .ok (.if_icmp .ge 36, 3) := by decide +kernel
theorem dX10_go_20 : decode cX10_go 20 = .ok (.aload_n 0, 1) := by decide +kernel
theorem dX10_go_21 : decode cX10_go 21 = .ok (.getfield 65, 3) := by decide +kernel
theorem dX10_go_24 : decode cX10_go 24 = .ok (.aload_n 0, 1) := by decide +kernel
theorem dX10_go_25 : decode cX10_go 25 = .ok (.getfield 52, 3) := by decide +kernel
theorem dX10_go_28 : decode cX10_go 28 = .ok (.invokevirtual 167, 3) := by decide +kernel
theorem dX10_go_31 : decode cX10_go 31 = .ok (.aload_n 0, 1) := by decide +kernel
theorem dX10_go_32 : decode cX10_go 32 = .ok (.getfield 52, 3) := by decide +kernel
theorem dX10_go_35 : decode cX10_go 35 = .ok (.aload_n 0, 1) := by decide +kernel
theorem dX10_go_36 : decode cX10_go 36 = .ok (.getfield 19, 3) := by decide +kernel
theorem dX10_go_39 : decode cX10_go 39 = .ok (.aload_n 0, 1) := by decide +kernel
theorem dX10_go_40 : decode cX10_go 40 = .ok (.getfield 36, 3) := by decide +kernel
theorem dX10_go_43 : decode cX10_go 43 = .ok (.iconst 0, 1) := by decide +kernel
theorem dX10_go_44 : decode cX10_go 44 = .ok (.invokevirtual 181, 3) := by decide +kernel
theorem dX10_go_47 : decode cX10_go 47 = .ok (.iinc 2 1, 3) := by decide +kernel
theorem dX10_go_50 : decode cX10_go 50 = .ok (.goto (-35), 3) := by decide +kernel
theorem dX10_go_53 : decode cX10_go 53 = .ok (.aload_n 0, 1) := by decide +kernel
theorem dX10_go_54 : decode cX10_go 54 = .ok (.getfield 52, 3) := by decide +kernel
theorem dX10_go_57 : decode cX10_go 57 = .ok (.invokevirtual 185, 3) := by decide +kernel
theorem dX10_go_60 : decode cX10_go 60 = .ok (.ireturn, 1) := by decide +kernel
theorem dX10_toil_0 : decode cX10_toil 0 = .ok (.aload_n 0, 1) := by decide +kernel
theorem dX10_toil_1 : decode cX10_toil 1 = .ok (.iload_n 1, 1) := by decide +kernel
theorem dX10_toil_2 : decode cX10_toil 2 = .ok (.bipush 48, 2) := by decide +kernel
theorem dX10_toil_4 : decode cX10_toil 4 = .ok (.invokevirtual 178, 3) := by decide +kernel
theorem dX10_toil_7 : decode cX10_toil 7 = .ok (.ifCond .ne 5, 3) := by decide +kernel
theorem dX10_toil_10 : decode cX10_toil 10 = .ok (.iconst (-1), 1) := by decide +kernel
theorem dX10_toil_11 : decode cX10_toil 11 = .ok (.ireturn, 1) := by decide +kernel
theorem dX10_toil_12 : decode cX10_toil 12 = .ok (.iconst 0, 1) := by decide +kernel
theorem dX10_toil_13 : decode cX10_toil 13 = .ok (.istore_n 2, 1) := by decide +kernel
theorem dX10_toil_14 : decode cX10_toil 14 = .ok (.iload_n 2, 1) := by decide +kernel
theorem dX10_toil_15 : decode cX10_toil 15 = .ok (.iload_n 1, 1) := by decide +kernel
theorem dX10_toil_16 : decode cX10_toil 16 = .ok (.if_icmp .ge 76, 3) := by decide +kernel
theorem dX10_toil_19 : decode cX10_toil 19 = .ok (.aload_n 0, 1) := by decide +kernel
theorem dX10_toil_20 : decode cX10_toil 20 = .ok (.getfield 65, 3) := by decide +kernel
theorem dX10_toil_23 : decode cX10_toil 23 = .ok (.aload_n 0, 1) := by decide +kernel
theorem dX10_toil_24 : decode cX10_toil 24 = .ok (.getfield 52, 3) := by decide +kernel
theorem dX10_toil_27 : decode cX10_toil 27 = .ok (.invokevirtual 167, 3) := by decide +kernel
theorem dX10_toil_30 : decode cX10_toil 30 = .ok (.iconst 0, 1) := by decide +kernel
theorem dX10_toil_31 : decode cX10_toil 31 = .ok (.istore_n 3, 1) := by decide +kernel
theorem dX10_toil_32 : decode cX10_toil 32 = .ok (.iload_n 3, 1) := by decide +kernel
theorem dX10_toil_33 : decode cX10_toil 33 = .ok (.aload_n 0, 1) := by decide +kernel
theorem dX10_toil_34 : decode cX10_toil 34 = .ok (.getfield 19, 3) := by decide +kernel
theorem dX10_toil_37 : decode cX10_toil 37 = .ok (.iconst 1, 1) := by decide +kernel
theorem dX10_toil_38 : decode cX10_toil 38 = .ok (.invokevirtual 124, 3) := by decide +kernel
theorem dX10_toil_41 : decode cX10_toil 41 = .ok (.if_icmp .ge 29, 3) := by decide +kernel
theorem dX10_toil_44 : decode cX10_toil 44 = .ok (.aload_n 0, 1) := by decide +kernel
theorem dX10_toil_45 : decode cX10_toil 45 = .ok (.getfield 52, 3) := by decide +kernel
theorem dX10_toil_48 : decode cX10_toil 48 = .ok (.aload_n 0, 1) := by decide +kernel
theorem dX10_toil_49 : decode cX10_toil 49 = .ok (.getfield 19, 3) := by decide +kernel
theorem dX10_toil_52 : decode cX10_toil 52 = .ok (.iload_n 3, 1) := by decide +kernel
theorem dX10_toil_53 : decode cX10_toil 53 = .ok (.invokevirtual 188, 3) := by decide +kernel
theorem dX10_toil_56 : decode cX10_toil 56 = .ok (.ifCond .eq 8, 3) := by decide +kernel
theorem dX10_toil_59 : decode cX10_toil 59 = .ok (.aload_n 0, 1) := by decide +kernel
theorem dX10_toil_60 : decode cX10_toil 60 = .ok (.iload_n 3, 1) := by decide +kernel
theorem dX10_toil_61 : decode cX10_toil 61 = .ok (.invokevirtual 192, 3) := by decide +kernel
theorem dX10_toil_64 : decode cX10_toil 64 = .ok (.iinc 3 1, 3) := by decide +kernel
theorem dX10_toil_67 : decode cX10_toil 67 = .ok (.goto (-35), 3) := by decide +kernel
theorem dX10_toil_70 : decode cX10_toil 70 = .ok (.aload_n 0, 1) := by decide +kernel
theorem dX10_toil_71 : decode cX10_toil 71 = .ok (.getfield 52, 3) := by decide +kernel
theorem dX10_toil_74 : decode cX10_toil 74 = .ok (.aload_n 0, 1) := by decide +kernel
theorem dX10_toil_75 : decode cX10_toil 75 = .ok (.getfield 19, 3) := by decide +kernel
theorem dX10_toil_78 : decode cX10_toil 78 = .ok (.aload_n 0, 1) := by decide +kernel
theorem dX10_toil_79 : decode cX10_toil 79 = .ok (.getfield 36, 3) := by decide +kernel
theorem dX10_toil_82 : decode cX10_toil 82 = .ok (.iconst 0, 1) := by decide +kernel
theorem dX10_toil_83 : decode cX10_toil 83 = .ok (.invokevirtual 181, 3) := by decide +kernel
theorem dX10_toil_86 : decode cX10_toil 86 = .ok (.iinc 2 1, 3) := by decide +kernel
theorem dX10_toil_89 : decode cX10_toil 89 = .ok (.goto (-75), 3) := by decide +kernel
theorem dX10_toil_92 : decode cX10_toil 92 = .ok (.aload_n 0, 1) := by decide +kernel
theorem dX10_toil_93 : decode cX10_toil 93 = .ok (.getfield 52, 3) := by decide +kernel
theorem dX10_toil_96 : decode cX10_toil 96 = .ok (.invokevirtual 185, 3) := by decide +kernel
theorem dX10_toil_99 : decode cX10_toil 99 = .ok (.ireturn, 1) := by decide +kernel
theorem dX10_years_0 : decode cX10_years 0 = .ok (.aload_n 0, 1) := by decide +kernel
theorem dX10_years_1 : decode cX10_years 1 = .ok (.iload_n 1, 1) := by decide +kernel
theorem dX10_years_2 : decode cX10_years 2 = .ok (.sipush 240, 3) := by decide +kernel
theorem dX10_years_5 : decode cX10_years 5 = .ok (.invokevirtual 178, 3) := by decide +kernel
theorem dX10_years_8 : decode cX10_years 8 = .ok (.ifCond .ne 5, 3) := by decide +kernel
theorem dX10_years_11 : decode cX10_years 11 = .ok (.iconst (-1), 1) := by decide +kernel
theorem dX10_years_12 : decode cX10_years 12 = .ok (.ireturn, 1) := by decide +kernel
theorem dX10_years_13 : decode cX10_years 13 = .ok (.aload_n 0, 1) := by decide +kernel
theorem dX10_years_14 : decode cX10_years 14 = .ok (.lload_n 2, 1) := by decide +kernel
theorem dX10_years_15 : decode cX10_years 15 = .ok (.putfield 195, 3) := by decide +kernel
theorem dX10_years_18 : decode cX10_years 18 = .ok (.iconst 0, 1) := by decide +kernel
theorem dX10_years_19 : decode cX10_years 19 = .ok (.istore 4, 2) := by decide +kernel
theorem dX10_years_21 : decode cX10_years 21 = .ok (.iload 4, 2) := by decide +kernel
theorem dX10_years_23 : decode cX10_years 23 = .ok (.iload_n 1, 1) := by decide +kernel
theorem dX10_years_24 : decode cX10_years 24 = .ok (.if_icmp .ge 149, 3) := by decide +kernel
theorem dX10_years_27 : decode cX10_years 27 = .ok (.aload_n 0, 1) := by decide +kernel
theorem dX10_years_28 : decode cX10_years 28 = .ok (.getfield 65, 3) := by decide +kernel
theorem dX10_years_31 : decode cX10_years 31 = .ok (.aload_n 0, 1) := by decide +kernel
theorem dX10_years_32 : decode cX10_years 32 = .ok (.getfield 52, 3) := by decide +kernel
theorem dX10_years_35 : decode cX10_years 35 = .ok (.invokevirtual 167, 3) := by decide +kernel
theorem dX10_years_38 : decode cX10_years 38 = .ok (.iconst 0, 1) := by decide +kernel
theorem dX10_years_39 : decode cX10_years 39 = .ok (.istore 5, 2) := by decide +kernel
theorem dX10_years_41 : decode cX10_years 41 = .ok (.iload 5, 2) := by decide +kernel
theorem dX10_years_43 : decode cX10_years 43 = .ok (.aload_n 0, 1) := by decide +kernel
theorem dX10_years_44 : decode cX10_years 44 = .ok (.getfield 19, 3) := by decide +kernel
theorem dX10_years_47 : decode cX10_years 47 = .ok (.iconst 1, 1) := by decide +kernel
theorem dX10_years_48 : decode cX10_years 48 = .ok (.invokevirtual 124, 3) := by decide +kernel
theorem dX10_years_51 : decode cX10_years 51 = .ok (.if_icmp .ge 51, 3) := by decide +kernel
theorem dX10_years_54 : decode cX10_years 54 = .ok (.aload_n 0, 1) := by decide +kernel
theorem dX10_years_55 : decode cX10_years 55 = .ok (.getfield 52, 3) := by decide +kernel
theorem dX10_years_58 : decode cX10_years 58 = .ok (.aload_n 0, 1) := by decide +kernel
theorem dX10_years_59 : decode cX10_years 59 = .ok (.getfield 19, 3) := by decide +kernel
theorem dX10_years_62 : decode cX10_years 62 = .ok (.iload 5, 2) := by decide +kernel
theorem dX10_years_64 : decode cX10_years 64 = .ok (.invokevirtual 188, 3) := by decide +kernel
theorem dX10_years_67 : decode cX10_years 67 = .ok (.ifCond .eq 29, 3) := by decide +kernel
theorem dX10_years_70 : decode cX10_years 70 = .ok (.aload_n 0, 1) := by decide +kernel
theorem dX10_years_71 : decode cX10_years 71 = .ok (.bipush 10, 2) := by decide +kernel
theorem dX10_years_73 : decode cX10_years 73 = .ok (.invokevirtual 199, 3) := by decide +kernel
theorem dX10_years_76 : decode cX10_years 76 = .ok (.aload_n 0, 1) := by decide +kernel
theorem dX10_years_77 : decode cX10_years 77 = .ok (.getfield 19, 3) := by decide +kernel
theorem dX10_years_80 : decode cX10_years 80 = .ok (.iconst 1, 1) := by decide +kernel
theorem dX10_years_81 : decode cX10_years 81 = .ok (.iload 5, 2) := by decide +kernel
theorem dX10_years_83 : decode cX10_years 83 = .ok (.iconst 2, 1) := by decide +kernel
theorem dX10_years_84 : decode cX10_years 84 = .ok (.invokevirtual 130, 3) := by decide +kernel
theorem dX10_years_87 : decode cX10_years 87 = .ok (.if_icmp .ge 9, 3) := by decide +kernel
theorem dX10_years_90 : decode cX10_years 90 = .ok (.aload_n 0, 1) := by decide +kernel
theorem dX10_years_91 : decode cX10_years 91 = .ok (.iload 5, 2) := by decide +kernel
theorem dX10_years_93 : decode cX10_years 93 = .ok (.invokevirtual 192, 3) := by decide +kernel
theorem dX10_years_96 : decode cX10_years 96 = .ok (.iinc 5 1, 3) := by decide +kernel
theorem dX10_years_99 : decode cX10_years 99 = .ok (.goto (-58), 3) := by decide +kernel
theorem dX10_years_102 : decode cX10_years 102 = .ok (.aload_n 0, 1) := by decide +kernel
theorem dX10_years_103 : decode cX10_years 103 = .ok (.getfield 52, 3) := by decide +kernel
theorem dX10_years_106 : decode cX10_years 106 = .ok (.invokevirtual 151, 3) := by decide +kernel
theorem dX10_years_109 : decode cX10_years 109 = .ok (.aload_n 0, 1) := by decide +kernel
theorem dX10_years_110 : decode cX10_years 110 = .ok (.getfield 19, 3) := by decide +kernel
theorem dX10_years_113 : decode cX10_years 113 = .ok (.iconst 0, 1) := by decide +kernel
theorem dX10_years_114 : decode cX10_years 114 = .ok (.iconst 0, 1) := by decide +kernel
theorem dX10_years_115 : decode cX10_years 115 = .ok (.iconst 0, 1) := by decide +kernel
theorem dX10_years_116 : decode cX10_years 116 = .ok (.invokevirtual 130, 3) := by decide +kernel
theorem dX10_years_119 : decode cX10_years 119 = .ok (.if_icmp .ne 7, 3) := by decide +kernel
theorem dX10_years_122 : decode cX10_years 122 = .ok (.iconst 1, 1) := by decide +kernel
theorem dX10_years_123 : decode cX10_years 123 = .ok (.goto 4, 3) := by decide +kernel
theorem dX10_years_126 : decode cX10_years 126 = .ok (.iconst 0, 1) := by decide +kernel
theorem dX10_years_127 : decode cX10_years 127 = .ok (.istore 5, 2) := by decide +kernel
theorem dX10_years_129 : decode cX10_years 129 = .ok (.aload_n 0, 1) := by decide +kernel
theorem dX10_years_130 : decode cX10_years 130 = .ok (.getfield 52, 3) := by decide +kernel
theorem dX10_years_133 : decode cX10_years 133 = .ok (.aload_n 0, 1) := by decide +kernel
theorem dX10_years_134 : decode cX10_years 134 = .ok (.getfield 19, 3) := by decide +kernel
theorem dX10_years_137 : decode cX10_years 137 = .ok (.aload_n 0, 1) := by decide +kernel
theorem dX10_years_138 : decode cX10_years 138 = .ok (.getfield 36, 3) := by decide +kernel
theorem dX10_years_141 : decode cX10_years 141 = .ok (.iload 5, 2) := by decide +kernel
theorem dX10_years_143 : decode cX10_years 143 = .ok (.ifCond .eq 20, 3) := by decide +kernel
theorem dX10_years_146 : decode cX10_years 146 = .ok (.aload_n 0, 1) := by decide +kernel
theorem dX10_years_147 : decode cX10_years 147 = .ok (.bipush 100, 2) := by decide +kernel
theorem dX10_years_149 : decode cX10_years 149 = .ok (.invokevirtual 199, 3) := by decide +kernel
theorem dX10_years_152 : decode cX10_years 152 = .ok (.aload_n 0, 1) := by decide +kernel
theorem dX10_years_153 : decode cX10_years 153 = .ok (.getfield 160, 3) := by decide +kernel
theorem dX10_years_156 : decode cX10_years 156 = .ok (.if_icmp .ge 7, 3) := by decide +kernel
theorem dX10_years_159 : decode cX10_years 159 = .ok (.iconst 1, 1) := by decide +kernel
theorem dX10_years_160 : decode cX10_years 160 = .ok (.goto 4, 3) := by decide +kernel
theorem dX10_years_163 : decode cX10_years 163 = .ok (.iconst 0, 1) := by decide +kernel
theorem dX10_years_164 : decode cX10_years 164 = .ok (.invokevirtual 181, 3) := by decide +kernel
theorem dX10_years_167 : decode cX10_years 167 = .ok (.iinc 4 1, 3) := by decide +kernel
theorem dX10_years_170 : decode cX10_years 170 = .ok (.goto (-149), 3) := by decide +kernel
theorem dX10_years_173 : decode cX10_years 173 = .ok (.aload_n 0, 1) := by decide +kernel
theorem dX10_years_174 : decode cX10_years 174 = .ok (.getfield 52, 3) := by decide +kernel
theorem dX10_years_177 : decode cX10_years 177 = .ok (.invokevirtual 185, 3) := by decide +kernel
theorem dX10_years_180 : decode cX10_years 180 = .ok (.ireturn, 1) := by decide +kernel
theorem dX10_undo_0 : decode cX10_undo 0 = .ok (.aload_n 0, 1) := by decide +kernel
theorem dX10_undo_1 : decode cX10_undo 1 = .ok (.getfield 65, 3) := by decide +kernel
theorem dX10_undo_4 : decode cX10_undo 4 = .ok (.aload_n 0, 1) := by decide +kernel
theorem dX10_undo_5 : decode cX10_undo 5 = .ok (.getfield 52, 3) := by decide +kernel
theorem dX10_undo_8 : decode cX10_undo 8 = .ok (.invokevirtual 202, 3) := by decide +kernel
theorem dX10_undo_11 : decode cX10_undo 11 = .ok (.ireturn, 1) := by decide +kernel
theorem dX10_log_0 : decode cX10_log 0 = .ok (.iload_n 1, 1) := by decide +kernel
theorem dX10_log_1 : decode cX10_log 1 = .ok (.ifCond .lt 23, 3) := by decide +kernel
theorem dX10_log_4 : decode cX10_log 4 = .ok (.iload_n 1, 1) := by decide +kernel
theorem dX10_log_5 : decode cX10_log 5 = .ok (.aload_n 0, 1) := by decide +kernel
theorem dX10_log_6 : decode cX10_log 6 = .ok (.getfield 52, 3) := by decide +kernel
theorem dX10_log_9 : decode cX10_log 9 = .ok (.invokevirtual 206, 3) := by decide +kernel
theorem dX10_log_12 : decode cX10_log 12 = .ok (.if_icmp .ge 12, 3) := by decide +kernel
theorem dX10_log_15 : decode cX10_log 15 = .ok (.iload_n 2, 1) := by decide +kernel
theorem dX10_log_16 : decode cX10_log 16 = .ok (.ifCond .lt 8, 3) := by decide +kernel
theorem dX10_log_19 : decode cX10_log 19 = .ok (.iload_n 2, 1) := by decide +kernel
theorem dX10_log_20 : decode cX10_log 20 = .ok (.iconst 1, 1) := by decide +kernel
theorem dX10_log_21 : decode cX10_log 21 = .ok (.if_icmp .le 5, 3) := by decide +kernel
theorem dX10_log_24 : decode cX10_log 24 = .ok (.iconst (-1), 1) := by decide +kernel
theorem dX10_log_25 : decode cX10_log 25 = .ok (.ireturn, 1) := by decide +kernel
theorem dX10_log_26 : decode cX10_log 26 = .ok (.aload_n 0, 1) := by decide +kernel
theorem dX10_log_27 : decode cX10_log 27 = .ok (.getfield 52, 3) := by decide +kernel
theorem dX10_log_30 : decode cX10_log 30 = .ok (.invokevirtual 206, 3) := by decide +kernel
theorem dX10_log_33 : decode cX10_log 33 = .ok (.iconst 1, 1) := by decide +kernel
theorem dX10_log_34 : decode cX10_log 34 = .ok (.isub, 1) := by decide +kernel
theorem dX10_log_35 : decode cX10_log 35 = .ok (.iload_n 1, 1) := by decide +kernel
theorem dX10_log_36 : decode cX10_log 36 = .ok (.isub, 1) := by decide +kernel
theorem dX10_log_37 : decode cX10_log 37 = .ok (.istore_n 3, 1) := by decide +kernel
theorem dX10_log_38 : decode cX10_log 38 = .ok (.iload_n 2, 1) := by decide +kernel
theorem dX10_log_39 : decode cX10_log 39 = .ok (.ifCond .ne 14, 3) := by decide +kernel
theorem dX10_log_42 : decode cX10_log 42 = .ok (.aload_n 0, 1) := by decide +kernel
theorem dX10_log_43 : decode cX10_log 43 = .ok (.getfield 52, 3) := by decide +kernel
theorem dX10_log_46 : decode cX10_log 46 = .ok (.iload_n 3, 1) := by decide +kernel
theorem dX10_log_47 : decode cX10_log 47 = .ok (.invokevirtual 209, 3) := by decide +kernel
theorem dX10_log_50 : decode cX10_log 50 = .ok (.goto 11, 3) := by decide +kernel
theorem dX10_log_53 : decode cX10_log 53 = .ok (.aload_n 0, 1) := by decide +kernel
theorem dX10_log_54 : decode cX10_log 54 = .ok (.getfield 52, 3) := by decide +kernel
theorem dX10_log_57 : decode cX10_log 57 = .ok (.iload_n 3, 1) := by decide +kernel
theorem dX10_log_58 : decode cX10_log 58 = .ok (.invokevirtual 212, 3) := by decide +kernel
theorem dX10_log_61 : decode cX10_log 61 = .ok (.ireturn, 1) := by decide +kernel
theorem dX10_step_0 : decode cX10_step 0 = .ok (.aload_n 0, 1) := by decide +kernel
theorem dX10_step_1 : decode cX10_step 1 = .ok (.getfield 43, 3) := by decide +kernel
theorem dX10_step_4 : decode cX10_step 4 = .ok (.iload_n 1, 1) := by decide +kernel
theorem dX10_step_5 : decode cX10_step 5 = .ok (.iload_n 2, 1) := by decide +kernel
theorem dX10_step_6 : decode cX10_step 6 = .ok (.iload_n 3, 1) := by decide +kernel
theorem dX10_step_7 : decode cX10_step 7 = .ok (.invokevirtual 215, 3) := by decide +kernel
theorem dX10_step_10 : decode cX10_step 10 = .ok (.ireturn, 1) := by decide +kernel
theorem dX10_run_0 : decode cX10_run 0 = .ok (.aload_n 0, 1) := by decide +kernel
theorem dX10_run_1 : decode cX10_run 1 = .ok (.invokevirtual 126, 3) := by decide +kernel
theorem dX10_run_4 : decode cX10_run 4 = .ok (.ifCond .eq 14, 3) := by decide +kernel
theorem dX10_run_7 : decode cX10_run 7 = .ok (.aload_n 0, 1) := by decide +kernel
theorem dX10_run_8 : decode cX10_run 8 = .ok (.getfield 43, 3) := by decide +kernel
theorem dX10_run_11 : decode cX10_run 11 = .ok (.iload_n 1, 1) := by decide +kernel
theorem dX10_run_12 : decode cX10_run 12 = .ok (.invokevirtual 218, 3) := by decide +kernel
theorem dX10_run_15 : decode cX10_run 15 = .ok (.ifCond .ne 6, 3) := by decide +kernel
theorem dX10_run_18 : decode cX10_run 18 = .ok (.ldc 221, 2) := by decide +kernel
theorem dX10_run_20 : decode cX10_run 20 = .ok (.ireturn, 1) := by decide +kernel
theorem dX10_run_21 : decode cX10_run 21 = .ok (.aload_n 0, 1) := by decide +kernel
theorem dX10_run_22 : decode cX10_run 22 = .ok (.getfield 56, 3) := by decide +kernel
theorem dX10_run_25 : decode cX10_run 25 = .ok (.aload_n 0, 1) := by decide +kernel
theorem dX10_run_26 : decode cX10_run 26 = .ok (.getfield 52, 3) := by decide +kernel
theorem dX10_run_29 : decode cX10_run 29 = .ok (.invokevirtual 222, 3) := by decide +kernel
theorem dX10_run_32 : decode cX10_run 32 = .ok (.iconst 0, 1) := by decide +kernel
theorem dX10_run_33 : decode cX10_run 33 = .ok (.istore_n 2, 1) := by decide +kernel
theorem dX10_run_34 : decode cX10_run 34 = .ok (.iload_n 2, 1) := by decide +kernel
theorem dX10_run_35 : decode cX10_run 35 = .ok (.aload_n 0, 1) := by decide +kernel
theorem dX10_run_36 : decode cX10_run 36 = .ok (.getfield 43, 3) := by decide +kernel
theorem dX10_run_39 : decode cX10_run 39 = .ok (.iload_n 1, 1) := by decide +kernel
theorem dX10_run_40 : decode cX10_run 40 = .ok (.invokevirtual 225, 3) := by decide +kernel
theorem dX10_run_43 : decode cX10_run 43 = .ok (.if_icmp .ge 34, 3) := by decide +kernel
theorem dX10_run_46 : decode cX10_run 46 = .ok (.aload_n 0, 1) := by decide +kernel
theorem dX10_run_47 : decode cX10_run 47 = .ok (.aload_n 0, 1) := by decide +kernel
theorem dX10_run_48 : decode cX10_run 48 = .ok (.getfield 56, 3) := by decide +kernel
theorem dX10_run_51 : decode cX10_run 51 = .ok (.iload_n 1, 1) := by decide +kernel
theorem dX10_run_52 : decode cX10_run 52 = .ok (.iload_n 2, 1) := by decide +kernel
theorem dX10_run_53 : decode cX10_run 53 = .ok (.invokevirtual 227, 3) := by decide +kernel
theorem dX10_run_56 : decode cX10_run 56 = .ok (.ifCond .ne 5, 3) := by decide +kernel
theorem dX10_run_59 : decode cX10_run 59 = .ok (.iload_n 2, 1) := by decide +kernel
theorem dX10_run_60 : decode cX10_run 60 = .ok (.ireturn, 1) := by decide +kernel
theorem dX10_run_61 : decode cX10_run 61 = .ok (.aload_n 0, 1) := by decide +kernel
theorem dX10_run_62 : decode cX10_run 62 = .ok (.aload_n 0, 1) := by decide +kernel
theorem dX10_run_63 : decode cX10_run 63 = .ok (.getfield 56, 3) := by decide +kernel
theorem dX10_run_66 : decode cX10_run 66 = .ok (.iload_n 1, 1) := by decide +kernel
theorem dX10_run_67 : decode cX10_run 67 = .ok (.iload_n 2, 1) := by decide +kernel
theorem dX10_run_68 : decode cX10_run 68 = .ok (.invokevirtual 231, 3) := by decide +kernel
theorem dX10_run_71 : decode cX10_run 71 = .ok (.iinc 2 1, 3) := by decide +kernel
theorem dX10_run_74 : decode cX10_run 74 = .ok (.goto (-40), 3) := by decide +kernel
theorem dX10_run_77 : decode cX10_run 77 = .ok (.iconst (-1), 1) := by decide +kernel
theorem dX10_run_78 : decode cX10_run 78 = .ok (.ireturn, 1) := by decide +kernel
theorem dX10_perform_0 : decode cX10_perform 0 = .ok (.aload_n 0, 1) := by decide +kernel
theorem dX10_perform_1 : decode cX10_perform 1 = .ok (.invokevirtual 126, 3) := by decide +kernel
theorem dX10_perform_4 : decode cX10_perform 4 = .ok (.ifCond .eq 14, 3) := by decide +kernel
theorem dX10_perform_7 : decode cX10_perform 7 = .ok (.aload_n 0, 1) := by decide +kernel
theorem dX10_perform_8 : decode cX10_perform 8 = .ok (.getfield 43, 3) := by decide +kernel
theorem dX10_perform_11 : decode cX10_perform 11 = .ok (.iload_n 1, 1) := by decide +kernel
theorem dX10_perform_12 : decode cX10_perform 12 = .ok (.invokevirtual 218, 3) := by decide +kernel
theorem dX10_perform_15 : decode cX10_perform 15 = .ok (.ifCond .ne 5, 3) := by decide +kernel
theorem dX10_perform_18 : decode cX10_perform 18 = .ok (.iconst (-1), 1) := by decide +kernel
theorem dX10_perform_19 : decode cX10_perform 19 = .ok (.ireturn, 1) := by decide +kernel
theorem dX10_perform_20 : decode cX10_perform 20 = .ok (.iconst 0, 1) := by decide +kernel
theorem dX10_perform_21 : decode cX10_perform 21 = .ok (.istore_n 2, 1) := by decide +kernel
theorem dX10_perform_22 : decode cX10_perform 22 = .ok (.iload_n 2, 1) := by decide +kernel
theorem dX10_perform_23 : decode cX10_perform 23 = .ok (.aload_n 0, 1) := by decide +kernel
theorem dX10_perform_24 : decode cX10_perform 24 = .ok (.getfield 43, 3) := by decide +kernel
theorem dX10_perform_27 : decode cX10_perform 27 = .ok (.iload_n 1, 1) := by decide +kernel
theorem dX10_perform_28 : decode cX10_perform 28 = .ok (.invokevirtual 225, 3) := by decide +kernel
theorem dX10_perform_31 : decode cX10_perform 31 = .ok (.if_icmp .ge 45, 3) := by decide +kernel
theorem dX10_perform_34 : decode cX10_perform 34 = .ok (.aload_n 0, 1) := by decide +kernel
theorem dX10_perform_35 : decode cX10_perform 35 = .ok (.aload_n 0, 1) := by decide +kernel
theorem dX10_perform_36 : decode cX10_perform 36 = .ok (.getfield 52, 3) := by decide +kernel
theorem dX10_perform_39 : decode cX10_perform 39 = .ok (.iload_n 1, 1) := by decide +kernel
theorem dX10_perform_40 : decode cX10_perform 40 = .ok (.iload_n 2, 1) := by decide +kernel
theorem dX10_perform_41 : decode cX10_perform 41 = .ok (.invokevirtual 227, 3) := by decide +kernel
theorem dX10_perform_44 : decode cX10_perform 44 = .ok (.ifCond .ne 5, 3) := by decide +kernel
theorem dX10_perform_47 : decode cX10_perform 47 = .ok (.iload_n 2, 1) := by decide +kernel
theorem dX10_perform_48 : decode cX10_perform 48 = .ok (.ireturn, 1) := by decide +kernel
theorem dX10_perform_49 : decode cX10_perform 49 = .ok (.aload_n 0, 1) := by decide +kernel
theorem dX10_perform_50 : decode cX10_perform 50 = .ok (.getfield 65, 3) := by decide +kernel
theorem dX10_perform_53 : decode cX10_perform 53 = .ok (.aload_n 0, 1) := by decide +kernel
theorem dX10_perform_54 : decode cX10_perform 54 = .ok (.getfield 52, 3) := by decide +kernel
theorem dX10_perform_57 : decode cX10_perform 57 = .ok (.invokevirtual 167, 3) := by decide +kernel
theorem dX10_perform_60 : decode cX10_perform 60 = .ok (.aload_n 0, 1) := by decide +kernel
theorem dX10_perform_61 : decode cX10_perform 61 = .ok (.aload_n 0, 1) := by decide +kernel
theorem dX10_perform_62 : decode cX10_perform 62 = .ok (.getfield 52, 3) := by decide +kernel
theorem dX10_perform_65 : decode cX10_perform 65 = .ok (.iload_n 1, 1) := by decide +kernel
theorem dX10_perform_66 : decode cX10_perform 66 = .ok (.iload_n 2, 1) := by decide +kernel
theorem dX10_perform_67 : decode cX10_perform 67 = .ok (.invokevirtual 231, 3) := by decide +kernel
theorem dX10_perform_70 : decode cX10_perform 70 = .ok (.iinc 2 1, 3) := by decide +kernel
theorem dX10_perform_73 : decode cX10_perform 73 = .ok (.goto (-51), 3) := by decide +kernel
theorem dX10_perform_76 : decode cX10_perform 76 = .ok (.aload_n 0, 1) := by decide +kernel
theorem dX10_perform_77 : decode cX10_perform 77 = .ok (.getfield 43, 3) := by decide +kernel
theorem dX10_perform_80 : decode cX10_perform 80 = .ok (.iload_n 1, 1) := by decide +kernel
theorem dX10_perform_81 : decode cX10_perform 81 = .ok (.invokevirtual 225, 3) := by decide +kernel
theorem dX10_perform_84 : decode cX10_perform 84 = .ok (.ireturn, 1) := by decide +kernel
theorem dX10_ahead_0 : decode cX10_ahead 0 = .ok (.aload_n 0, 1) := by decide +kernel
theorem dX10_ahead_1 : decode cX10_ahead 1 = .ok (.getfield 19, 3) := by decide +kernel
theorem dX10_ahead_4 : decode cX10_ahead 4 = .ok (.iconst 1, 1) := by decide +kernel
theorem dX10_ahead_5 : decode cX10_ahead 5 = .ok (.iload_n 1, 1) := by decide +kernel
theorem dX10_ahead_6 : decode cX10_ahead 6 = .ok (.invokevirtual 134, 3) := by decide +kernel
theorem dX10_ahead_9 : decode cX10_ahead 9 = .ok (.ifCond .eq 23, 3) := by decide +kernel
theorem dX10_ahead_12 : decode cX10_ahead 12 = .ok (.iload_n 2, 1) := by decide +kernel
theorem dX10_ahead_13 : decode cX10_ahead 13 = .ok (.ifCond .lt 19, 3) := by decide +kernel
theorem dX10_ahead_16 : decode cX10_ahead 16 = .ok (.iload_n 2, 1) := by decide +kernel
theorem dX10_ahead_17 : decode cX10_ahead 17 = .ok (.sipush 240, 3) := by decide +kernel
theorem dX10_ahead_20 : decode cX10_ahead 20 = .ok (.if_icmp .gt 12, 3) := by decide +kernel
theorem dX10_ahead_23 : decode cX10_ahead 23 = .ok (.iload_n 3, 1) := by decide +kernel
theorem dX10_ahead_24 : decode cX10_ahead 24 = .ok (.ifCond .lt 8, 3) := by decide +kernel
theorem dX10_ahead_27 : decode cX10_ahead 27 = .ok (.iload_n 3, 1) := by decide +kernel
theorem dX10_ahead_28 : decode cX10_ahead 28 = .ok (.iconst 1, 1) := by decide +kernel
theorem dX10_ahead_29 : decode cX10_ahead 29 = .ok (.if_icmp .le 5, 3) := by decide +kernel
theorem dX10_ahead_32 : decode cX10_ahead 32 = .ok (.iconst (-1), 1) := by decide +kernel
theorem dX10_ahead_33 : decode cX10_ahead 33 = .ok (.ireturn, 1) := by decide +kernel
theorem dX10_ahead_34 : decode cX10_ahead 34 = .ok (.aload_n 0, 1) := by decide +kernel
theorem dX10_ahead_35 : decode cX10_ahead 35 = .ok (.getfield 56, 3) := by decide +kernel
theorem dX10_ahead_38 : decode cX10_ahead 38 = .ok (.aload_n 0, 1) := by decide +kernel
theorem dX10_ahead_39 : decode cX10_ahead 39 = .ok (.getfield 52, 3) := by decide +kernel
theorem dX10_ahead_42 : decode cX10_ahead 42 = .ok (.invokevirtual 222, 3) := by decide +kernel
theorem dX10_ahead_45 : decode cX10_ahead 45 = .ok (.iconst 0, 1) := by decide +kernel
theorem dX10_ahead_46 : decode cX10_ahead 46 = .ok (.istore 4, 2) := by decide +kernel
theorem dX10_ahead_48 : decode cX10_ahead 48 = .ok (.iload 4, 2) := by decide +kernel
theorem dX10_ahead_50 : decode cX10_ahead 50 = .ok (.iload_n 2, 1) := by decide +kernel
theorem dX10_ahead_51 : decode cX10_ahead 51 = .ok (.if_icmp .ge 25, 3) := by decide +kernel
theorem dX10_ahead_54 : decode cX10_ahead 54 = .ok (.aload_n 0, 1) := by decide +kernel
theorem dX10_ahead_55 : decode cX10_ahead 55 = .ok (.getfield 56, 3) := by decide +kernel
theorem dX10_ahead_58 : decode cX10_ahead 58 = .ok (.aload_n 0, 1) := by decide +kernel
theorem dX10_ahead_59 : decode cX10_ahead 59 = .ok (.getfield 19, 3) := by decide +kernel
theorem dX10_ahead_62 : decode cX10_ahead 62 = .ok (.aload_n 0, 1) := by decide +kernel
theorem dX10_ahead_63 : decode cX10_ahead 63 = .ok (.getfield 36, 3) := by decide +kernel
theorem dX10_ahead_66 : decode cX10_ahead 66 = .ok (.iconst 0, 1) := by decide +kernel
theorem dX10_ahead_67 : decode cX10_ahead 67 = .ok (.invokevirtual 181, 3) := by decide +kernel
theorem dX10_ahead_70 : decode cX10_ahead 70 = .ok (.iinc 4 1, 3) := by decide +kernel
theorem dX10_ahead_73 : decode cX10_ahead 73 = .ok (.goto (-25), 3) := by decide +kernel
theorem dX10_ahead_76 : decode cX10_ahead 76 = .ok (.aload_n 0, 1) := by decide +kernel
theorem dX10_ahead_77 : decode cX10_ahead 77 = .ok (.getfield 56, 3) := by decide +kernel
theorem dX10_ahead_80 : decode cX10_ahead 80 = .ok (.iload_n 3, 1) := by decide +kernel
theorem dX10_ahead_81 : decode cX10_ahead 81 = .ok (.ifCond .ne 7, 3) := by decide +kernel
theorem dX10_ahead_84 : decode cX10_ahead 84 = .ok (.iconst 0, 1) := by decide +kernel
theorem dX10_ahead_85 : decode cX10_ahead 85 = .ok (.goto 4, 3) := by decide +kernel
theorem dX10_ahead_88 : decode cX10_ahead 88 = .ok (.iconst 3, 1) := by decide +kernel
theorem dX10_ahead_89 : decode cX10_ahead 89 = .ok (.iload_n 1, 1) := by decide +kernel
theorem dX10_ahead_90 : decode cX10_ahead 90 = .ok (.invokevirtual 141, 3) := by decide +kernel
theorem dX10_ahead_93 : decode cX10_ahead 93 = .ok (.ireturn, 1) := by decide +kernel
theorem dX10_needed_0 : decode cX10_needed 0 = .ok (.aload_n 0, 1) := by decide +kernel
theorem dX10_needed_1 : decode cX10_needed 1 = .ok (.getfield 19, 3) := by decide +kernel
theorem dX10_needed_4 : decode cX10_needed 4 = .ok (.iconst 3, 1) := by decide +kernel
theorem dX10_needed_5 : decode cX10_needed 5 = .ok (.iload_n 1, 1) := by decide +kernel
theorem dX10_needed_6 : decode cX10_needed 6 = .ok (.invokevirtual 134, 3) := by decide +kernel
theorem dX10_needed_9 : decode cX10_needed 9 = .ok (.ifCond .eq 17, 3) := by decide +kernel
theorem dX10_needed_12 : decode cX10_needed 12 = .ok (.aload_n 0, 1) := by decide +kernel
theorem dX10_needed_13 : decode cX10_needed 13 = .ok (.getfield 19, 3) := by decide +kernel
theorem dX10_needed_16 : decode cX10_needed 16 = .ok (.iconst 1, 1) := by decide +kernel
theorem dX10_needed_17 : decode cX10_needed 17 = .ok (.iload_n 1, 1) := by decide +kernel
theorem dX10_needed_18 : decode cX10_needed 18 = .ok (.ishl, 1) := by decide +kernel
theorem dX10_needed_19 : decode cX10_needed 19 = .ok (.iconst 0, 1) := by decide +kernel
theorem dX10_needed_20 : decode cX10_needed 20 = .ok (.invokevirtual 235, 3) := by decide +kernel
theorem dX10_needed_23 : decode cX10_needed 23 = .ok (.goto 4, 3) := by decide +kernel
theorem dX10_needed_26 : decode cX10_needed 26 = .ok (.iconst (-1), 1) := by decide +kernel
theorem dX10_needed_27 : decode cX10_needed 27 = .ok (.ireturn, 1) := by decide +kernel
theorem dX10_ring_0 : decode cX10_ring 0 = .ok (.aload_n 0, 1) := by decide +kernel
theorem dX10_ring_1 : decode cX10_ring 1 = .ok (.invokevirtual 126, 3) := by decide +kernel
theorem dX10_ring_4 : decode cX10_ring 4 = .ok (.ifCond .ne 5, 3) := by decide +kernel
theorem dX10_ring_7 : decode cX10_ring 7 = .ok (.iconst (-1), 1) := by decide +kernel
theorem dX10_ring_8 : decode cX10_ring 8 = .ok (.ireturn, 1) := by decide +kernel
theorem dX10_ring_9 : decode cX10_ring 9 = .ok (.iconst 0, 1) := by decide +kernel
theorem dX10_ring_10 : decode cX10_ring 10 = .ok (.istore_n 1, 1) := by decide +kernel
theorem dX10_ring_11 : decode cX10_ring 11 = .ok (.iconst 0, 1) := by decide +kernel
theorem dX10_ring_12 : decode cX10_ring 12 = .ok (.istore_n 2, 1) := by decide +kernel
theorem dX10_ring_13 : decode cX10_ring 13 = .ok (.iload_n 2, 1) := by decide +kernel
theorem dX10_ring_14 : decode cX10_ring 14 = .ok (.aload_n 0, 1) := by decide +kernel
theorem dX10_ring_15 : decode cX10_ring 15 = .ok (.getfield 19, 3) := by decide +kernel
theorem dX10_ring_18 : decode cX10_ring 18 = .ok (.iconst 3, 1) := by decide +kernel
theorem dX10_ring_19 : decode cX10_ring 19 = .ok (.invokevirtual 124, 3) := by decide +kernel
theorem dX10_ring_22 : decode cX10_ring 22 = .ok (.if_icmp .ge 32, 3) := by decide +kernel
theorem dX10_ring_25 : decode cX10_ring 25 = .ok (.iload_n 1, 1) := by decide +kernel
theorem dX10_ring_26 : decode cX10_ring 26 = .ok (.aload_n 0, 1) := by decide +kernel
theorem dX10_ring_27 : decode cX10_ring 27 = .ok (.getfield 19, 3) := by decide +kernel
theorem dX10_ring_30 : decode cX10_ring 30 = .ok (.aload_n 0, 1) := by decide +kernel
theorem dX10_ring_31 : decode cX10_ring 31 = .ok (.getfield 19, 3) := by decide +kernel
theorem dX10_ring_34 : decode cX10_ring 34 = .ok (.iload_n 2, 1) := by decide +kernel
theorem dX10_ring_35 : decode cX10_ring 35 = .ok (.invokevirtual 238, 3) := by decide +kernel
theorem dX10_ring_38 : decode cX10_ring 38 = .ok (.iconst 0, 1) := by decide +kernel
theorem dX10_ring_39 : decode cX10_ring 39 = .ok (.invokevirtual 235, 3) := by decide +kernel
theorem dX10_ring_42 : decode cX10_ring 42 = .ok (.iconst 1, 1) := by decide +kernel
theorem dX10_ring_43 : decode cX10_ring 43 = .ok (.iload_n 2, 1) := by decide +kernel
theorem dX10_ring_44 : decode cX10_ring 44 = .ok (.ishl, 1) := by decide +kernel
theorem dX10_ring_45 : decode cX10_ring 45 = .ok (.iand, 1) := by decide +kernel
theorem dX10_ring_46 : decode cX10_ring 46 = .ok (.ior, 1) := by decide +kernel
theorem dX10_ring_47 : decode cX10_ring 47 = .ok (.istore_n 1, 1) := by decide +kernel
theorem dX10_ring_48 : decode cX10_ring 48 = .ok (.iinc 2 1, 3) := by decide +kernel
theorem dX10_ring_51 : decode cX10_ring 51 = .ok (.goto (-38), 3) := by decide +kernel
theorem dX10_ring_54 : decode cX10_ring 54 = .ok (.iload_n 1, 1) := by decide +kernel
theorem dX10_ring_55 : decode cX10_ring 55 = .ok (.ireturn, 1) := by decide +kernel
theorem dX10_soonest_0 : decode cX10_soonest 0 = .ok (.aload_n 0, 1) := by decide +kernel
theorem dX10_soonest_1 : decode cX10_soonest 1 = .ok (.getfield 19, 3) := by decide +kernel
theorem dX10_soonest_4 : decode cX10_soonest 4 = .ok (.iconst 1, 1) := by decide +kernel
theorem dX10_soonest_5 : decode cX10_soonest 5 = .ok (.iload_n 1, 1) := by decide +kernel
theorem dX10_soonest_6 : decode cX10_soonest 6 = .ok (.invokevirtual 134, 3) := by decide +kernel
theorem dX10_soonest_9 : decode cX10_soonest 9 = .ok (.ifCond .eq 12, 3) := by decide +kernel
theorem dX10_soonest_12 : decode cX10_soonest 12 = .ok (.iload_n 2, 1) := by decide +kernel
theorem dX10_soonest_13 : decode cX10_soonest 13 = .ok (.ifCond .lt 8, 3) := by decide +kernel
theorem dX10_soonest_16 : decode cX10_soonest 16 = .ok (.iload_n 2, 1) := by decide +kernel
theorem dX10_soonest_17 : decode cX10_soonest 17 = .ok (.iconst 2, 1) := by decide +kernel
theorem dX10_soonest_18 : decode cX10_soonest 18 = .ok (.if_icmp .le 5, 3) := by decide +kernel
theorem dX10_soonest_21 : decode cX10_soonest 21 = .ok (.iconst (-1), 1) := by decide +kernel
theorem dX10_soonest_22 : decode cX10_soonest 22 = .ok (.ireturn, 1) := by decide +kernel
theorem dX10_soonest_23 : decode cX10_soonest 23 = .ok (.aload_n 0, 1) := by decide +kernel
theorem dX10_soonest_24 : decode cX10_soonest 24 = .ok (.iload_n 1, 1) := by decide +kernel
theorem dX10_soonest_25 : decode cX10_soonest 25 = .ok (.iconst 0, 1) := by decide +kernel
theorem dX10_soonest_26 : decode cX10_soonest 26 = .ok (.invokevirtual 241, 3) := by decide +kernel
theorem dX10_soonest_29 : decode cX10_soonest 29 = .ok (.istore_n 3, 1) := by decide +kernel
theorem dX10_soonest_30 : decode cX10_soonest 30 = .ok (.aload_n 0, 1) := by decide +kernel
theorem dX10_soonest_31 : decode cX10_soonest 31 = .ok (.getfield 72, 3) := by decide +kernel
theorem dX10_soonest_34 : decode cX10_soonest 34 = .ok (.aload_n 0, 1) := by decide +kernel
theorem dX10_soonest_35 : decode cX10_soonest 35 = .ok (.getfield 19, 3) := by decide +kernel
theorem dX10_soonest_38 : decode cX10_soonest 38 = .ok (.iload_n 3, 1) := by decide +kernel
theorem dX10_soonest_39 : decode cX10_soonest 39 = .ok (.aload_n 0, 1) := by decide +kernel
theorem dX10_soonest_40 : decode cX10_soonest 40 = .ok (.getfield 52, 3) := by decide +kernel
theorem dX10_soonest_43 : decode cX10_soonest 43 = .ok (.invokevirtual 151, 3) := by decide +kernel
theorem dX10_soonest_46 : decode cX10_soonest 46 = .ok (.invokevirtual 244, 3) := by decide +kernel
theorem dX10_soonest_49 : decode cX10_soonest 49 = .ok (.istore 4, 2) := by decide +kernel
theorem dX10_soonest_51 : decode cX10_soonest 51 = .ok (.iload 4, 2) := by decide +kernel
theorem dX10_soonest_53 : decode cX10_soonest 53 = .ok (.iconst (-1), 1) := by decide +kernel
theorem dX10_soonest_54 : decode cX10_soonest 54 = .ok (.if_icmp .eq 7, 3) := by decide +kernel
theorem dX10_soonest_57 : decode cX10_soonest 57 = .ok (.iload_n 2, 1) := by decide +kernel
theorem dX10_soonest_58 : decode cX10_soonest 58 = .ok (.ifCond .ne 6, 3) := by decide +kernel
theorem dX10_soonest_61 : decode cX10_soonest 61 = .ok (.iload 4, 2) := by decide +kernel
theorem dX10_soonest_63 : decode cX10_soonest 63 = .ok (.ireturn, 1) := by decide +kernel
theorem dX10_soonest_64 : decode cX10_soonest 64 = .ok (.iload_n 2, 1) := by decide +kernel
theorem dX10_soonest_65 : decode cX10_soonest 65 = .ok (.iconst 1, 1) := by decide +kernel
theorem dX10_soonest_66 : decode cX10_soonest 66 = .ok (.if_icmp .ne 25, 3) := by decide +kernel
theorem dX10_soonest_69 : decode cX10_soonest 69 = .ok (.aload_n 0, 1) := by decide +kernel
theorem dX10_soonest_70 : decode cX10_soonest 70 = .ok (.getfield 72, 3) := by decide +kernel
theorem dX10_soonest_73 : decode cX10_soonest 73 = .ok (.aload_n 0, 1) := by decide +kernel
theorem dX10_soonest_74 : decode cX10_soonest 74 = .ok (.getfield 19, 3) := by decide +kernel
theorem dX10_soonest_77 : decode cX10_soonest 77 = .ok (.iload_n 3, 1) := by decide +kernel
theorem dX10_soonest_78 : decode cX10_soonest 78 = .ok (.aload_n 0, 1) := by decide +kernel
theorem dX10_soonest_79 : decode cX10_soonest 79 = .ok (.getfield 52, 3) := by decide +kernel
theorem dX10_soonest_82 : decode cX10_soonest 82 = .ok (.invokevirtual 151, 3) := by decide +kernel
theorem dX10_soonest_85 : decode cX10_soonest 85 = .ok (.invokevirtual 248, 3) := by decide +kernel
theorem dX10_soonest_88 : decode cX10_soonest 88 = .ok (.goto 11, 3) := by decide +kernel
theorem dX10_soonest_91 : decode cX10_soonest 91 = .ok (.aload_n 0, 1) := by decide +kernel
theorem dX10_soonest_92 : decode cX10_soonest 92 = .ok (.getfield 19, 3) := by decide +kernel
theorem dX10_soonest_95 : decode cX10_soonest 95 = .ok (.iload_n 3, 1) := by decide +kernel
theorem dX10_soonest_96 : decode cX10_soonest 96 = .ok (.invokevirtual 251, 3) := by decide +kernel
theorem dX10_soonest_99 : decode cX10_soonest 99 = .ok (.ireturn, 1) := by decide +kernel
theorem dX10_waived_0 : decode cX10_waived 0 = .ok (.aload_n 0, 1) := by decide +kernel
theorem dX10_waived_1 : decode cX10_waived 1 = .ok (.getfield 19, 3) := by decide +kernel
theorem dX10_waived_4 : decode cX10_waived 4 = .ok (.iconst 1, 1) := by decide +kernel
theorem dX10_waived_5 : decode cX10_waived 5 = .ok (.iload_n 1, 1) := by decide +kernel
theorem dX10_waived_6 : decode cX10_waived 6 = .ok (.invokevirtual 134, 3) := by decide +kernel
theorem dX10_waived_9 : decode cX10_waived 9 = .ok (.ifCond .ne 5, 3) := by decide +kernel
theorem dX10_waived_12 : decode cX10_waived 12 = .ok (.iconst (-1), 1) := by decide +kernel
theorem dX10_waived_13 : decode cX10_waived 13 = .ok (.ireturn, 1) := by decide +kernel
theorem dX10_waived_14 : decode cX10_waived 14 = .ok (.aload_n 0, 1) := by decide +kernel
theorem dX10_waived_15 : decode cX10_waived 15 = .ok (.iload_n 1, 1) := by decide +kernel
theorem dX10_waived_16 : decode cX10_waived 16 = .ok (.iconst 0, 1) := by decide +kernel
theorem dX10_waived_17 : decode cX10_waived 17 = .ok (.invokevirtual 254, 3) := by decide +kernel
theorem dX10_waived_20 : decode cX10_waived 20 = .ok (.ifCond .eq 5, 3) := by decide +kernel
theorem dX10_waived_23 : decode cX10_waived 23 = .ok (.iconst 0, 1) := by decide +kernel
theorem dX10_waived_24 : decode cX10_waived 24 = .ok (.ireturn, 1) := by decide +kernel
theorem dX10_waived_25 : decode cX10_waived 25 = .ok (.iconst 0, 1) := by decide +kernel
theorem dX10_waived_26 : decode cX10_waived 26 = .ok (.istore_n 2, 1) := by decide +kernel
theorem dX10_waived_27 : decode cX10_waived 27 = .ok (.iload_n 2, 1) := by decide +kernel
theorem dX10_waived_28 : decode cX10_waived 28 = .ok (.aload_n 0, 1) := by decide +kernel
theorem dX10_waived_29 : decode cX10_waived 29 = .ok (.getfield 19, 3) := by decide +kernel
theorem dX10_waived_32 : decode cX10_waived 32 = .ok (.iconst 3, 1) := by decide +kernel
theorem dX10_waived_33 : decode cX10_waived 33 = .ok (.invokevirtual 124, 3) := by decide +kernel
theorem dX10_waived_36 : decode cX10_waived 36 = .ok (.if_icmp .ge 24, 3) := by decide +kernel
theorem dX10_waived_39 : decode cX10_waived 39 = .ok (.aload_n 0, 1) := by decide +kernel
theorem dX10_waived_40 : decode cX10_waived 40 = .ok (.iload_n 1, 1) := by decide +kernel
theorem dX10_waived_41 : decode cX10_waived 41 = .ok (.iconst 1, 1) := by decide +kernel
theorem dX10_waived_42 : decode cX10_waived 42 = .ok (.iload_n 2, 1) := by decide +kernel
theorem dX10_waived_43 : decode cX10_waived 43 = .ok (.ishl, 1) := by decide +kernel
theorem dX10_waived_44 : decode cX10_waived 44 = .ok (.invokevirtual 254, 3) := by decide +kernel
theorem dX10_waived_47 : decode cX10_waived 47 = .ok (.ifCond .eq 7, 3) := by decide +kernel
theorem dX10_waived_50 : decode cX10_waived 50 = .ok (.iconst 1, 1) := by decide +kernel
theorem dX10_waived_51 : decode cX10_waived 51 = .ok (.iload_n 2, 1) := by decide +kernel
theorem dX10_waived_52 : decode cX10_waived 52 = .ok (.ishl, 1) := by decide +kernel
theorem dX10_waived_53 : decode cX10_waived 53 = .ok (.ireturn, 1) := by decide +kernel
theorem dX10_waived_54 : decode cX10_waived 54 = .ok (.iinc 2 1, 3) := by decide +kernel
theorem dX10_waived_57 : decode cX10_waived 57 = .ok (.goto (-30), 3) := by decide +kernel
theorem dX10_waived_60 : decode cX10_waived 60 = .ok (.iconst (-1), 1) := by decide +kernel
theorem dX10_waived_61 : decode cX10_waived 61 = .ok (.ireturn, 1) := by decide +kernel
theorem dX10_earliest_0 : decode cX10_earliest 0 = .ok (.iconst (-1), 1) := by decide +kernel
theorem dX10_earliest_1 : decode cX10_earliest 1 = .ok (.istore_n 1, 1) := by decide +kernel
theorem dX10_earliest_2 : decode cX10_earliest 2 = .ok (.iconst (-1), 1) := by decide +kernel
theorem dX10_earliest_3 : decode cX10_earliest 3 = .ok (.istore_n 2, 1) := by decide +kernel
theorem dX10_earliest_4 : decode cX10_earliest 4 = .ok (.iconst 0, 1) := by decide +kernel
theorem dX10_earliest_5 : decode cX10_earliest 5 = .ok (.istore_n 3, 1) := by decide +kernel
theorem dX10_earliest_6 : decode cX10_earliest 6 = .ok (.iload_n 3, 1) := by decide +kernel
theorem dX10_earliest_7 : decode cX10_earliest 7 = .ok (.aload_n 0, 1) := by decide +kernel
theorem dX10_earliest_8 : decode cX10_earliest 8 = .ok (.getfield 19, 3) := by decide +kernel
theorem dX10_earliest_11 : decode cX10_earliest 11 = .ok (.iconst 1, 1) := by decide +kernel
theorem dX10_earliest_12 : decode cX10_earliest 12 = .ok (.invokevirtual 124, 3) := by decide +kernel
theorem dX10_earliest_15 : decode cX10_earliest 15 = .ok (.if_icmp .ge 57, 3) := by decide +kernel
theorem dX10_earliest_18 : decode cX10_earliest 18 = .ok (.aload_n 0, 1) := by decide +kernel
theorem dX10_earliest_19 : decode cX10_earliest 19 = .ok (.getfield 72, 3) := by decide +kernel
theorem dX10_earliest_22 : decode cX10_earliest 22 = .ok (.aload_n 0, 1) := by decide +kernel
theorem dX10_earliest_23 : decode cX10_earliest 23 = .ok (.getfield 19, 3) := by decide +kernel
theorem dX10_earliest_26 : decode cX10_earliest 26 = .ok (.aload_n 0, 1) := by decide +kernel
theorem dX10_earliest_27 : decode cX10_earliest 27 = .ok (.iload_n 3, 1) := by decide +kernel
theorem dX10_earliest_28 : decode cX10_earliest 28 = .ok (.iconst 0, 1) := by decide +kernel
theorem dX10_earliest_29 : decode cX10_earliest 29 = .ok (.invokevirtual 241, 3) := by decide +kernel
theorem dX10_earliest_32 : decode cX10_earliest 32 = .ok (.aload_n 0, 1) := by decide +kernel
theorem dX10_earliest_33 : decode cX10_earliest 33 = .ok (.getfield 52, 3) := by decide +kernel
theorem dX10_earliest_36 : decode cX10_earliest 36 = .ok (.invokevirtual 151, 3) := by decide +kernel
theorem dX10_earliest_39 : decode cX10_earliest 39 = .ok (.invokevirtual 244, 3) := by decide +kernel
theorem dX10_earliest_42 : decode cX10_earliest 42 = .ok (.istore 4, 2) := by decide +kernel
theorem dX10_earliest_44 : decode cX10_earliest 44 = .ok (.iload 4, 2) := by decide +kernel
theorem dX10_earliest_46 : decode cX10_earliest 46 = .ok (.iconst (-1), 1) := by decide +kernel
theorem dX10_earliest_47 : decode cX10_earliest 47 = .ok (.if_icmp .eq 19, 3) := by decide +kernel
theorem dX10_earliest_50 : decode cX10_earliest 50 = .ok (.iload_n 1, 1) := by decide +kernel
theorem dX10_earliest_51 : decode cX10_earliest 51 = .ok (.iconst (-1), 1) := by decide +kernel
theorem dX10_earliest_52 : decode cX10_earliest 52 = .ok (.if_icmp .eq 9, 3) := by decide +kernel
theorem dX10_earliest_55 : decode cX10_earliest 55 = .ok (.iload 4, 2) := by decide +kernel
theorem dX10_earliest_57 : decode cX10_earliest 57 = .ok (.iload_n 2, 1) := by decide +kernel
theorem dX10_earliest_58 : decode cX10_earliest 58 = .ok (.if_icmp .ge 8, 3) := by decide +kernel
theorem dX10_earliest_61 : decode cX10_earliest 61 = .ok (.iload_n 3, 1) := by decide +kernel
theorem dX10_earliest_62 : decode cX10_earliest 62 = .ok (.istore_n 1, 1) := by decide +kernel
theorem dX10_earliest_63 : decode cX10_earliest 63 = .ok (.iload 4, 2) := by decide +kernel
theorem dX10_earliest_65 : decode cX10_earliest 65 = .ok (.istore_n 2, 1) := by decide +kernel
theorem dX10_earliest_66 : decode cX10_earliest 66 = .ok (.iinc 3 1, 3) := by decide +kernel
theorem dX10_earliest_69 : decode cX10_earliest 69 = .ok (.goto (-63), 3) := by decide +kernel
theorem dX10_earliest_72 : decode cX10_earliest 72 = .ok (.iload_n 1, 1) := by decide +kernel
theorem dX10_earliest_73 : decode cX10_earliest 73 = .ok (.ireturn, 1) := by decide +kernel
theorem dX10_share_0 : decode cX10_share 0 = .ok (.aload_n 0, 1) := by decide +kernel
theorem dX10_share_1 : decode cX10_share 1 = .ok (.getfield 19, 3) := by decide +kernel
theorem dX10_share_4 : decode cX10_share 4 = .ok (.iconst 1, 1) := by decide +kernel
theorem dX10_share_5 : decode cX10_share 5 = .ok (.iload_n 2, 1) := by decide +kernel
theorem dX10_share_6 : decode cX10_share 6 = .ok (.invokevirtual 134, 3) := by decide +kernel
theorem dX10_share_9 : decode cX10_share 9 = .ok (.ifCond .eq 30, 3) := by decide +kernel
theorem dX10_share_12 : decode cX10_share 12 = .ok (.aload_n 0, 1) := by decide +kernel
theorem dX10_share_13 : decode cX10_share 13 = .ok (.getfield 19, 3) := by decide +kernel
theorem dX10_share_16 : decode cX10_share 16 = .ok (.iconst 1, 1) := by decide +kernel
theorem dX10_share_17 : decode cX10_share 17 = .ok (.invokevirtual 124, 3) := by decide +kernel
theorem dX10_share_20 : decode cX10_share 20 = .ok (.iconst 5, 1) := by decide +kernel
theorem dX10_share_21 : decode cX10_share 21 = .ok (.if_icmp .gt 18, 3) := by decide +kernel
theorem dX10_share_24 : decode cX10_share 24 = .ok (.aload_n 0, 1) := by decide +kernel
theorem dX10_share_25 : decode cX10_share 25 = .ok (.getfield 79, 3) := by decide +kernel
theorem dX10_share_28 : decode cX10_share 28 = .ok (.aload_n 0, 1) := by decide +kernel
theorem dX10_share_29 : decode cX10_share 29 = .ok (.getfield 19, 3) := by decide +kernel
theorem dX10_share_32 : decode cX10_share 32 = .ok (.iload_n 1, 1) := by decide +kernel
theorem dX10_share_33 : decode cX10_share 33 = .ok (.invokevirtual 257, 3) := by decide +kernel
theorem dX10_share_36 : decode cX10_share 36 = .ok (.ifCond .ne 6, 3) := by decide +kernel
theorem dX10_share_39 : decode cX10_share 39 = .ok (.ldc 221, 2) := by decide +kernel
theorem dX10_share_41 : decode cX10_share 41 = .ok (.ireturn, 1) := by decide +kernel
theorem dX10_share_42 : decode cX10_share 42 = .ok (.aload_n 0, 1) := by decide +kernel
theorem dX10_share_43 : decode cX10_share 43 = .ok (.getfield 19, 3) := by decide +kernel
theorem dX10_share_46 : decode cX10_share 46 = .ok (.aload_n 0, 1) := by decide +kernel
theorem dX10_share_47 : decode cX10_share 47 = .ok (.getfield 79, 3) := by decide +kernel
theorem dX10_share_50 : decode cX10_share 50 = .ok (.getfield 260, 3) := by decide +kernel
theorem dX10_share_53 : decode cX10_share 53 = .ok (.iload_n 2, 1) := by decide +kernel
theorem dX10_share_54 : decode cX10_share 54 = .ok (.invokevirtual 264, 3) := by decide +kernel
theorem dX10_share_57 : decode cX10_share 57 = .ok (.ireturn, 1) := by decide +kernel
theorem dX10_rests_0 : decode cX10_rests 0 = .ok (.aload_n 0, 1) := by decide +kernel
theorem dX10_rests_1 : decode cX10_rests 1 = .ok (.invokevirtual 126, 3) := by decide +kernel
theorem dX10_rests_4 : decode cX10_rests 4 = .ok (.ifCond .ne 5, 3) := by decide +kernel
theorem dX10_rests_7 : decode cX10_rests 7 = .ok (.iconst (-1), 1) := by decide +kernel
theorem dX10_rests_8 : decode cX10_rests 8 = .ok (.ireturn, 1) := by decide +kernel
theorem dX10_rests_9 : decode cX10_rests 9 = .ok (.aload_n 0, 1) := by decide +kernel
theorem dX10_rests_10 : decode cX10_rests 10 = .ok (.getfield 19, 3) := by decide +kernel
theorem dX10_rests_13 : decode cX10_rests 13 = .ok (.iconst 1, 1) := by decide +kernel
theorem dX10_rests_14 : decode cX10_rests 14 = .ok (.invokevirtual 124, 3) := by decide +kernel
theorem dX10_rests_17 : decode cX10_rests 17 = .ok (.iconst 5, 1) := by decide +kernel
theorem dX10_rests_18 : decode cX10_rests 18 = .ok (.if_icmp .le 6, 3) := by decide +kernel
theorem dX10_rests_21 : decode cX10_rests 21 = .ok (.ldc 221, 2) := by decide +kernel
theorem dX10_rests_23 : decode cX10_rests 23 = .ok (.ireturn, 1) := by decide +kernel
theorem dX10_rests_24 : decode cX10_rests 24 = .ok (.aload_n 0, 1) := by decide +kernel
theorem dX10_rests_25 : decode cX10_rests 25 = .ok (.getfield 79, 3) := by decide +kernel
theorem dX10_rests_28 : decode cX10_rests 28 = .ok (.aload_n 0, 1) := by decide +kernel
theorem dX10_rests_29 : decode cX10_rests 29 = .ok (.getfield 19, 3) := by decide +kernel
theorem dX10_rests_32 : decode cX10_rests 32 = .ok (.invokevirtual 268, 3) := by decide +kernel
theorem dX10_rests_35 : decode cX10_rests 35 = .ok (.istore_n 2, 1) := by decide +kernel
theorem dX10_rests_36 : decode cX10_rests 36 = .ok (.iload_n 1, 1) := by decide +kernel
theorem dX10_rests_37 : decode cX10_rests 37 = .ok (.iconst (-1), 1) := by decide +kernel
theorem dX10_rests_38 : decode cX10_rests 38 = .ok (.if_icmp .ne 7, 3) := by decide +kernel
theorem dX10_rests_41 : decode cX10_rests 41 = .ok (.iload_n 2, 1) := by decide +kernel
theorem dX10_rests_42 : decode cX10_rests 42 = .ok (.goto 11, 3) := by decide +kernel
theorem dX10_rests_45 : decode cX10_rests 45 = .ok (.aload_n 0, 1) := by decide +kernel
theorem dX10_rests_46 : decode cX10_rests 46 = .ok (.getfield 79, 3) := by decide +kernel
theorem dX10_rests_49 : decode cX10_rests 49 = .ok (.iload_n 1, 1) := by decide +kernel
theorem dX10_rests_50 : decode cX10_rests 50 = .ok (.invokevirtual 272, 3) := by decide +kernel
theorem dX10_rests_53 : decode cX10_rests 53 = .ok (.ireturn, 1) := by decide +kernel
theorem dX10_bribes_0 : decode cX10_bribes 0 = .ok (.iload_n 1, 1) := by decide +kernel
theorem dX10_bribes_1 : decode cX10_bribes 1 = .ok (.invokestatic 275, 3) := by decide +kernel
theorem dX10_bribes_4 : decode cX10_bribes 4 = .ok (.ifCond .eq 28, 3) := by decide +kernel
theorem dX10_bribes_7 : decode cX10_bribes 7 = .ok (.iload_n 2, 1) := by decide +kernel
theorem dX10_bribes_8 : decode cX10_bribes 8 = .ok (.invokestatic 275, 3) := by decide +kernel
theorem dX10_bribes_11 : decode cX10_bribes 11 = .ok (.ifCond .eq 21, 3) := by decide +kernel
theorem dX10_bribes_14 : decode cX10_bribes 14 = .ok (.iload_n 3, 1) := by decide +kernel
theorem dX10_bribes_15 : decode cX10_bribes 15 = .ok (.invokestatic 275, 3) := by decide +kernel
theorem dX10_bribes_18 : decode cX10_bribes 18 = .ok (.ifCond .eq 14, 3) := by decide +kernel
theorem dX10_bribes_21 : decode cX10_bribes 21 = .ok (.iload 4, 2) := by decide +kernel
theorem dX10_bribes_23 : decode cX10_bribes 23 = .ok (.ifCond .lt 9, 3) := by decide +kernel
theorem dX10_bribes_26 : decode cX10_bribes 26 = .ok (.iload 4, 2) := by decide +kernel
theorem dX10_bribes_28 : decode cX10_bribes 28 = .ok (.iconst 3, 1) := by decide +kernel
theorem dX10_bribes_29 : decode cX10_bribes 29 = .ok (.if_icmp .le 5, 3) := by decide +kernel
theorem dX10_bribes_32 : decode cX10_bribes 32 = .ok (.iconst (-1), 1) := by decide +kernel
theorem dX10_bribes_33 : decode cX10_bribes 33 = .ok (.ireturn, 1) := by decide +kernel
theorem dX10_bribes_34 : decode cX10_bribes 34 = .ok (.iload_n 3, 1) := by decide +kernel
theorem dX10_bribes_35 : decode cX10_bribes 35 = .ok (.iload_n 2, 1) := by decide +kernel
theorem dX10_bribes_36 : decode cX10_bribes 36 = .ok (.if_icmp .ge 7, 3) := by decide +kernel
theorem dX10_bribes_39 : decode cX10_bribes 39 = .ok (.iconst 1, 1) := by decide +kernel
theorem dX10_bribes_40 : decode cX10_bribes 40 = .ok (.goto 4, 3) := by decide +kernel
theorem dX10_bribes_43 : decode cX10_bribes 43 = .ok (.iconst 0, 1) := by decide +kernel
theorem dX10_bribes_44 : decode cX10_bribes 44 = .ok (.istore 5, 2) := by decide +kernel
theorem dX10_bribes_46 : decode cX10_bribes 46 = .ok (.iload 4, 2) := by decide +kernel
theorem dX10_bribes_48 : decode cX10_bribes 48 = .ok (.iconst 2, 1) := by decide +kernel
theorem dX10_bribes_49 : decode cX10_bribes 49 = .ok (.if_icmp .ge 16, 3) := by decide +kernel
theorem dX10_bribes_52 : decode cX10_bribes 52 = .ok (.iload 5, 2) := by decide +kernel
theorem dX10_bribes_54 : decode cX10_bribes 54 = .ok (.ifCond .eq 7, 3) := by decide +kernel
theorem dX10_bribes_57 : decode cX10_bribes 57 = .ok (.iload_n 3, 1) := by decide +kernel
theorem dX10_bribes_58 : decode cX10_bribes 58 = .ok (.goto 17, 3) := by decide +kernel
theorem dX10_bribes_61 : decode cX10_bribes 61 = .ok (.iconst 1, 1) := by decide +kernel
theorem dX10_bribes_62 : decode cX10_bribes 62 = .ok (.goto 13, 3) := by decide +kernel
theorem dX10_bribes_65 : decode cX10_bribes 65 = .ok (.iload 5, 2) := by decide +kernel
theorem dX10_bribes_67 : decode cX10_bribes 67 = .ok (.ifCond .eq 7, 3) := by decide +kernel
theorem dX10_bribes_70 : decode cX10_bribes 70 = .ok (.iload_n 1, 1) := by decide +kernel
theorem dX10_bribes_71 : decode cX10_bribes 71 = .ok (.goto 4, 3) := by decide +kernel
theorem dX10_bribes_74 : decode cX10_bribes 74 = .ok (.iconst 0, 1) := by decide +kernel
theorem dX10_bribes_75 : decode cX10_bribes 75 = .ok (.istore 6, 2) := by decide +kernel
theorem dX10_bribes_77 : decode cX10_bribes 77 = .ok (.iload 4, 2) := by decide +kernel
theorem dX10_bribes_79 : decode cX10_bribes 79 = .ok (.iconst 2, 1) := by decide +kernel
theorem dX10_bribes_80 : decode cX10_bribes 80 = .ok (.if_icmp .ge 16, 3) := by decide +kernel
theorem dX10_bribes_83 : decode cX10_bribes 83 = .ok (.iload 5, 2) := by decide +kernel
theorem dX10_bribes_85 : decode cX10_bribes 85 = .ok (.ifCond .eq 7, 3) := by decide +kernel
theorem dX10_bribes_88 : decode cX10_bribes 88 = .ok (.iload_n 2, 1) := by decide +kernel
theorem dX10_bribes_89 : decode cX10_bribes 89 = .ok (.goto 19, 3) := by decide +kernel
theorem dX10_bribes_92 : decode cX10_bribes 92 = .ok (.iconst 1, 1) := by decide +kernel
theorem dX10_bribes_93 : decode cX10_bribes 93 = .ok (.goto 15, 3) := by decide +kernel
theorem dX10_bribes_96 : decode cX10_bribes 96 = .ok (.iload 5, 2) := by decide +kernel
theorem dX10_bribes_98 : decode cX10_bribes 98 = .ok (.ifCond .eq 9, 3) := by decide +kernel
theorem dX10_bribes_101 : decode cX10_bribes 101 = .ok (.iload_n 1, 1) := by decide +kernel
theorem dX10_bribes_102 : decode cX10_bribes 102 = .ok (.iload_n 2, 1) := by decide +kernel
theorem dX10_bribes_103 : decode cX10_bribes 103 = .ok (.iadd, 1) := by decide +kernel
theorem dX10_bribes_104 : decode cX10_bribes 104 = .ok (.goto 4, 3) := by decide +kernel
theorem dX10_bribes_107 : decode cX10_bribes 107 = .ok (.iconst 1, 1) := by decide +kernel
theorem dX10_bribes_108 : decode cX10_bribes 108 = .ok (.istore 7, 2) := by decide +kernel
theorem dX10_bribes_110 : decode cX10_bribes 110 = .ok (.iload 6, 2) := by decide +kernel
theorem dX10_bribes_112 : decode cX10_bribes 112 = .ok (.iload 7, 2) := by decide +kernel
theorem dX10_bribes_114 : decode cX10_bribes 114 = .ok (.invokestatic 278, 3) := by decide +kernel
theorem dX10_bribes_117 : decode cX10_bribes 117 = .ok (.istore 8, 2) := by decide +kernel
theorem dX10_bribes_119 : decode cX10_bribes 119 = .ok (.iload 8, 2) := by decide +kernel
theorem dX10_bribes_121 : decode cX10_bribes 121 = .ok (.iconst 1, 1) := by decide +kernel
theorem dX10_bribes_122 : decode cX10_bribes 122 = .ok (.if_icmp .ge 7, 3) := by decide +kernel
theorem dX10_bribes_125 : decode cX10_bribes 125 = .ok (.iconst (-1), 1) := by decide +kernel
theorem dX10_bribes_126 : decode cX10_bribes 126 = .ok (.goto 24, 3) := by decide +kernel
theorem dX10_bribes_129 : decode cX10_bribes 129 = .ok (.iload 4, 2) := by decide +kernel
theorem dX10_bribes_131 : decode cX10_bribes 131 = .ok (.ifCond .eq 9, 3) := by decide +kernel
theorem dX10_bribes_134 : decode cX10_bribes 134 = .ok (.iload 4, 2) := by decide +kernel
theorem dX10_bribes_136 : decode cX10_bribes 136 = .ok (.iconst 2, 1) := by decide +kernel
theorem dX10_bribes_137 : decode cX10_bribes 137 = .ok (.if_icmp .ne 8, 3) := by decide +kernel
theorem dX10_bribes_140 : decode cX10_bribes 140 = .ok (.iload 6, 2) := by decide +kernel
theorem dX10_bribes_142 : decode cX10_bribes 142 = .ok (.goto 5, 3) := by decide +kernel
theorem dX10_bribes_145 : decode cX10_bribes 145 = .ok (.iload 7, 2) := by decide +kernel
theorem dX10_bribes_147 : decode cX10_bribes 147 = .ok (.iload 8, 2) := by decide +kernel
theorem dX10_bribes_149 : decode cX10_bribes 149 = .ok (.idiv, 1) := by decide +kernel
theorem dX10_bribes_150 : decode cX10_bribes 150 = .ok (.ireturn, 1) := by decide +kernel
theorem dX10_see_0 : decode cX10_see 0 = .ok (.aload_n 0, 1) := by decide +kernel
theorem dX10_see_1 : decode cX10_see 1 = .ok (.getfield 19, 3) := by decide +kernel
theorem dX10_see_4 : decode cX10_see 4 = .ok (.iconst 1, 1) := by decide +kernel
theorem dX10_see_5 : decode cX10_see 5 = .ok (.iload_n 1, 1) := by decide +kernel
theorem dX10_see_6 : decode cX10_see 6 = .ok (.invokevirtual 134, 3) := by decide +kernel
theorem dX10_see_9 : decode cX10_see 9 = .ok (.ifCond .eq 13, 3) := by decide +kernel
theorem dX10_see_12 : decode cX10_see 12 = .ok (.iload_n 2, 1) := by decide +kernel
theorem dX10_see_13 : decode cX10_see 13 = .ok (.ifCond .lt 9, 3) := by decide +kernel
theorem dX10_see_16 : decode cX10_see 16 = .ok (.iload_n 2, 1) := by decide +kernel
theorem dX10_see_17 : decode cX10_see 17 = .ok (.bipush 24, 2) := by decide +kernel
theorem dX10_see_19 : decode cX10_see 19 = .ok (.if_icmp .le 5, 3) := by decide +kernel
theorem dX10_see_22 : decode cX10_see 22 = .ok (.iconst (-1), 1) := by decide +kernel
theorem dX10_see_23 : decode cX10_see 23 = .ok (.ireturn, 1) := by decide +kernel
theorem dX10_see_24 : decode cX10_see 24 = .ok (.aload_n 0, 1) := by decide +kernel
theorem dX10_see_25 : decode cX10_see 25 = .ok (.getfield 86, 3) := by decide +kernel
theorem dX10_see_28 : decode cX10_see 28 = .ok (.iload_n 1, 1) := by decide +kernel
theorem dX10_see_29 : decode cX10_see 29 = .ok (.iload_n 2, 1) := by decide +kernel
theorem dX10_see_30 : decode cX10_see 30 = .ok (.invokevirtual 281, 3) := by decide +kernel
theorem dX10_see_33 : decode cX10_see 33 = .ok (.ireturn, 1) := by decide +kernel
theorem dX10_could_0 : decode cX10_could 0 = .ok (.aload_n 0, 1) := by decide +kernel
theorem dX10_could_1 : decode cX10_could 1 = .ok (.invokevirtual 126, 3) := by decide +kernel
theorem dX10_could_4 : decode cX10_could 4 = .ok (.ifCond .eq 8, 3) := by decide +kernel
theorem dX10_could_7 : decode cX10_could 7 = .ok (.iload_n 1, 1) := by decide +kernel
theorem dX10_could_8 : decode cX10_could 8 = .ok (.iconst (-1), 1) := by decide +kernel
theorem dX10_could_9 : decode cX10_could 9 = .ok (.if_icmp .ge 5, 3) := by decide +kernel
theorem dX10_could_12 : decode cX10_could 12 = .ok (.iconst (-1), 1) := by decide +kernel
theorem dX10_could_13 : decode cX10_could 13 = .ok (.ireturn, 1) := by decide +kernel
theorem dX10_could_14 : decode cX10_could 14 = .ok (.iconst 0, 1) := by decide +kernel
theorem dX10_could_15 : decode cX10_could 15 = .ok (.istore_n 2, 1) := by decide +kernel
theorem dX10_could_16 : decode cX10_could 16 = .ok (.iconst 0, 1) := by decide +kernel
theorem dX10_could_17 : decode cX10_could 17 = .ok (.istore_n 3, 1) := by decide +kernel
theorem dX10_could_18 : decode cX10_could 18 = .ok (.iload_n 3, 1) := by decide +kernel
theorem dX10_could_19 : decode cX10_could 19 = .ok (.iconst 1, 1) := by decide +kernel
theorem dX10_could_20 : decode cX10_could 20 = .ok (.aload_n 0, 1) := by decide +kernel
theorem dX10_could_21 : decode cX10_could 21 = .ok (.getfield 19, 3) := by decide +kernel
theorem dX10_could_24 : decode cX10_could 24 = .ok (.iconst 1, 1) := by decide +kernel
theorem dX10_could_25 : decode cX10_could 25 = .ok (.invokevirtual 124, 3) := by decide +kernel
theorem dX10_could_28 : decode cX10_could 28 = .ok (.ishl, 1) := by decide +kernel
theorem dX10_could_29 : decode cX10_could 29 = .ok (.if_icmp .ge 34, 3) := by decide +kernel
theorem dX10_could_32 : decode cX10_could 32 = .ok (.aload_n 0, 1) := by decide +kernel
theorem dX10_could_33 : decode cX10_could 33 = .ok (.getfield 86, 3) := by decide +kernel
theorem dX10_could_36 : decode cX10_could 36 = .ok (.aload_n 0, 1) := by decide +kernel
theorem dX10_could_37 : decode cX10_could 37 = .ok (.getfield 19, 3) := by decide +kernel
theorem dX10_could_40 : decode cX10_could 40 = .ok (.iload_n 3, 1) := by decide +kernel
theorem dX10_could_41 : decode cX10_could 41 = .ok (.invokevirtual 283, 3) := by decide +kernel
theorem dX10_could_44 : decode cX10_could 44 = .ok (.ifCond .ne 13, 3) := by decide +kernel
theorem dX10_could_47 : decode cX10_could 47 = .ok (.iload_n 2, 1) := by decide +kernel
theorem dX10_could_48 : decode cX10_could 48 = .ok (.iload_n 1, 1) := by decide +kernel
theorem dX10_could_49 : decode cX10_could 49 = .ok (.if_icmp .ne 5, 3) := by decide +kernel
theorem dX10_could_52 : decode cX10_could 52 = .ok (.iload_n 3, 1) := by decide +kernel
theorem dX10_could_53 : decode cX10_could 53 = .ok (.ireturn, 1) := by decide +kernel
theorem dX10_could_54 : decode cX10_could 54 = .ok (.iinc 2 1, 3) := by decide +kernel
theorem dX10_could_57 : decode cX10_could 57 = .ok (.iinc 3 1, 3) := by decide +kernel
theorem dX10_could_60 : decode cX10_could 60 = .ok (.goto (-42), 3) := by decide +kernel
theorem dX10_could_63 : decode cX10_could 63 = .ok (.iload_n 1, 1) := by decide +kernel
theorem dX10_could_64 : decode cX10_could 64 = .ok (.iconst (-1), 1) := by decide +kernel
theorem dX10_could_65 : decode cX10_could 65 = .ok (.if_icmp .ne 7, 3) := by decide +kernel
theorem dX10_could_68 : decode cX10_could 68 = .ok (.iload_n 2, 1) := by decide +kernel
theorem dX10_could_69 : decode cX10_could 69 = .ok (.goto 4, 3) := by decide +kernel
theorem dX10_could_72 : decode cX10_could 72 = .ok (.iconst (-1), 1) := by decide +kernel
theorem dX10_could_73 : decode cX10_could 73 = .ok (.ireturn, 1) := by decide +kernel
theorem dX10_sure_0 : decode cX10_sure 0 = .ok (.aload_n 0, 1) := by decide +kernel
theorem dX10_sure_1 : decode cX10_sure 1 = .ok (.invokevirtual 126, 3) := by decide +kernel
theorem dX10_sure_4 : decode cX10_sure 4 = .ok (.ifCond .ne 5, 3) := by decide +kernel
theorem dX10_sure_7 : decode cX10_sure 7 = .ok (.iconst (-1), 1) := by decide +kernel
theorem dX10_sure_8 : decode cX10_sure 8 = .ok (.ireturn, 1) := by decide +kernel
theorem dX10_sure_9 : decode cX10_sure 9 = .ok (.iconst (-1), 1) := by decide +kernel
theorem dX10_sure_10 : decode cX10_sure 10 = .ok (.istore_n 1, 1) := by decide +kernel
theorem dX10_sure_11 : decode cX10_sure 11 = .ok (.iconst 0, 1) := by decide +kernel
theorem dX10_sure_12 : decode cX10_sure 12 = .ok (.istore_n 2, 1) := by decide +kernel
theorem dX10_sure_13 : decode cX10_sure 13 = .ok (.iload_n 2, 1) := by decide +kernel
theorem dX10_sure_14 : decode cX10_sure 14 = .ok (.iconst 1, 1) := by decide +kernel
theorem dX10_sure_15 : decode cX10_sure 15 = .ok (.aload_n 0, 1) := by decide +kernel
theorem dX10_sure_16 : decode cX10_sure 16 = .ok (.getfield 19, 3) := by decide +kernel
theorem dX10_sure_19 : decode cX10_sure 19 = .ok (.iconst 1, 1) := by decide +kernel
theorem dX10_sure_20 : decode cX10_sure 20 = .ok (.invokevirtual 124, 3) := by decide +kernel
theorem dX10_sure_23 : decode cX10_sure 23 = .ok (.ishl, 1) := by decide +kernel
theorem dX10_sure_24 : decode cX10_sure 24 = .ok (.if_icmp .ge 28, 3) := by decide +kernel
theorem dX10_sure_27 : decode cX10_sure 27 = .ok (.aload_n 0, 1) := by decide +kernel
theorem dX10_sure_28 : decode cX10_sure 28 = .ok (.getfield 86, 3) := by decide +kernel
theorem dX10_sure_31 : decode cX10_sure 31 = .ok (.aload_n 0, 1) := by decide +kernel
theorem dX10_sure_32 : decode cX10_sure 32 = .ok (.getfield 19, 3) := by decide +kernel
theorem dX10_sure_35 : decode cX10_sure 35 = .ok (.iload_n 2, 1) := by decide +kernel
theorem dX10_sure_36 : decode cX10_sure 36 = .ok (.invokevirtual 283, 3) := by decide +kernel
theorem dX10_sure_39 : decode cX10_sure 39 = .ok (.ifCond .ne 7, 3) := by decide +kernel
theorem dX10_sure_42 : decode cX10_sure 42 = .ok (.iload_n 1, 1) := by decide +kernel
theorem dX10_sure_43 : decode cX10_sure 43 = .ok (.iload_n 2, 1) := by decide +kernel
theorem dX10_sure_44 : decode cX10_sure 44 = .ok (.iand, 1) := by decide +kernel
theorem dX10_sure_45 : decode cX10_sure 45 = .ok (.istore_n 1, 1) := by decide +kernel
theorem dX10_sure_46 : decode cX10_sure 46 = .ok (.iinc 2 1, 3) := by decide +kernel
theorem dX10_sure_49 : decode cX10_sure 49 = .ok (.goto (-36), 3) := by decide +kernel
theorem dX10_sure_52 : decode cX10_sure 52 = .ok (.iload_n 1, 1) := by decide +kernel
theorem dX10_sure_53 : decode cX10_sure 53 = .ok (.ireturn, 1) := by decide +kernel
theorem dX10_wrong_0 : decode cX10_wrong 0 = .ok (.aload_n 0, 1) := by decide +kernel
theorem dX10_wrong_1 : decode cX10_wrong 1 = .ok (.invokevirtual 126, 3) := by decide +kernel
theorem dX10_wrong_4 : decode cX10_wrong 4 = .ok (.ifCond .ne 5, 3) := by decide +kernel
theorem dX10_wrong_7 : decode cX10_wrong 7 = .ok (.iconst (-1), 1) := by decide +kernel
theorem dX10_wrong_8 : decode cX10_wrong 8 = .ok (.ireturn, 1) := by decide +kernel
theorem dX10_wrong_9 : decode cX10_wrong 9 = .ok (.bipush 12, 2) := by decide +kernel
theorem dX10_wrong_11 : decode cX10_wrong 11 = .ok (.istore_n 1, 1) := by decide +kernel
theorem dX10_wrong_12 : decode cX10_wrong 12 = .ok (.iconst 0, 1) := by decide +kernel
theorem dX10_wrong_13 : decode cX10_wrong 13 = .ok (.istore_n 2, 1) := by decide +kernel
theorem dX10_wrong_14 : decode cX10_wrong 14 = .ok (.iload_n 2, 1) := by decide +kernel
theorem dX10_wrong_15 : decode cX10_wrong 15 = .ok (.iconst 1, 1) := by decide +kernel
theorem dX10_wrong_16 : decode cX10_wrong 16 = .ok (.aload_n 0, 1) := by decide +kernel
theorem dX10_wrong_17 : decode cX10_wrong 17 = .ok (.getfield 19, 3) := by decide +kernel
theorem dX10_wrong_20 : decode cX10_wrong 20 = .ok (.iconst 1, 1) := by decide +kernel
theorem dX10_wrong_21 : decode cX10_wrong 21 = .ok (.invokevirtual 124, 3) := by decide +kernel
theorem dX10_wrong_24 : decode cX10_wrong 24 = .ok (.ishl, 1) := by decide +kernel
theorem dX10_wrong_25 : decode cX10_wrong 25 = .ok (.if_icmp .ge 26, 3) := by decide +kernel
theorem dX10_wrong_28 : decode cX10_wrong 28 = .ok (.iload_n 1, 1) := by decide +kernel
theorem dX10_wrong_29 : decode cX10_wrong 29 = .ok (.aload_n 0, 1) := by decide +kernel
theorem dX10_wrong_30 : decode cX10_wrong 30 = .ok (.getfield 86, 3) := by decide +kernel
theorem dX10_wrong_33 : decode cX10_wrong 33 = .ok (.aload_n 0, 1) := by decide +kernel
theorem dX10_wrong_34 : decode cX10_wrong 34 = .ok (.getfield 19, 3) := by decide +kernel
theorem dX10_wrong_37 : decode cX10_wrong 37 = .ok (.iload_n 2, 1) := by decide +kernel
theorem dX10_wrong_38 : decode cX10_wrong 38 = .ok (.invokevirtual 283, 3) := by decide +kernel
theorem dX10_wrong_41 : decode cX10_wrong 41 = .ok (.invokestatic 287, 3) := by decide +kernel
theorem dX10_wrong_44 : decode cX10_wrong 44 = .ok (.istore_n 1, 1) := by decide +kernel
theorem dX10_wrong_45 : decode cX10_wrong 45 = .ok (.iinc 2 1, 3) := by decide +kernel
theorem dX10_wrong_48 : decode cX10_wrong 48 = .ok (.goto (-34), 3) := by decide +kernel
theorem dX10_wrong_51 : decode cX10_wrong 51 = .ok (.iload_n 1, 1) := by decide +kernel
theorem dX10_wrong_52 : decode cX10_wrong 52 = .ok (.ireturn, 1) := by decide +kernel
theorem dX10_works_0 : decode cX10_works 0 = .ok (.aload_n 0, 1) := by decide +kernel
theorem dX10_works_1 : decode cX10_works 1 = .ok (.invokevirtual 126, 3) := by decide +kernel
theorem dX10_works_4 : decode cX10_works 4 = .ok (.ifCond .eq 23, 3) := by decide +kernel
theorem dX10_works_7 : decode cX10_works 7 = .ok (.iload_n 1, 1) := by decide +kernel
theorem dX10_works_8 : decode cX10_works 8 = .ok (.iconst 1, 1) := by decide +kernel
theorem dX10_works_9 : decode cX10_works 9 = .ok (.if_icmp .lt 18, 3) := by decide +kernel
theorem dX10_works_12 : decode cX10_works 12 = .ok (.iload_n 1, 1) := by decide +kernel
theorem dX10_works_13 : decode cX10_works 13 = .ok (.bipush 9, 2) := by decide +kernel
theorem dX10_works_15 : decode cX10_works 15 = .ok (.if_icmp .gt 12, 3) := by decide +kernel
theorem dX10_works_18 : decode cX10_works 18 = .ok (.iload_n 2, 1) := by decide +kernel
theorem dX10_works_19 : decode cX10_works 19 = .ok (.ifCond .lt 8, 3) := by decide +kernel
theorem dX10_works_22 : decode cX10_works 22 = .ok (.iload_n 2, 1) := by decide +kernel
theorem dX10_works_23 : decode cX10_works 23 = .ok (.iconst 1, 1) := by decide +kernel
theorem dX10_works_24 : decode cX10_works 24 = .ok (.if_icmp .le 5, 3) := by decide +kernel
theorem dX10_works_27 : decode cX10_works 27 = .ok (.iconst (-1), 1) := by decide +kernel
theorem dX10_works_28 : decode cX10_works 28 = .ok (.ireturn, 1) := by decide +kernel
theorem dX10_works_29 : decode cX10_works 29 = .ok (.iconst (-1), 1) := by decide +kernel
theorem dX10_works_30 : decode cX10_works 30 = .ok (.istore_n 3, 1) := by decide +kernel
theorem dX10_works_31 : decode cX10_works 31 = .ok (.iconst (-1), 1) := by decide +kernel
theorem dX10_works_32 : decode cX10_works 32 = .ok (.istore 4, 2) := by decide +kernel
theorem dX10_works_34 : decode cX10_works 34 = .ok (.iconst 0, 1) := by decide +kernel
theorem dX10_works_35 : decode cX10_works 35 = .ok (.istore 5, 2) := by decide +kernel
theorem dX10_works_37 : decode cX10_works 37 = .ok (.iload 5, 2) := by decide +kernel
theorem dX10_works_39 : decode cX10_works 39 = .ok (.iload_n 1, 1) := by decide +kernel
theorem dX10_works_40 : decode cX10_works 40 = .ok (.iadd, 1) := by decide +kernel
theorem dX10_works_41 : decode cX10_works 41 = .ok (.aload_n 0, 1) := by decide +kernel
theorem dX10_works_42 : decode cX10_works 42 = .ok (.getfield 52, 3) := by decide +kernel
theorem dX10_works_45 : decode cX10_works 45 = .ok (.invokevirtual 206, 3) := by decide +kernel
theorem dX10_works_48 : decode cX10_works 48 = .ok (.if_icmp .gt 59, 3) := by decide +kernel
theorem dX10_works_51 : decode cX10_works 51 = .ok (.iconst 0, 1) := by decide +kernel
theorem dX10_works_52 : decode cX10_works 52 = .ok (.istore 6, 2) := by decide +kernel
theorem dX10_works_54 : decode cX10_works 54 = .ok (.iload 5, 2) := by decide +kernel
theorem dX10_works_56 : decode cX10_works 56 = .ok (.istore 7, 2) := by decide +kernel
theorem dX10_works_58 : decode cX10_works 58 = .ok (.iload 7, 2) := by decide +kernel
theorem dX10_works_60 : decode cX10_works 60 = .ok (.iload 5, 2) := by decide +kernel
theorem dX10_works_62 : decode cX10_works 62 = .ok (.iload_n 1, 1) := by decide +kernel
theorem dX10_works_63 : decode cX10_works 63 = .ok (.iadd, 1) := by decide +kernel
theorem dX10_works_64 : decode cX10_works 64 = .ok (.if_icmp .ge 23, 3) := by decide +kernel
theorem dX10_works_67 : decode cX10_works 67 = .ok (.iload 6, 2) := by decide +kernel
theorem dX10_works_69 : decode cX10_works 69 = .ok (.aload_n 0, 1) := by decide +kernel
theorem dX10_works_70 : decode cX10_works 70 = .ok (.getfield 52, 3) := by decide +kernel
theorem dX10_works_73 : decode cX10_works 73 = .ok (.iload 7, 2) := by decide +kernel
theorem dX10_works_75 : decode cX10_works 75 = .ok (.invokevirtual 212, 3) := by decide +kernel
theorem dX10_works_78 : decode cX10_works 78 = .ok (.iadd, 1) := by decide +kernel
theorem dX10_works_79 : decode cX10_works 79 = .ok (.istore 6, 2) := by decide +kernel
theorem dX10_works_81 : decode cX10_works 81 = .ok (.iinc 7 1, 3) := by decide +kernel
theorem dX10_works_84 : decode cX10_works 84 = .ok (.goto (-26), 3) := by decide +kernel
theorem dX10_works_87 : decode cX10_works 87 = .ok (.iload 6, 2) := by decide +kernel
theorem dX10_works_89 : decode cX10_works 89 = .ok (.iload 4, 2) := by decide +kernel
theorem dX10_works_91 : decode cX10_works 91 = .ok (.if_icmp .le 10, 3) := by decide +kernel
theorem dX10_works_94 : decode cX10_works 94 = .ok (.iload 5, 2) := by decide +kernel
theorem dX10_works_96 : decode cX10_works 96 = .ok (.istore_n 3, 1) := by decide +kernel
theorem dX10_works_97 : decode cX10_works 97 = .ok (.iload 6, 2) := by decide +kernel
theorem dX10_works_99 : decode cX10_works 99 = .ok (.istore 4, 2) := by decide +kernel
theorem dX10_works_101 : decode cX10_works 101 = .ok (.iinc 5 1, 3) := by decide +kernel
theorem dX10_works_104 : decode cX10_works 104 = .ok (.goto (-67), 3) := by decide +kernel
theorem dX10_works_107 : decode cX10_works 107 = .ok (.iload_n 2, 1) := by decide +kernel
theorem dX10_works_108 : decode cX10_works 108 = .ok (.ifCond .ne 7, 3) := by decide +kernel
theorem dX10_works_111 : decode cX10_works 111 = .ok (.iload_n 3, 1) := by decide +kernel
theorem dX10_works_112 : decode cX10_works 112 = .ok (.goto 5, 3) := by decide +kernel
theorem dX10_works_115 : decode cX10_works 115 = .ok (.iload 4, 2) := by decide +kernel
theorem dX10_works_117 : decode cX10_works 117 = .ok (.ireturn, 1) := by decide +kernel
theorem dX10_image_0 : decode cX10_image 0 = .ok (.aload_n 0, 1) := by decide +kernel
theorem dX10_image_1 : decode cX10_image 1 = .ok (.invokevirtual 126, 3) := by decide +kernel
theorem dX10_image_4 : decode cX10_image 4 = .ok (.ifCond .ne 5, 3) := by decide +kernel
theorem dX10_image_7 : decode cX10_image 7 = .ok (.iconst (-1), 1) := by decide +kernel
theorem dX10_image_8 : decode cX10_image 8 = .ok (.ireturn, 1) := by decide +kernel
theorem dX10_image_9 : decode cX10_image 9 = .ok (.aload_n 0, 1) := by decide +kernel
theorem dX10_image_10 : decode cX10_image 10 = .ok (.getfield 59, 3) := by decide +kernel
theorem dX10_image_13 : decode cX10_image 13 = .ok (.aload_n 0, 1) := by decide +kernel
theorem dX10_image_14 : decode cX10_image 14 = .ok (.getfield 52, 3) := by decide +kernel
theorem dX10_image_17 : decode cX10_image 17 = .ok (.invokevirtual 222, 3) := by decide +kernel
theorem dX10_image_20 : decode cX10_image 20 = .ok (.aload_n 0, 1) := by decide +kernel
theorem dX10_image_21 : decode cX10_image 21 = .ok (.iconst 1, 1) := by decide +kernel
theorem dX10_image_22 : decode cX10_image 22 = .ok (.putfield 292, 3) := by decide +kernel
theorem dX10_image_25 : decode cX10_image 25 = .ok (.aload_n 0, 1) := by decide +kernel
theorem dX10_image_26 : decode cX10_image 26 = .ok (.getfield 52, 3) := by decide +kernel
theorem dX10_image_29 : decode cX10_image 29 = .ok (.invokevirtual 185, 3) := by decide +kernel
theorem dX10_image_32 : decode cX10_image 32 = .ok (.ireturn, 1) := by decide +kernel
theorem dX10_back_0 : decode cX10_back 0 = .ok (.aload_n 0, 1) := by decide +kernel
theorem dX10_back_1 : decode cX10_back 1 = .ok (.getfield 292, 3) := by decide +kernel
theorem dX10_back_4 : decode cX10_back 4 = .ok (.ifCond .ne 5, 3) := by decide +kernel
theorem dX10_back_7 : decode cX10_back 7 = .ok (.iconst (-1), 1) := by decide +kernel
theorem dX10_back_8 : decode cX10_back 8 = .ok (.ireturn, 1) := by decide +kernel
theorem dX10_back_9 : decode cX10_back 9 = .ok (.aload_n 0, 1) := by decide +kernel
theorem dX10_back_10 : decode cX10_back 10 = .ok (.getfield 52, 3) := by decide +kernel
theorem dX10_back_13 : decode cX10_back 13 = .ok (.aload_n 0, 1) := by decide +kernel
theorem dX10_back_14 : decode cX10_back 14 = .ok (.getfield 59, 3) := by decide +kernel
theorem dX10_back_17 : decode cX10_back 17 = .ok (.invokevirtual 222, 3) := by decide +kernel
theorem dX10_back_20 : decode cX10_back 20 = .ok (.aload_n 0, 1) := by decide +kernel
theorem dX10_back_21 : decode cX10_back 21 = .ok (.getfield 65, 3) := by decide +kernel
theorem dX10_back_24 : decode cX10_back 24 = .ok (.invokevirtual 296, 3) := by decide +kernel
theorem dX10_back_27 : decode cX10_back 27 = .ok (.aload_n 0, 1) := by decide +kernel
theorem dX10_back_28 : decode cX10_back 28 = .ok (.getfield 52, 3) := by decide +kernel
theorem dX10_back_31 : decode cX10_back 31 = .ok (.invokevirtual 185, 3) := by decide +kernel
theorem dX10_back_34 : decode cX10_back 34 = .ok (.ireturn, 1) := by decide +kernel
theorem dX10_count_0 : decode cX10_count 0 = .ok (.iload_n 1, 1) := by decide +kernel
theorem dX10_count_1 : decode cX10_count 1 = .ok (.tableswitch 159 0 11 #[63, 72, 81, 90, 98, 106, 114, 122, 130, 135, 143, 151], 63) := by decide +kernel
theorem dX10_count_64 : decode cX10_count 64 = .ok (.aload_n 0, 1) := by decide +kernel
theorem dX10_count_65 : decode cX10_count 65 = .ok (.getfield 19, 3) := by decide +kernel
theorem dX10_count_68 : decode cX10_count 68 = .ok (.iconst 1, 1) := by decide +kernel
theorem dX10_count_69 : decode cX10_count 69 = .ok (.invokevirtual 124, 3) := by decide +kernel
theorem dX10_count_72 : decode cX10_count 72 = .ok (.ireturn, 1) := by decide +kernel
theorem dX10_count_73 : decode cX10_count 73 = .ok (.aload_n 0, 1) := by decide +kernel
theorem dX10_count_74 : decode cX10_count 74 = .ok (.getfield 19, 3) := by decide +kernel
theorem dX10_count_77 : decode cX10_count 77 = .ok (.iconst 2, 1) := by decide +kernel
theorem dX10_count_78 : decode cX10_count 78 = .ok (.invokevirtual 124, 3) := by decide +kernel
theorem dX10_count_81 : decode cX10_count 81 = .ok (.ireturn, 1) := by decide +kernel
theorem dX10_count_82 : decode cX10_count 82 = .ok (.aload_n 0, 1) := by decide +kernel
theorem dX10_count_83 : decode cX10_count 83 = .ok (.getfield 19, 3) := by decide +kernel
theorem dX10_count_86 : decode cX10_count 86 = .ok (.iconst 3, 1) := by decide +kernel
theorem dX10_count_87 : decode cX10_count 87 = .ok (.invokevirtual 124, 3) := by decide +kernel
theorem dX10_count_90 : decode cX10_count 90 = .ok (.ireturn, 1) := by decide +kernel
theorem dX10_count_91 : decode cX10_count 91 = .ok (.aload_n 0, 1) := by decide +kernel
theorem dX10_count_92 : decode cX10_count 92 = .ok (.getfield 36, 3) := by decide +kernel
theorem dX10_count_95 : decode cX10_count 95 = .ok (.getfield 107, 3) := by decide +kernel
theorem dX10_count_98 : decode cX10_count 98 = .ok (.ireturn, 1) := by decide +kernel
theorem dX10_count_99 : decode cX10_count 99 = .ok (.aload_n 0, 1) := by decide +kernel
theorem dX10_count_100 : decode cX10_count 100 = .ok (.getfield 43, 3) := by decide +kernel
theorem dX10_count_103 : decode cX10_count 103 = .ok (.getfield 110, 3) := by decide +kernel
theorem dX10_count_106 : decode cX10_count 106 = .ok (.ireturn, 1) := by decide +kernel
theorem dX10_count_107 : decode cX10_count 107 = .ok (.aload_n 0, 1) := by decide +kernel
theorem dX10_count_108 : decode cX10_count 108 = .ok (.getfield 10, 3) := by decide +kernel
theorem dX10_count_111 : decode cX10_count 111 = .ok (.getfield 94, 3) := by decide +kernel
theorem dX10_count_114 : decode cX10_count 114 = .ok (.ireturn, 1) := by decide +kernel
theorem dX10_count_115 : decode cX10_count 115 = .ok (.aload_n 0, 1) := by decide +kernel
theorem dX10_count_116 : decode cX10_count 116 = .ok (.getfield 36, 3) := by decide +kernel
theorem dX10_count_119 : decode cX10_count 119 = .ok (.getfield 157, 3) := by decide +kernel
theorem dX10_count_122 : decode cX10_count 122 = .ok (.ireturn, 1) := by decide +kernel
theorem dX10_count_123 : decode cX10_count 123 = .ok (.aload_n 0, 1) := by decide +kernel
theorem dX10_count_124 : decode cX10_count 124 = .ok (.getfield 52, 3) := by decide +kernel
theorem dX10_count_127 : decode cX10_count 127 = .ok (.invokevirtual 185, 3) := by decide +kernel
theorem dX10_count_130 : decode cX10_count 130 = .ok (.ireturn, 1) := by decide +kernel
theorem dX10_count_131 : decode cX10_count 131 = .ok (.aload_n 0, 1) := by decide +kernel
theorem dX10_count_132 : decode cX10_count 132 = .ok (.getfield 160, 3) := by decide +kernel
theorem dX10_count_135 : decode cX10_count 135 = .ok (.ireturn, 1) := by decide +kernel
theorem dX10_count_136 : decode cX10_count 136 = .ok (.aload_n 0, 1) := by decide +kernel
theorem dX10_count_137 : decode cX10_count 137 = .ok (.getfield 86, 3) := by decide +kernel
theorem dX10_count_140 : decode cX10_count 140 = .ok (.getfield 299, 3) := by decide +kernel
theorem dX10_count_143 : decode cX10_count 143 = .ok (.ireturn, 1) := by decide +kernel
theorem dX10_count_144 : decode cX10_count 144 = .ok (.aload_n 0, 1) := by decide +kernel
theorem dX10_count_145 : decode cX10_count 145 = .ok (.getfield 52, 3) := by decide +kernel
theorem dX10_count_148 : decode cX10_count 148 = .ok (.invokevirtual 206, 3) := by decide +kernel
theorem dX10_count_151 : decode cX10_count 151 = .ok (.ireturn, 1) := by decide +kernel
theorem dX10_count_152 : decode cX10_count 152 = .ok (.aload_n 0, 1) := by decide +kernel
theorem dX10_count_153 : decode cX10_count 153 = .ok (.getfield 65, 3) := by decide +kernel
theorem dX10_count_156 : decode cX10_count 156 = .ok (.getfield 300, 3) := by decide +kernel
theorem dX10_count_159 : decode cX10_count 159 = .ok (.ireturn, 1) := by decide +kernel
theorem dX10_count_160 : decode cX10_count 160 = .ok (.ldc 221, 2) := by decide +kernel
theorem dX10_count_162 : decode cX10_count 162 = .ok (.ireturn, 1) := by decide +kernel
theorem dX10_hasHill_0 : decode cX10_hasHill 0 = .ok (.aload_n 0, 1) := by decide +kernel
theorem dX10_hasHill_1 : decode cX10_hasHill 1 = .ok (.getfield 19, 3) := by decide +kernel
theorem dX10_hasHill_4 : decode cX10_hasHill 4 = .ok (.iconst 1, 1) := by decide +kernel
theorem dX10_hasHill_5 : decode cX10_hasHill 5 = .ok (.invokevirtual 124, 3) := by decide +kernel
theorem dX10_hasHill_8 : decode cX10_hasHill 8 = .ok (.ifCond .le 7, 3) := by decide +kernel
theorem dX10_hasHill_11 : decode cX10_hasHill 11 = .ok (.iconst 1, 1) := by decide +kernel
theorem dX10_hasHill_12 : decode cX10_hasHill 12 = .ok (.goto 4, 3) := by decide +kernel
theorem dX10_hasHill_15 : decode cX10_hasHill 15 = .ok (.iconst 0, 1) := by decide +kernel
theorem dX10_hasHill_16 : decode cX10_hasHill 16 = .ok (.ireturn, 1) := by decide +kernel
theorem dX10_beginHill_0 : decode cX10_beginHill 0 = .ok (.aload_n 0, 1) := by decide +kernel
theorem dX10_beginHill_1 : decode cX10_beginHill 1 = .ok (.getfield 19, 3) := by decide +kernel
theorem dX10_beginHill_4 : decode cX10_beginHill 4 = .ok (.aload_n 0, 1) := by decide +kernel
theorem dX10_beginHill_5 : decode cX10_beginHill 5 = .ok (.getfield 23, 3) := by decide +kernel
theorem dX10_beginHill_8 : decode cX10_beginHill 8 = .ok (.invokevirtual 301, 3) := by decide +kernel
theorem dX10_beginHill_11 : decode cX10_beginHill 11 = .ok (.aload_n 0, 1) := by decide +kernel
theorem dX10_beginHill_12 : decode cX10_beginHill 12 = .ok (.getfield 52, 3) := by decide +kernel
theorem dX10_beginHill_15 : decode cX10_beginHill 15 = .ok (.invokevirtual 304, 3) := by decide +kernel
theorem dX10_beginHill_18 : decode cX10_beginHill 18 = .ok (.aload_n 0, 1) := by decide +kernel
theorem dX10_beginHill_19 : decode cX10_beginHill 19 = .ok (.getfield 65, 3) := by decide +kernel
theorem dX10_beginHill_22 : decode cX10_beginHill 22 = .ok (.invokevirtual 296, 3) := by decide +kernel
theorem dX10_beginHill_25 : decode cX10_beginHill 25 = .ok (.aload_n 0, 1) := by decide +kernel
theorem dX10_beginHill_26 : decode cX10_beginHill 26 = .ok (.getfield 72, 3) := by decide +kernel
theorem dX10_beginHill_29 : decode cX10_beginHill 29 = .ok (.invokevirtual 307, 3) := by decide +kernel
theorem dX10_beginHill_32 : decode cX10_beginHill 32 = .ok (.aload_n 0, 1) := by decide +kernel
theorem dX10_beginHill_33 : decode cX10_beginHill 33 = .ok (.getfield 79, 3) := by decide +kernel
theorem dX10_beginHill_36 : decode cX10_beginHill 36 = .ok (.invokevirtual 308, 3) := by decide +kernel
theorem dX10_beginHill_39 : decode cX10_beginHill 39 = .ok (.aload_n 0, 1) := by decide +kernel
theorem dX10_beginHill_40 : decode cX10_beginHill 40 = .ok (.getfield 86, 3) := by decide +kernel
theorem dX10_beginHill_43 : decode cX10_beginHill 43 = .ok (.invokevirtual 309, 3) := by decide +kernel
theorem dX10_beginHill_46 : decode cX10_beginHill 46 = .ok (.aload_n 0, 1) := by decide +kernel
theorem dX10_beginHill_47 : decode cX10_beginHill 47 = .ok (.iconst 0, 1) := by decide +kernel
theorem dX10_beginHill_48 : decode cX10_beginHill 48 = .ok (.putfield 292, 3) := by decide +kernel
theorem dX10_beginHill_51 : decode cX10_beginHill 51 = .ok (.return_, 1) := by decide +kernel
theorem dX10_canPass_0 : decode cX10_canPass 0 = .ok (.aload_n 0, 1) := by decide +kernel
theorem dX10_canPass_1 : decode cX10_canPass 1 = .ok (.invokevirtual 126, 3) := by decide +kernel
theorem dX10_canPass_4 : decode cX10_canPass 4 = .ok (.ifCond .eq 32, 3) := by decide +kernel
theorem dX10_canPass_7 : decode cX10_canPass 7 = .ok (.iload_n 1, 1) := by decide +kernel
theorem dX10_canPass_8 : decode cX10_canPass 8 = .ok (.iconst 1, 1) := by decide +kernel
theorem dX10_canPass_9 : decode cX10_canPass 9 = .ok (.if_icmp .lt 27, 3) := by decide +kernel
theorem dX10_canPass_12 : decode cX10_canPass 12 = .ok (.iload_n 1, 1) := by decide +kernel
theorem dX10_canPass_13 : decode cX10_canPass 13 = .ok (.iload_n 2, 1) := by decide +kernel
theorem dX10_canPass_14 : decode cX10_canPass 14 = .ok (.if_icmp .gt 22, 3) := by decide +kernel
theorem dX10_canPass_17 : decode cX10_canPass 17 = .ok (.aload_n 0, 1) := by decide +kernel
theorem dX10_canPass_18 : decode cX10_canPass 18 = .ok (.getfield 52, 3) := by decide +kernel
theorem dX10_canPass_21 : decode cX10_canPass 21 = .ok (.invokevirtual 185, 3) := by decide +kernel
theorem dX10_canPass_24 : decode cX10_canPass 24 = .ok (.iload_n 1, 1) := by decide +kernel
theorem dX10_canPass_25 : decode cX10_canPass 25 = .ok (.iadd, 1) := by decide +kernel
theorem dX10_canPass_26 : decode cX10_canPass 26 = .ok (.sipush 9999, 3) := by decide +kernel
theorem dX10_canPass_29 : decode cX10_canPass 29 = .ok (.if_icmp .gt 7, 3) := by decide +kernel
theorem dX10_canPass_32 : decode cX10_canPass 32 = .ok (.iconst 1, 1) := by decide +kernel
theorem dX10_canPass_33 : decode cX10_canPass 33 = .ok (.goto 4, 3) := by decide +kernel
theorem dX10_canPass_36 : decode cX10_canPass 36 = .ok (.iconst 0, 1) := by decide +kernel
theorem dX10_canPass_37 : decode cX10_canPass 37 = .ok (.ireturn, 1) := by decide +kernel
theorem dX10_canStep_0 : decode cX10_canStep 0 = .ok (.aload_n 1, 1) := by decide +kernel
theorem dX10_canStep_1 : decode cX10_canStep 1 = .ok (.aload_n 0, 1) := by decide +kernel
theorem dX10_canStep_2 : decode cX10_canStep 2 = .ok (.getfield 19, 3) := by decide +kernel
theorem dX10_canStep_5 : decode cX10_canStep 5 = .ok (.aload_n 0, 1) := by decide +kernel
theorem dX10_canStep_6 : decode cX10_canStep 6 = .ok (.getfield 43, 3) := by decide +kernel
theorem dX10_canStep_9 : decode cX10_canStep 9 = .ok (.iload_n 2, 1) := by decide +kernel
theorem dX10_canStep_10 : decode cX10_canStep 10 = .ok (.iload_n 3, 1) := by decide +kernel
theorem dX10_canStep_11 : decode cX10_canStep 11 = .ok (.iconst 0, 1) := by decide +kernel
theorem dX10_canStep_12 : decode cX10_canStep 12 = .ok (.invokevirtual 215, 3) := by decide +kernel
theorem dX10_canStep_15 : decode cX10_canStep 15 = .ok (.aload_n 0, 1) := by decide +kernel
theorem dX10_canStep_16 : decode cX10_canStep 16 = .ok (.getfield 43, 3) := by decide +kernel
theorem dX10_canStep_19 : decode cX10_canStep 19 = .ok (.iload_n 2, 1) := by decide +kernel
theorem dX10_canStep_20 : decode cX10_canStep 20 = .ok (.iload_n 3, 1) := by decide +kernel
theorem dX10_canStep_21 : decode cX10_canStep 21 = .ok (.iconst 1, 1) := by decide +kernel
theorem dX10_canStep_22 : decode cX10_canStep 22 = .ok (.invokevirtual 215, 3) := by decide +kernel
theorem dX10_canStep_25 : decode cX10_canStep 25 = .ok (.aload_n 0, 1) := by decide +kernel
theorem dX10_canStep_26 : decode cX10_canStep 26 = .ok (.getfield 43, 3) := by decide +kernel
theorem dX10_canStep_29 : decode cX10_canStep 29 = .ok (.iload_n 2, 1) := by decide +kernel
theorem dX10_canStep_30 : decode cX10_canStep 30 = .ok (.iload_n 3, 1) := by decide +kernel
theorem dX10_canStep_31 : decode cX10_canStep 31 = .ok (.iconst 2, 1) := by decide +kernel
theorem dX10_canStep_32 : decode cX10_canStep 32 = .ok (.invokevirtual 215, 3) := by decide +kernel
theorem dX10_canStep_35 : decode cX10_canStep 35 = .ok (.invokevirtual 163, 3) := by decide +kernel
theorem dX10_canStep_38 : decode cX10_canStep 38 = .ok (.ireturn, 1) := by decide +kernel
theorem dX10_takeStep_0 : decode cX10_takeStep 0 = .ok (.aload_n 0, 1) := by decide +kernel
theorem dX10_takeStep_1 : decode cX10_takeStep 1 = .ok (.getfield 43, 3) := by decide +kernel
theorem dX10_takeStep_4 : decode cX10_takeStep 4 = .ok (.iload_n 2, 1) := by decide +kernel
theorem dX10_takeStep_5 : decode cX10_takeStep 5 = .ok (.iload_n 3, 1) := by decide +kernel
theorem dX10_takeStep_6 : decode cX10_takeStep 6 = .ok (.iconst 0, 1) := by decide +kernel
theorem dX10_takeStep_7 : decode cX10_takeStep 7 = .ok (.invokevirtual 215, 3) := by decide +kernel
theorem dX10_takeStep_10 : decode cX10_takeStep 10 = .ok (.istore 4, 2) := by decide +kernel
theorem dX10_takeStep_12 : decode cX10_takeStep 12 = .ok (.iload 4, 2) := by decide +kernel
theorem dX10_takeStep_14 : decode cX10_takeStep 14 = .ok (.ifCond .ne 34, 3) := by decide +kernel
theorem dX10_takeStep_17 : decode cX10_takeStep 17 = .ok (.aload_n 1, 1) := by decide +kernel
theorem dX10_takeStep_18 : decode cX10_takeStep 18 = .ok (.aload_n 0, 1) := by decide +kernel
theorem dX10_takeStep_19 : decode cX10_takeStep 19 = .ok (.getfield 19, 3) := by decide +kernel
theorem dX10_takeStep_22 : decode cX10_takeStep 22 = .ok (.aload_n 0, 1) := by decide +kernel
theorem dX10_takeStep_23 : decode cX10_takeStep 23 = .ok (.getfield 43, 3) := by decide +kernel
theorem dX10_takeStep_26 : decode cX10_takeStep 26 = .ok (.iload_n 2, 1) := by decide +kernel
theorem dX10_takeStep_27 : decode cX10_takeStep 27 = .ok (.iload_n 3, 1) := by decide +kernel
theorem dX10_takeStep_28 : decode cX10_takeStep 28 = .ok (.iconst 1, 1) := by decide +kernel
theorem dX10_takeStep_29 : decode cX10_takeStep 29 = .ok (.invokevirtual 215, 3) := by decide +kernel
theorem dX10_takeStep_32 : decode cX10_takeStep 32 = .ok (.aload_n 0, 1) := by decide +kernel
theorem dX10_takeStep_33 : decode cX10_takeStep 33 = .ok (.getfield 43, 3) := by decide +kernel
theorem dX10_takeStep_36 : decode cX10_takeStep 36 = .ok (.iload_n 2, 1) := by decide +kernel
theorem dX10_takeStep_37 : decode cX10_takeStep 37 = .ok (.iload_n 3, 1) := by decide +kernel
theorem dX10_takeStep_38 : decode cX10_takeStep 38 = .ok (.iconst 2, 1) := by decide +kernel
theorem dX10_takeStep_39 : decode cX10_takeStep 39 = .ok (.invokevirtual 215, 3) := by decide +kernel
theorem dX10_takeStep_42 : decode cX10_takeStep 42 = .ok (.invokevirtual 171, 3) := by decide +kernel
theorem dX10_takeStep_45 : decode cX10_takeStep 45 = .ok (.goto 40, 3) := by decide +kernel
theorem dX10_takeStep_48 : decode cX10_takeStep 48 = .ok (.iload 4, 2) := by decide +kernel
theorem dX10_takeStep_50 : decode cX10_takeStep 50 = .ok (.iconst 1, 1) := by decide +kernel
theorem dX10_takeStep_51 : decode cX10_takeStep 51 = .ok (.if_icmp .ne 21, 3) := by decide +kernel
theorem dX10_takeStep_54 : decode cX10_takeStep 54 = .ok (.aload_n 1, 1) := by decide +kernel
theorem dX10_takeStep_55 : decode cX10_takeStep 55 = .ok (.aload_n 0, 1) := by decide +kernel
theorem dX10_takeStep_56 : decode cX10_takeStep 56 = .ok (.getfield 43, 3) := by decide +kernel
theorem dX10_takeStep_59 : decode cX10_takeStep 59 = .ok (.iload_n 2, 1) := by decide +kernel
theorem dX10_takeStep_60 : decode cX10_takeStep 60 = .ok (.iload_n 3, 1) := by decide +kernel
theorem dX10_takeStep_61 : decode cX10_takeStep 61 = .ok (.iconst 1, 1) := by decide +kernel
theorem dX10_takeStep_62 : decode cX10_takeStep 62 = .ok (.invokevirtual 215, 3) := by decide +kernel
theorem dX10_takeStep_65 : decode cX10_takeStep 65 = .ok (.invokevirtual 175, 3) := by decide +kernel
theorem dX10_takeStep_68 : decode cX10_takeStep 68 = .ok (.pop, 1) := by decide +kernel
theorem dX10_takeStep_69 : decode cX10_takeStep 69 = .ok (.goto 16, 3) := by decide +kernel
theorem dX10_takeStep_72 : decode cX10_takeStep 72 = .ok (.aload_n 1, 1) := by decide +kernel
theorem dX10_takeStep_73 : decode cX10_takeStep 73 = .ok (.aload_n 0, 1) := by decide +kernel
theorem dX10_takeStep_74 : decode cX10_takeStep 74 = .ok (.getfield 19, 3) := by decide +kernel
theorem dX10_takeStep_77 : decode cX10_takeStep 77 = .ok (.aload_n 0, 1) := by decide +kernel
theorem dX10_takeStep_78 : decode cX10_takeStep 78 = .ok (.getfield 36, 3) := by decide +kernel
theorem dX10_takeStep_81 : decode cX10_takeStep 81 = .ok (.iconst 0, 1) := by decide +kernel
theorem dX10_takeStep_82 : decode cX10_takeStep 82 = .ok (.invokevirtual 181, 3) := by decide +kernel
theorem dX10_takeStep_85 : decode cX10_takeStep 85 = .ok (.return_, 1) := by decide +kernel
theorem dX10_lacksOf_0 : decode cX10_lacksOf 0 = .ok (.aload_n 0, 1) := by decide +kernel
theorem dX10_lacksOf_1 : decode cX10_lacksOf 1 = .ok (.getfield 19, 3) := by decide +kernel
theorem dX10_lacksOf_4 : decode cX10_lacksOf 4 = .ok (.iconst 1, 1) := by decide +kernel
theorem dX10_lacksOf_5 : decode cX10_lacksOf 5 = .ok (.aload_n 0, 1) := by decide +kernel
theorem dX10_lacksOf_6 : decode cX10_lacksOf 6 = .ok (.getfield 19, 3) := by decide +kernel
theorem dX10_lacksOf_9 : decode cX10_lacksOf 9 = .ok (.iconst 1, 1) := by decide +kernel
theorem dX10_lacksOf_10 : decode cX10_lacksOf 10 = .ok (.iload_n 1, 1) := by decide +kernel
theorem dX10_lacksOf_11 : decode cX10_lacksOf 11 = .ok (.iconst 0, 1) := by decide +kernel
theorem dX10_lacksOf_12 : decode cX10_lacksOf 12 = .ok (.invokevirtual 130, 3) := by decide +kernel
theorem dX10_lacksOf_15 : decode cX10_lacksOf 15 = .ok (.ishl, 1) := by decide +kernel
theorem dX10_lacksOf_16 : decode cX10_lacksOf 16 = .ok (.aload_n 0, 1) := by decide +kernel
theorem dX10_lacksOf_17 : decode cX10_lacksOf 17 = .ok (.getfield 52, 3) := by decide +kernel
theorem dX10_lacksOf_20 : decode cX10_lacksOf 20 = .ok (.iconst 0, 1) := by decide +kernel
theorem dX10_lacksOf_21 : decode cX10_lacksOf 21 = .ok (.iload_n 1, 1) := by decide +kernel
theorem dX10_lacksOf_22 : decode cX10_lacksOf 22 = .ok (.invokevirtual 141, 3) := by decide +kernel
theorem dX10_lacksOf_25 : decode cX10_lacksOf 25 = .ok (.iload_n 2, 1) := by decide +kernel
theorem dX10_lacksOf_26 : decode cX10_lacksOf 26 = .ok (.ior, 1) := by decide +kernel
theorem dX10_lacksOf_27 : decode cX10_lacksOf 27 = .ok (.invokevirtual 235, 3) := by decide +kernel
theorem dX10_lacksOf_30 : decode cX10_lacksOf 30 = .ok (.ireturn, 1) := by decide +kernel
theorem dX10_hasRow_0 : decode cX10_hasRow 0 = .ok (.aload_n 0, 1) := by decide +kernel
theorem dX10_hasRow_1 : decode cX10_hasRow 1 = .ok (.getfield 72, 3) := by decide +kernel
theorem dX10_hasRow_4 : decode cX10_hasRow 4 = .ok (.aload_n 0, 1) := by decide +kernel
theorem dX10_hasRow_5 : decode cX10_hasRow 5 = .ok (.getfield 19, 3) := by decide +kernel
theorem dX10_hasRow_8 : decode cX10_hasRow 8 = .ok (.aload_n 0, 1) := by decide +kernel
theorem dX10_hasRow_9 : decode cX10_hasRow 9 = .ok (.iload_n 1, 1) := by decide +kernel
theorem dX10_hasRow_10 : decode cX10_hasRow 10 = .ok (.iload_n 2, 1) := by decide +kernel
theorem dX10_hasRow_11 : decode cX10_hasRow 11 = .ok (.invokevirtual 241, 3) := by decide +kernel
theorem dX10_hasRow_14 : decode cX10_hasRow 14 = .ok (.aload_n 0, 1) := by decide +kernel
theorem dX10_hasRow_15 : decode cX10_hasRow 15 = .ok (.getfield 52, 3) := by decide +kernel
theorem dX10_hasRow_18 : decode cX10_hasRow 18 = .ok (.invokevirtual 151, 3) := by decide +kernel
theorem dX10_hasRow_21 : decode cX10_hasRow 21 = .ok (.invokevirtual 244, 3) := by decide +kernel
theorem dX10_hasRow_24 : decode cX10_hasRow 24 = .ok (.iconst (-1), 1) := by decide +kernel
theorem dX10_hasRow_25 : decode cX10_hasRow 25 = .ok (.if_icmp .eq 7, 3) := by decide +kernel
theorem dX10_hasRow_28 : decode cX10_hasRow 28 = .ok (.iconst 1, 1) := by decide +kernel
theorem dX10_hasRow_29 : decode cX10_hasRow 29 = .ok (.goto 4, 3) := by decide +kernel
theorem dX10_hasRow_32 : decode cX10_hasRow 32 = .ok (.iconst 0, 1) := by decide +kernel
theorem dX10_hasRow_33 : decode cX10_hasRow 33 = .ok (.ireturn, 1) := by decide +kernel
theorem dX10_fileSoonest_0 : decode cX10_fileSoonest 0 = .ok (.aload_n 0, 1) := by decide +kernel
theorem dX10_fileSoonest_1 : decode cX10_fileSoonest 1 = .ok (.getfield 72, 3) := by decide +kernel
theorem dX10_fileSoonest_4 : decode cX10_fileSoonest 4 = .ok (.aload_n 0, 1) := by decide +kernel
theorem dX10_fileSoonest_5 : decode cX10_fileSoonest 5 = .ok (.getfield 19, 3) := by decide +kernel
theorem dX10_fileSoonest_8 : decode cX10_fileSoonest 8 = .ok (.aload_n 0, 1) := by decide +kernel
theorem dX10_fileSoonest_9 : decode cX10_fileSoonest 9 = .ok (.iload_n 1, 1) := by decide +kernel
theorem dX10_fileSoonest_10 : decode cX10_fileSoonest 10 = .ok (.iconst 0, 1) := by decide +kernel
theorem dX10_fileSoonest_11 : decode cX10_fileSoonest 11 = .ok (.invokevirtual 241, 3) := by decide +kernel
theorem dX10_fileSoonest_14 : decode cX10_fileSoonest 14 = .ok (.aload_n 0, 1) := by decide +kernel
theorem dX10_fileSoonest_15 : decode cX10_fileSoonest 15 = .ok (.getfield 52, 3) := by decide +kernel
theorem dX10_fileSoonest_18 : decode cX10_fileSoonest 18 = .ok (.invokevirtual 151, 3) := by decide +kernel
theorem dX10_fileSoonest_21 : decode cX10_fileSoonest 21 = .ok (.invokevirtual 310, 3) := by decide +kernel
theorem dX10_fileSoonest_24 : decode cX10_fileSoonest 24 = .ok (.istore_n 2, 1) := by decide +kernel
theorem dX10_fileSoonest_25 : decode cX10_fileSoonest 25 = .ok (.aload_n 0, 1) := by decide +kernel
theorem dX10_fileSoonest_26 : decode cX10_fileSoonest 26 = .ok (.getfield 52, 3) := by decide +kernel
theorem dX10_fileSoonest_29 : decode cX10_fileSoonest 29 = .ok (.aload_n 0, 1) := by decide +kernel
theorem dX10_fileSoonest_30 : decode cX10_fileSoonest 30 = .ok (.getfield 19, 3) := by decide +kernel
theorem dX10_fileSoonest_33 : decode cX10_fileSoonest 33 = .ok (.iconst 0, 1) := by decide +kernel
theorem dX10_fileSoonest_34 : decode cX10_fileSoonest 34 = .ok (.iload_n 1, 1) := by decide +kernel
theorem dX10_fileSoonest_35 : decode cX10_fileSoonest 35 = .ok (.iload_n 2, 1) := by decide +kernel
theorem dX10_fileSoonest_36 : decode cX10_fileSoonest 36 = .ok (.invokevirtual 163, 3) := by decide +kernel
theorem dX10_fileSoonest_39 : decode cX10_fileSoonest 39 = .ok (.ifCond .eq 16, 3) := by decide +kernel
theorem dX10_fileSoonest_42 : decode cX10_fileSoonest 42 = .ok (.aload_n 0, 1) := by decide +kernel
theorem dX10_fileSoonest_43 : decode cX10_fileSoonest 43 = .ok (.getfield 52, 3) := by decide +kernel
theorem dX10_fileSoonest_46 : decode cX10_fileSoonest 46 = .ok (.aload_n 0, 1) := by decide +kernel
theorem dX10_fileSoonest_47 : decode cX10_fileSoonest 47 = .ok (.getfield 19, 3) := by decide +kernel
theorem dX10_fileSoonest_50 : decode cX10_fileSoonest 50 = .ok (.iload_n 1, 1) := by decide +kernel
theorem dX10_fileSoonest_51 : decode cX10_fileSoonest 51 = .ok (.iload_n 2, 1) := by decide +kernel
theorem dX10_fileSoonest_52 : decode cX10_fileSoonest 52 = .ok (.invokevirtual 171, 3) := by decide +kernel
theorem dX10_fileSoonest_55 : decode cX10_fileSoonest 55 = .ok (.return_, 1) := by decide +kernel
theorem dX10_draw_0 : decode cX10_draw 0 = .ok (.aload_n 0, 1) := by decide +kernel
theorem dX10_draw_1 : decode cX10_draw 1 = .ok (.aload_n 0, 1) := by decide +kernel
theorem dX10_draw_2 : decode cX10_draw 2 = .ok (.getfield 195, 3) := by decide +kernel
theorem dX10_draw_5 : decode cX10_draw 5 = .ok (.ldc2_w 312, 3) := by decide +kernel
theorem dX10_draw_8 : decode cX10_draw 8 = .ok (.lmul, 1) := by decide +kernel
theorem dX10_draw_9 : decode cX10_draw 9 = .ok (.ldc2_w 314, 3) := by decide +kernel
theorem dX10_draw_12 : decode cX10_draw 12 = .ok (.ladd, 1) := by decide +kernel
theorem dX10_draw_13 : decode cX10_draw 13 = .ok (.putfield 195, 3) := by decide +kernel
theorem dX10_draw_16 : decode cX10_draw 16 = .ok (.iload_n 1, 1) := by decide +kernel
theorem dX10_draw_17 : decode cX10_draw 17 = .ok (.iconst 1, 1) := by decide +kernel
theorem dX10_draw_18 : decode cX10_draw 18 = .ok (.if_icmp .ge 7, 3) := by decide +kernel
theorem dX10_draw_21 : decode cX10_draw 21 = .ok (.iconst 0, 1) := by decide +kernel
theorem dX10_draw_22 : decode cX10_draw 22 = .ok (.goto 14, 3) := by decide +kernel
theorem dX10_draw_25 : decode cX10_draw 25 = .ok (.aload_n 0, 1) := by decide +kernel
theorem dX10_draw_26 : decode cX10_draw 26 = .ok (.getfield 195, 3) := by decide +kernel
theorem dX10_draw_29 : decode cX10_draw 29 = .ok (.bipush 33, 2) := by decide +kernel
theorem dX10_draw_31 : decode cX10_draw 31 = .ok (.lushr, 1) := by decide +kernel
theorem dX10_draw_32 : decode cX10_draw 32 = .ok (.iload_n 1, 1) := by decide +kernel
theorem dX10_draw_33 : decode cX10_draw 33 = .ok (.i2l, 1) := by decide +kernel
theorem dX10_draw_34 : decode cX10_draw 34 = .ok (.lrem, 1) := by decide +kernel
theorem dX10_draw_35 : decode cX10_draw 35 = .ok (.l2i, 1) := by decide +kernel
theorem dX10_draw_36 : decode cX10_draw 36 = .ok (.ireturn, 1) := by decide +kernel
theorem dX10_isStake_0 : decode cX10_isStake 0 = .ok (.iload_n 0, 1) := by decide +kernel
theorem dX10_isStake_1 : decode cX10_isStake 1 = .ok (.iconst 1, 1) := by decide +kernel
theorem dX10_isStake_2 : decode cX10_isStake 2 = .ok (.if_icmp .lt 13, 3) := by decide +kernel
theorem dX10_isStake_5 : decode cX10_isStake 5 = .ok (.iload_n 0, 1) := by decide +kernel
theorem dX10_isStake_6 : decode cX10_isStake 6 = .ok (.bipush 99, 2) := by decide +kernel
theorem dX10_isStake_8 : decode cX10_isStake 8 = .ok (.if_icmp .gt 7, 3) := by decide +kernel
theorem dX10_isStake_11 : decode cX10_isStake 11 = .ok (.iconst 1, 1) := by decide +kernel
theorem dX10_isStake_12 : decode cX10_isStake 12 = .ok (.goto 4, 3) := by decide +kernel
theorem dX10_isStake_15 : decode cX10_isStake 15 = .ok (.iconst 0, 1) := by decide +kernel
theorem dX10_isStake_16 : decode cX10_isStake 16 = .ok (.ireturn, 1) := by decide +kernel
theorem dX10_divisor_0 : decode cX10_divisor 0 = .ok (.iload_n 0, 1) := by decide +kernel
theorem dX10_divisor_1 : decode cX10_divisor 1 = .ok (.istore_n 2, 1) := by decide +kernel
theorem dX10_divisor_2 : decode cX10_divisor 2 = .ok (.iload_n 1, 1) := by decide +kernel
theorem dX10_divisor_3 : decode cX10_divisor 3 = .ok (.istore_n 3, 1) := by decide +kernel
theorem dX10_divisor_4 : decode cX10_divisor 4 = .ok (.iconst 0, 1) := by decide +kernel
theorem dX10_divisor_5 : decode cX10_divisor 5 = .ok (.istore 4, 2) := by decide +kernel
theorem dX10_divisor_7 : decode cX10_divisor 7 = .ok (.iload 4, 2) := by decide +kernel
theorem dX10_divisor_9 : decode cX10_divisor 9 = .ok (.sipush 198, 3) := by decide +kernel
theorem dX10_divisor_12 : decode cX10_divisor 12 = .ok (.if_icmp .ge 23, 3) := by decide +kernel
theorem dX10_divisor_15 : decode cX10_divisor 15 = .ok (.iload_n 3, 1) := by decide +kernel
theorem dX10_divisor_16 : decode cX10_divisor 16 = .ok (.ifCond .le 19, 3) := by decide +kernel
theorem dX10_divisor_19 : decode cX10_divisor 19 = .ok (.iload_n 2, 1) := by decide +kernel
theorem dX10_divisor_20 : decode cX10_divisor 20 = .ok (.iload_n 3, 1) := by decide +kernel
theorem dX10_divisor_21 : decode cX10_divisor 21 = .ok (.irem, 1) := by decide +kernel
theorem dX10_divisor_22 : decode cX10_divisor 22 = .ok (.istore 5, 2) := by decide +kernel
theorem dX10_divisor_24 : decode cX10_divisor 24 = .ok (.iload_n 3, 1) := by decide +kernel
theorem dX10_divisor_25 : decode cX10_divisor 25 = .ok (.istore_n 2, 1) := by decide +kernel
theorem dX10_divisor_26 : decode cX10_divisor 26 = .ok (.iload 5, 2) := by decide +kernel
theorem dX10_divisor_28 : decode cX10_divisor 28 = .ok (.istore_n 3, 1) := by decide +kernel
theorem dX10_divisor_29 : decode cX10_divisor 29 = .ok (.iinc 4 1, 3) := by decide +kernel
theorem dX10_divisor_32 : decode cX10_divisor 32 = .ok (.goto (-25), 3) := by decide +kernel
theorem dX10_divisor_35 : decode cX10_divisor 35 = .ok (.iload_n 2, 1) := by decide +kernel
theorem dX10_divisor_36 : decode cX10_divisor 36 = .ok (.ireturn, 1) := by decide +kernel
theorem dX10_at_0 : decode cX10_at 0 = .ok (.iload_n 1, 1) := by decide +kernel
theorem dX10_at_1 : decode cX10_at 1 = .ok (.ifCond .lt 15, 3) := by decide +kernel
theorem dX10_at_4 : decode cX10_at 4 = .ok (.iload_n 1, 1) := by decide +kernel
theorem dX10_at_5 : decode cX10_at 5 = .ok (.aload_n 0, 1) := by decide +kernel
theorem dX10_at_6 : decode cX10_at 6 = .ok (.arraylength, 1) := by decide +kernel
theorem dX10_at_7 : decode cX10_at 7 = .ok (.if_icmp .ge 9, 3) := by decide +kernel
theorem dX10_at_10 : decode cX10_at 10 = .ok (.aload_n 0, 1) := by decide +kernel
theorem dX10_at_11 : decode cX10_at 11 = .ok (.iload_n 1, 1) := by decide +kernel
theorem dX10_at_12 : decode cX10_at 12 = .ok (.iaload, 1) := by decide +kernel
theorem dX10_at_13 : decode cX10_at 13 = .ok (.goto 4, 3) := by decide +kernel
theorem dX10_at_16 : decode cX10_at 16 = .ok (.iconst (-1), 1) := by decide +kernel
theorem dX10_at_17 : decode cX10_at 17 = .ok (.ireturn, 1) := by decide +kernel
theorem dX10_put_0 : decode cX10_put 0 = .ok (.iload_n 1, 1) := by decide +kernel
theorem dX10_put_1 : decode cX10_put 1 = .ok (.ifCond .lt 13, 3) := by decide +kernel
theorem dX10_put_4 : decode cX10_put 4 = .ok (.iload_n 1, 1) := by decide +kernel
theorem dX10_put_5 : decode cX10_put 5 = .ok (.aload_n 0, 1) := by decide +kernel
theorem dX10_put_6 : decode cX10_put 6 = .ok (.arraylength, 1) := by decide +kernel
theorem dX10_put_7 : decode cX10_put 7 = .ok (.if_icmp .ge 7, 3) := by decide +kernel
theorem dX10_put_10 : decode cX10_put 10 = .ok (.aload_n 0, 1) := by decide +kernel
theorem dX10_put_11 : decode cX10_put 11 = .ok (.iload_n 1, 1) := by decide +kernel
theorem dX10_put_12 : decode cX10_put 12 = .ok (.iload_n 2, 1) := by decide +kernel
theorem dX10_put_13 : decode cX10_put 13 = .ok (.iastore, 1) := by decide +kernel
theorem dX10_put_14 : decode cX10_put 14 = .ok (.return_, 1) := by decide +kernel
theorem dX10_placeIn_0 : decode cX10_placeIn 0 = .ok (.iconst 0, 1) := by decide +kernel
theorem dX10_placeIn_1 : decode cX10_placeIn 1 = .ok (.istore_n 2, 1) := by decide +kernel
theorem dX10_placeIn_2 : decode cX10_placeIn 2 = .ok (.iload_n 2, 1) := by decide +kernel
theorem dX10_placeIn_3 : decode cX10_placeIn 3 = .ok (.aload_n 0, 1) := by decide +kernel
theorem dX10_placeIn_4 : decode cX10_placeIn 4 = .ok (.invokevirtual 316, 3) := by decide +kernel
theorem dX10_placeIn_7 : decode cX10_placeIn 7 = .ok (.if_icmp .ge 20, 3) := by decide +kernel
theorem dX10_placeIn_10 : decode cX10_placeIn 10 = .ok (.aload_n 0, 1) := by decide +kernel
theorem dX10_placeIn_11 : decode cX10_placeIn 11 = .ok (.iload_n 2, 1) := by decide +kernel
theorem dX10_placeIn_12 : decode cX10_placeIn 12 = .ok (.invokevirtual 320, 3) := by decide +kernel
theorem dX10_placeIn_15 : decode cX10_placeIn 15 = .ok (.iload_n 1, 1) := by decide +kernel
theorem dX10_placeIn_16 : decode cX10_placeIn 16 = .ok (.if_icmp .ne 5, 3) := by decide +kernel
theorem dX10_placeIn_19 : decode cX10_placeIn 19 = .ok (.iload_n 2, 1) := by decide +kernel
theorem dX10_placeIn_20 : decode cX10_placeIn 20 = .ok (.ireturn, 1) := by decide +kernel
theorem dX10_placeIn_21 : decode cX10_placeIn 21 = .ok (.iinc 2 1, 3) := by decide +kernel
theorem dX10_placeIn_24 : decode cX10_placeIn 24 = .ok (.goto (-22), 3) := by decide +kernel
theorem dX10_placeIn_27 : decode cX10_placeIn 27 = .ok (.iconst (-1), 1) := by decide +kernel
theorem dX10_placeIn_28 : decode cX10_placeIn 28 = .ok (.ireturn, 1) := by decide +kernel
theorem dX10_isIn_0 : decode cX10_isIn 0 = .ok (.iload_n 1, 1) := by decide +kernel
theorem dX10_isIn_1 : decode cX10_isIn 1 = .ok (.ifCond .lt 22, 3) := by decide +kernel
theorem dX10_isIn_4 : decode cX10_isIn 4 = .ok (.iload_n 1, 1) := by decide +kernel
theorem dX10_isIn_5 : decode cX10_isIn 5 = .ok (.bipush 8, 2) := by decide +kernel
theorem dX10_isIn_7 : decode cX10_isIn 7 = .ok (.if_icmp .ge 16, 3) := by decide +kernel
theorem dX10_isIn_10 : decode cX10_isIn 10 = .ok (.iload_n 0, 1) := by decide +kernel
theorem dX10_isIn_11 : decode cX10_isIn 11 = .ok (.iload_n 1, 1) := by decide +kernel
theorem dX10_isIn_12 : decode cX10_isIn 12 = .ok (.ishr, 1) := by decide +kernel
theorem dX10_isIn_13 : decode cX10_isIn 13 = .ok (.iconst 1, 1) := by decide +kernel
theorem dX10_isIn_14 : decode cX10_isIn 14 = .ok (.iand, 1) := by decide +kernel
theorem dX10_isIn_15 : decode cX10_isIn 15 = .ok (.iconst 1, 1) := by decide +kernel
theorem dX10_isIn_16 : decode cX10_isIn 16 = .ok (.if_icmp .ne 7, 3) := by decide +kernel
theorem dX10_isIn_19 : decode cX10_isIn 19 = .ok (.iconst 1, 1) := by decide +kernel
theorem dX10_isIn_20 : decode cX10_isIn 20 = .ok (.goto 4, 3) := by decide +kernel
theorem dX10_isIn_23 : decode cX10_isIn 23 = .ok (.iconst 0, 1) := by decide +kernel
theorem dX10_isIn_24 : decode cX10_isIn 24 = .ok (.ireturn, 1) := by decide +kernel
theorem dJ6_bitCount_0f7a4_0 : decode cJ6_bitCount_0f7a4 0 = .ok (.iload_n 0, 1) := by decide +kernel
theorem dJ6_bitCount_0f7a4_1 : decode cJ6_bitCount_0f7a4 1 = .ok (.iload_n 0, 1) := by decide +kernel
theorem dJ6_bitCount_0f7a4_2 : decode cJ6_bitCount_0f7a4 2 = .ok (.iconst 1, 1) := by decide +kernel
theorem dJ6_bitCount_0f7a4_3 : decode cJ6_bitCount_0f7a4 3 = .ok (.iushr, 1) := by decide +kernel
theorem dJ6_bitCount_0f7a4_4 : decode cJ6_bitCount_0f7a4 4 = .ok (.ldc_w 265, 3) := by decide +kernel
theorem dJ6_bitCount_0f7a4_7 : decode cJ6_bitCount_0f7a4 7 = .ok (.iand, 1) := by decide +kernel
theorem dJ6_bitCount_0f7a4_8 : decode cJ6_bitCount_0f7a4 8 = .ok (.isub, 1) := by decide +kernel
theorem dJ6_bitCount_0f7a4_9 : decode cJ6_bitCount_0f7a4 9 = .ok (.istore_n 0, 1) := by decide +kernel
theorem dJ6_bitCount_0f7a4_10 : decode cJ6_bitCount_0f7a4 10 = .ok (.iload_n 0, 1) := by decide +kernel
theorem dJ6_bitCount_0f7a4_11 : decode cJ6_bitCount_0f7a4 11 = .ok (.ldc_w 266, 3) := by decide +kernel
theorem dJ6_bitCount_0f7a4_14 : decode cJ6_bitCount_0f7a4 14 = .ok (.iand, 1) := by decide +kernel
theorem dJ6_bitCount_0f7a4_15 : decode cJ6_bitCount_0f7a4 15 = .ok (.iload_n 0, 1) := by decide +kernel
theorem dJ6_bitCount_0f7a4_16 : decode cJ6_bitCount_0f7a4 16 = .ok (.iconst 2, 1) := by decide +kernel
theorem dJ6_bitCount_0f7a4_17 : decode cJ6_bitCount_0f7a4 17 = .ok (.iushr, 1) := by decide +kernel
theorem dJ6_bitCount_0f7a4_18 : decode cJ6_bitCount_0f7a4 18 = .ok (.ldc_w 266, 3) := by decide +kernel
theorem dJ6_bitCount_0f7a4_21 : decode cJ6_bitCount_0f7a4 21 = .ok (.iand, 1) := by decide +kernel
theorem dJ6_bitCount_0f7a4_22 : decode cJ6_bitCount_0f7a4 22 = .ok (.iadd, 1) := by decide +kernel
theorem dJ6_bitCount_0f7a4_23 : decode cJ6_bitCount_0f7a4 23 = .ok (.istore_n 0, 1) := by decide +kernel
theorem dJ6_bitCount_0f7a4_24 : decode cJ6_bitCount_0f7a4 24 = .ok (.iload_n 0, 1) := by decide +kernel
theorem dJ6_bitCount_0f7a4_25 : decode cJ6_bitCount_0f7a4 25 = .ok (.iload_n 0, 1) := by decide +kernel
theorem dJ6_bitCount_0f7a4_26 : decode cJ6_bitCount_0f7a4 26 = .ok (.iconst 4, 1) := by decide +kernel
theorem dJ6_bitCount_0f7a4_27 : decode cJ6_bitCount_0f7a4 27 = .ok (.iushr, 1) := by decide +kernel
theorem dJ6_bitCount_0f7a4_28 : decode cJ6_bitCount_0f7a4 28 = .ok (.iadd, 1) := by decide +kernel
theorem dJ6_bitCount_0f7a4_29 : decode cJ6_bitCount_0f7a4 29 = .ok (.ldc_w 267, 3) := by decide +kernel
theorem dJ6_bitCount_0f7a4_32 : decode cJ6_bitCount_0f7a4 32 = .ok (.iand, 1) := by decide +kernel
theorem dJ6_bitCount_0f7a4_33 : decode cJ6_bitCount_0f7a4 33 = .ok (.istore_n 0, 1) := by decide +kernel
theorem dJ6_bitCount_0f7a4_34 : decode cJ6_bitCount_0f7a4 34 = .ok (.iload_n 0, 1) := by decide +kernel
theorem dJ6_bitCount_0f7a4_35 : decode cJ6_bitCount_0f7a4 35 = .ok (.iload_n 0, 1) := by decide +kernel
theorem dJ6_bitCount_0f7a4_36 : decode cJ6_bitCount_0f7a4 36 = .ok (.bipush 8, 2) := by decide +kernel
theorem dJ6_bitCount_0f7a4_38 : decode cJ6_bitCount_0f7a4 38 = .ok (.iushr, 1) := by decide +kernel
theorem dJ6_bitCount_0f7a4_39 : decode cJ6_bitCount_0f7a4 39 = .ok (.iadd, 1) := by decide +kernel
theorem dJ6_bitCount_0f7a4_40 : decode cJ6_bitCount_0f7a4 40 = .ok (.istore_n 0, 1) := by decide +kernel
theorem dJ6_bitCount_0f7a4_41 : decode cJ6_bitCount_0f7a4 41 = .ok (.iload_n 0, 1) := by decide +kernel
theorem dJ6_bitCount_0f7a4_42 : decode cJ6_bitCount_0f7a4 42 = .ok (.iload_n 0, 1) := by decide +kernel
theorem dJ6_bitCount_0f7a4_43 : decode cJ6_bitCount_0f7a4 43 = .ok (.bipush 16, 2) := by decide +kernel
theorem dJ6_bitCount_0f7a4_45 : decode cJ6_bitCount_0f7a4 45 = .ok (.iushr, 1) := by decide +kernel
theorem dJ6_bitCount_0f7a4_46 : decode cJ6_bitCount_0f7a4 46 = .ok (.iadd, 1) := by decide +kernel
theorem dJ6_bitCount_0f7a4_47 : decode cJ6_bitCount_0f7a4 47 = .ok (.istore_n 0, 1) := by decide +kernel
theorem dJ6_bitCount_0f7a4_48 : decode cJ6_bitCount_0f7a4 48 = .ok (.iload_n 0, 1) := by decide +kernel
theorem dJ6_bitCount_0f7a4_49 : decode cJ6_bitCount_0f7a4 49 = .ok (.bipush 63, 2) := by decide +kernel
theorem dJ6_bitCount_0f7a4_51 : decode cJ6_bitCount_0f7a4 51 = .ok (.iand, 1) := by decide +kernel
theorem dJ6_bitCount_0f7a4_52 : decode cJ6_bitCount_0f7a4 52 = .ok (.ireturn, 1) := by decide +kernel
theorem dJ9_floorMod_7cf53_0 : decode cJ9_floorMod_7cf53 0 = .ok (.iload_n 0, 1) := by decide +kernel
theorem dJ9_floorMod_7cf53_1 : decode cJ9_floorMod_7cf53 1 = .ok (.iload_n 1, 1) := by decide +kernel
theorem dJ9_floorMod_7cf53_2 : decode cJ9_floorMod_7cf53 2 = .ok (.irem, 1) := by decide +kernel
theorem dJ9_floorMod_7cf53_3 : decode cJ9_floorMod_7cf53 3 = .ok (.istore_n 2, 1) := by decide +kernel
theorem dJ9_floorMod_7cf53_4 : decode cJ9_floorMod_7cf53 4 = .ok (.iload_n 0, 1) := by decide +kernel
theorem dJ9_floorMod_7cf53_5 : decode cJ9_floorMod_7cf53 5 = .ok (.iload_n 1, 1) := by decide +kernel
theorem dJ9_floorMod_7cf53_6 : decode cJ9_floorMod_7cf53 6 = .ok (.ixor, 1) := by decide +kernel
theorem dJ9_floorMod_7cf53_7 : decode cJ9_floorMod_7cf53 7 = .ok (.ifCond .ge 11, 3) := by decide +kernel
theorem dJ9_floorMod_7cf53_10 : decode cJ9_floorMod_7cf53 10 = .ok (.iload_n 2, 1) := by decide +kernel
theorem dJ9_floorMod_7cf53_11 : decode cJ9_floorMod_7cf53 11 = .ok (.ifCond .eq 7, 3) := by decide +kernel
theorem dJ9_floorMod_7cf53_14 : decode cJ9_floorMod_7cf53 14 = .ok (.iload_n 2, 1) := by decide +kernel
theorem dJ9_floorMod_7cf53_15 : decode cJ9_floorMod_7cf53 15 = .ok (.iload_n 1, 1) := by decide +kernel
theorem dJ9_floorMod_7cf53_16 : decode cJ9_floorMod_7cf53 16 = .ok (.iadd, 1) := by decide +kernel
theorem dJ9_floorMod_7cf53_17 : decode cJ9_floorMod_7cf53 17 = .ok (.ireturn, 1) := by decide +kernel
theorem dJ9_floorMod_7cf53_18 : decode cJ9_floorMod_7cf53 18 = .ok (.iload_n 2, 1) := by decide +kernel
theorem dJ9_floorMod_7cf53_19 : decode cJ9_floorMod_7cf53 19 = .ok (.ireturn, 1) := by decide +kernel
theorem dJ9_max_7cf53_0 : decode cJ9_max_7cf53 0 = .ok (.iload_n 0, 1) := by decide +kernel
theorem dJ9_max_7cf53_1 : decode cJ9_max_7cf53 1 = .ok (.iload_n 1, 1) := by decide +kernel
theorem dJ9_max_7cf53_2 : decode cJ9_max_7cf53 2 = .ok (.if_icmp .lt 7, 3) := by decide +kernel
theorem dJ9_max_7cf53_5 : decode cJ9_max_7cf53 5 = .ok (.iload_n 0, 1) := by decide +kernel
theorem dJ9_max_7cf53_6 : decode cJ9_max_7cf53 6 = .ok (.goto 4, 3) := by decide +kernel
theorem dJ9_max_7cf53_9 : decode cJ9_max_7cf53 9 = .ok (.iload_n 1, 1) := by decide +kernel
theorem dJ9_max_7cf53_10 : decode cJ9_max_7cf53 10 = .ok (.ireturn, 1) := by decide +kernel
theorem dJ9_max_f86c9_0 : decode cJ9_max_f86c9 0 = .ok (.lload_n 0, 1) := by decide +kernel
theorem dJ9_max_f86c9_1 : decode cJ9_max_f86c9 1 = .ok (.lload_n 2, 1) := by decide +kernel
theorem dJ9_max_f86c9_2 : decode cJ9_max_f86c9 2 = .ok (.lcmp, 1) := by decide +kernel
theorem dJ9_max_f86c9_3 : decode cJ9_max_f86c9 3 = .ok (.ifCond .lt 7, 3) := by decide +kernel
theorem dJ9_max_f86c9_6 : decode cJ9_max_f86c9 6 = .ok (.lload_n 0, 1) := by decide +kernel
theorem dJ9_max_f86c9_7 : decode cJ9_max_f86c9 7 = .ok (.goto 4, 3) := by decide +kernel
theorem dJ9_max_f86c9_10 : decode cJ9_max_f86c9 10 = .ok (.lload_n 2, 1) := by decide +kernel
theorem dJ9_max_f86c9_11 : decode cJ9_max_f86c9 11 = .ok (.lreturn, 1) := by decide +kernel
theorem dJ9_min_7cf53_0 : decode cJ9_min_7cf53 0 = .ok (.iload_n 0, 1) := by decide +kernel
theorem dJ9_min_7cf53_1 : decode cJ9_min_7cf53 1 = .ok (.iload_n 1, 1) := by decide +kernel
theorem dJ9_min_7cf53_2 : decode cJ9_min_7cf53 2 = .ok (.if_icmp .gt 7, 3) := by decide +kernel
theorem dJ9_min_7cf53_5 : decode cJ9_min_7cf53 5 = .ok (.iload_n 0, 1) := by decide +kernel
theorem dJ9_min_7cf53_6 : decode cJ9_min_7cf53 6 = .ok (.goto 4, 3) := by decide +kernel
theorem dJ9_min_7cf53_9 : decode cJ9_min_7cf53 9 = .ok (.iload_n 1, 1) := by decide +kernel
theorem dJ9_min_7cf53_10 : decode cJ9_min_7cf53 10 = .ok (.ireturn, 1) := by decide +kernel
theorem dJ9_min_f86c9_0 : decode cJ9_min_f86c9 0 = .ok (.lload_n 0, 1) := by decide +kernel
theorem dJ9_min_f86c9_1 : decode cJ9_min_f86c9 1 = .ok (.lload_n 2, 1) := by decide +kernel
theorem dJ9_min_f86c9_2 : decode cJ9_min_f86c9 2 = .ok (.lcmp, 1) := by decide +kernel
theorem dJ9_min_f86c9_3 : decode cJ9_min_f86c9 3 = .ok (.ifCond .gt 7, 3) := by decide +kernel
theorem dJ9_min_f86c9_6 : decode cJ9_min_f86c9 6 = .ok (.lload_n 0, 1) := by decide +kernel
theorem dJ9_min_f86c9_7 : decode cJ9_min_f86c9 7 = .ok (.goto 4, 3) := by decide +kernel
theorem dJ9_min_f86c9_10 : decode cJ9_min_f86c9 10 = .ok (.lload_n 2, 1) := by decide +kernel
theorem dJ9_min_f86c9_11 : decode cJ9_min_f86c9 11 = .ok (.lreturn, 1) := by decide +kernel
theorem dJ0_length_8abf5_0 : decode cJ0_length_8abf5 0 = .ok (.aload_n 0, 1) := by decide +kernel
theorem dJ0_length_8abf5_1 : decode cJ0_length_8abf5 1 = .ok (.getfield 9, 3) := by decide +kernel
theorem dJ0_length_8abf5_4 : decode cJ0_length_8abf5 4 = .ok (.arraylength, 1) := by decide +kernel
theorem dJ0_length_8abf5_5 : decode cJ0_length_8abf5 5 = .ok (.aload_n 0, 1) := by decide +kernel
theorem dJ0_length_8abf5_6 : decode cJ0_length_8abf5 6 = .ok (.invokevirtual 335, 3) := by decide +kernel
theorem dJ0_length_8abf5_9 : decode cJ0_length_8abf5 9 = .ok (.ishr, 1) := by decide +kernel
theorem dJ0_length_8abf5_10 : decode cJ0_length_8abf5 10 = .ok (.ireturn, 1) := by decide +kernel
theorem dJ0_charAt_5068e_0 : decode cJ0_charAt_5068e 0 = .ok (.aload_n 0, 1) := by decide +kernel
theorem dJ0_charAt_5068e_1 : decode cJ0_charAt_5068e 1 = .ok (.invokevirtual 492, 3) := by decide +kernel
theorem dJ0_charAt_5068e_4 : decode cJ0_charAt_5068e 4 = .ok (.ifCond .eq 12, 3) := by decide +kernel
theorem dJ0_charAt_5068e_7 : decode cJ0_charAt_5068e 7 = .ok (.aload_n 0, 1) := by decide +kernel
theorem dJ0_charAt_5068e_8 : decode cJ0_charAt_5068e 8 = .ok (.getfield 9, 3) := by decide +kernel
theorem dJ0_charAt_5068e_11 : decode cJ0_charAt_5068e 11 = .ok (.iload_n 1, 1) := by decide +kernel
theorem dJ0_charAt_5068e_12 : decode cJ0_charAt_5068e 12 = .ok (.invokestatic 495, 3) := by decide +kernel
theorem dJ0_charAt_5068e_15 : decode cJ0_charAt_5068e 15 = .ok (.ireturn, 1) := by decide +kernel
theorem dJ0_charAt_5068e_16 : decode cJ0_charAt_5068e 16 = .ok (.aload_n 0, 1) := by decide +kernel
theorem dJ0_charAt_5068e_17 : decode cJ0_charAt_5068e 17 = .ok (.getfield 9, 3) := by decide +kernel
theorem dJ0_charAt_5068e_20 : decode cJ0_charAt_5068e 20 = .ok (.iload_n 1, 1) := by decide +kernel
theorem dJ0_charAt_5068e_21 : decode cJ0_charAt_5068e 21 = .ok (.invokestatic 498, 3) := by decide +kernel
theorem dJ0_charAt_5068e_24 : decode cJ0_charAt_5068e 24 = .ok (.ireturn, 1) := by decide +kernel
theorem dJ0_coder_7d493_0 : decode cJ0_coder_7d493 0 = .ok (.getstatic 38, 3) := by decide +kernel
theorem dJ0_coder_7d493_3 : decode cJ0_coder_7d493 3 = .ok (.ifCond .eq 10, 3) := by decide +kernel
theorem dJ0_coder_7d493_6 : decode cJ0_coder_7d493 6 = .ok (.aload_n 0, 1) := by decide +kernel
theorem dJ0_coder_7d493_7 : decode cJ0_coder_7d493 7 = .ok (.getfield 15, 3) := by decide +kernel
theorem dJ0_coder_7d493_10 : decode cJ0_coder_7d493 10 = .ok (.goto 4, 3) := by decide +kernel
theorem dJ0_coder_7d493_13 : decode cJ0_coder_7d493 13 = .ok (.iconst 1, 1) := by decide +kernel
theorem dJ0_coder_7d493_14 : decode cJ0_coder_7d493 14 = .ok (.ireturn, 1) := by decide +kernel
theorem dJ0_isLatin1_aae02_0 : decode cJ0_isLatin1_aae02 0 = .ok (.getstatic 38, 3) := by decide +kernel
theorem dJ0_isLatin1_aae02_3 : decode cJ0_isLatin1_aae02 3 = .ok (.ifCond .eq 14, 3) := by decide +kernel
theorem dJ0_isLatin1_aae02_6 : decode cJ0_isLatin1_aae02 6 = .ok (.aload_n 0, 1) := by decide +kernel
theorem dJ0_isLatin1_aae02_7 : decode cJ0_isLatin1_aae02 7 = .ok (.getfield 15, 3) := by decide +kernel
theorem dJ0_isLatin1_aae02_10 : decode cJ0_isLatin1_aae02 10 = .ok (.ifCond .ne 7, 3) := by decide +kernel
theorem dJ0_isLatin1_aae02_13 : decode cJ0_isLatin1_aae02 13 = .ok (.iconst 1, 1) := by decide +kernel
theorem dJ0_isLatin1_aae02_14 : decode cJ0_isLatin1_aae02 14 = .ok (.goto 4, 3) := by decide +kernel
theorem dJ0_isLatin1_aae02_17 : decode cJ0_isLatin1_aae02 17 = .ok (.iconst 0, 1) := by decide +kernel
theorem dJ0_isLatin1_aae02_18 : decode cJ0_isLatin1_aae02 18 = .ok (.ireturn, 1) := by decide +kernel
theorem dJ0_checkIndex_df160_0 : decode cJ0_checkIndex_df160 0 = .ok (.iload_n 0, 1) := by decide +kernel
theorem dJ0_checkIndex_df160_1 : decode cJ0_checkIndex_df160 1 = .ok (.iload_n 1, 1) := by decide +kernel
theorem dJ0_checkIndex_df160_2 : decode cJ0_checkIndex_df160 2 = .ok (.getstatic 1053, 3) := by decide +kernel
theorem dJ0_checkIndex_df160_5 : decode cJ0_checkIndex_df160 5 = .ok (.invokestatic 1059, 3) := by decide +kernel
theorem dJ0_checkIndex_df160_8 : decode cJ0_checkIndex_df160 8 = .ok (.pop, 1) := by decide +kernel
theorem dJ0_checkIndex_df160_9 : decode cJ0_checkIndex_df160 9 = .ok (.return_, 1) := by decide +kernel
theorem dJ1_charAt_3b067_0 : decode cJ1_charAt_3b067 0 = .ok (.iload_n 1, 1) := by decide +kernel
theorem dJ1_charAt_3b067_1 : decode cJ1_charAt_3b067 1 = .ok (.aload_n 0, 1) := by decide +kernel
theorem dJ1_charAt_3b067_2 : decode cJ1_charAt_3b067 2 = .ok (.arraylength, 1) := by decide +kernel
theorem dJ1_charAt_3b067_3 : decode cJ1_charAt_3b067 3 = .ok (.invokestatic 9, 3) := by decide +kernel
theorem dJ1_charAt_3b067_6 : decode cJ1_charAt_3b067 6 = .ok (.aload_n 0, 1) := by decide +kernel
theorem dJ1_charAt_3b067_7 : decode cJ1_charAt_3b067 7 = .ok (.iload_n 1, 1) := by decide +kernel
theorem dJ1_charAt_3b067_8 : decode cJ1_charAt_3b067 8 = .ok (.baload, 1) := by decide +kernel
theorem dJ1_charAt_3b067_9 : decode cJ1_charAt_3b067 9 = .ok (.sipush 255, 3) := by decide +kernel
theorem dJ1_charAt_3b067_12 : decode cJ1_charAt_3b067 12 = .ok (.iand, 1) := by decide +kernel
theorem dJ1_charAt_3b067_13 : decode cJ1_charAt_3b067 13 = .ok (.i2c, 1) := by decide +kernel
theorem dJ1_charAt_3b067_14 : decode cJ1_charAt_3b067 14 = .ok (.ireturn, 1) := by decide +kernel
theorem dJ2_getChar_3b067_0 : decode cJ2_getChar_3b067 0 = .ok (.getstatic 44, 3) := by decide +kernel
theorem dJ2_getChar_3b067_3 : decode cJ2_getChar_3b067 3 = .ok (.ifCond .ne 25, 3) := by decide +kernel
theorem dJ2_getChar_3b067_6 : decode cJ2_getChar_3b067 6 = .ok (.iload_n 1, 1) := by decide +kernel
theorem dJ2_getChar_3b067_7 : decode cJ2_getChar_3b067 7 = .ok (.ifCond .lt 11, 3) := by decide +kernel
theorem dJ2_getChar_3b067_10 : decode cJ2_getChar_3b067 10 = .ok (.iload_n 1, 1) := by decide +kernel
theorem dJ2_getChar_3b067_11 : decode cJ2_getChar_3b067 11 = .ok (.aload_n 0, 1) := by decide +kernel
theorem dJ2_getChar_3b067_12 : decode cJ2_getChar_3b067 12 = .ok (.invokestatic 48, 3) := by decide +kernel
theorem dJ2_getChar_3b067_15 : decode cJ2_getChar_3b067 15 = .ok (.if_icmp .lt 13, 3) := by decide +kernel
theorem dJ2_getChar_3b067_18 : decode cJ2_getChar_3b067 18 = .ok (.new 52, 3) := by decide +kernel
theorem dJ2_getChar_3b067_21 : decode cJ2_getChar_3b067 21 = .ok (.dup, 1) := by decide +kernel
theorem dJ2_getChar_3b067_22 : decode cJ2_getChar_3b067 22 = .ok (.ldc 54, 2) := by decide +kernel
theorem dJ2_getChar_3b067_24 : decode cJ2_getChar_3b067 24 = .ok (.invokespecial 56, 3) := by decide +kernel
theorem dJ2_getChar_3b067_27 : decode cJ2_getChar_3b067 27 = .ok (.athrow, 1) := by decide +kernel
theorem dJ2_getChar_3b067_28 : decode cJ2_getChar_3b067 28 = .ok (.iload_n 1, 1) := by decide +kernel
theorem dJ2_getChar_3b067_29 : decode cJ2_getChar_3b067 29 = .ok (.iconst 1, 1) := by decide +kernel
theorem dJ2_getChar_3b067_30 : decode cJ2_getChar_3b067 30 = .ok (.ishl, 1) := by decide +kernel
theorem dJ2_getChar_3b067_31 : decode cJ2_getChar_3b067 31 = .ok (.istore_n 1, 1) := by decide +kernel
theorem dJ2_getChar_3b067_32 : decode cJ2_getChar_3b067 32 = .ok (.aload_n 0, 1) := by decide +kernel
theorem dJ2_getChar_3b067_33 : decode cJ2_getChar_3b067 33 = .ok (.iload_n 1, 1) := by decide +kernel
theorem dJ2_getChar_3b067_34 : decode cJ2_getChar_3b067 34 = .ok (.iinc 1 1, 3) := by decide +kernel
theorem dJ2_getChar_3b067_37 : decode cJ2_getChar_3b067 37 = .ok (.baload, 1) := by decide +kernel
theorem dJ2_getChar_3b067_38 : decode cJ2_getChar_3b067 38 = .ok (.sipush 255, 3) := by decide +kernel
theorem dJ2_getChar_3b067_41 : decode cJ2_getChar_3b067 41 = .ok (.iand, 1) := by decide +kernel
theorem dJ2_getChar_3b067_42 : decode cJ2_getChar_3b067 42 = .ok (.getstatic 59, 3) := by decide +kernel
theorem dJ2_getChar_3b067_45 : decode cJ2_getChar_3b067 45 = .ok (.ishl, 1) := by decide +kernel
theorem dJ2_getChar_3b067_46 : decode cJ2_getChar_3b067 46 = .ok (.aload_n 0, 1) := by decide +kernel
theorem dJ2_getChar_3b067_47 : decode cJ2_getChar_3b067 47 = .ok (.iload_n 1, 1) := by decide +kernel
theorem dJ2_getChar_3b067_48 : decode cJ2_getChar_3b067 48 = .ok (.baload, 1) := by decide +kernel
theorem dJ2_getChar_3b067_49 : decode cJ2_getChar_3b067 49 = .ok (.sipush 255, 3) := by decide +kernel
theorem dJ2_getChar_3b067_52 : decode cJ2_getChar_3b067 52 = .ok (.iand, 1) := by decide +kernel
theorem dJ2_getChar_3b067_53 : decode cJ2_getChar_3b067 53 = .ok (.getstatic 63, 3) := by decide +kernel
theorem dJ2_getChar_3b067_56 : decode cJ2_getChar_3b067 56 = .ok (.ishl, 1) := by decide +kernel
theorem dJ2_getChar_3b067_57 : decode cJ2_getChar_3b067 57 = .ok (.ior, 1) := by decide +kernel
theorem dJ2_getChar_3b067_58 : decode cJ2_getChar_3b067 58 = .ok (.i2c, 1) := by decide +kernel
theorem dJ2_getChar_3b067_59 : decode cJ2_getChar_3b067 59 = .ok (.ireturn, 1) := by decide +kernel
theorem dJ2_length_9d52b_0 : decode cJ2_length_9d52b 0 = .ok (.aload_n 0, 1) := by decide +kernel
theorem dJ2_length_9d52b_1 : decode cJ2_length_9d52b 1 = .ok (.arraylength, 1) := by decide +kernel
theorem dJ2_length_9d52b_2 : decode cJ2_length_9d52b 2 = .ok (.iconst 1, 1) := by decide +kernel
theorem dJ2_length_9d52b_3 : decode cJ2_length_9d52b 3 = .ok (.ishr, 1) := by decide +kernel
theorem dJ2_length_9d52b_4 : decode cJ2_length_9d52b 4 = .ok (.ireturn, 1) := by decide +kernel
theorem dJ2_charAt_3b067_0 : decode cJ2_charAt_3b067 0 = .ok (.iload_n 1, 1) := by decide +kernel
theorem dJ2_charAt_3b067_1 : decode cJ2_charAt_3b067 1 = .ok (.aload_n 0, 1) := by decide +kernel
theorem dJ2_charAt_3b067_2 : decode cJ2_charAt_3b067 2 = .ok (.invokestatic 67, 3) := by decide +kernel
theorem dJ2_charAt_3b067_5 : decode cJ2_charAt_3b067 5 = .ok (.aload_n 0, 1) := by decide +kernel
theorem dJ2_charAt_3b067_6 : decode cJ2_charAt_3b067 6 = .ok (.iload_n 1, 1) := by decide +kernel
theorem dJ2_charAt_3b067_7 : decode cJ2_charAt_3b067 7 = .ok (.invokestatic 71, 3) := by decide +kernel
theorem dJ2_charAt_3b067_10 : decode cJ2_charAt_3b067 10 = .ok (.ireturn, 1) := by decide +kernel
theorem dJ2_checkIndex_2214a_0 : decode cJ2_checkIndex_2214a 0 = .ok (.iload_n 0, 1) := by decide +kernel
theorem dJ2_checkIndex_2214a_1 : decode cJ2_checkIndex_2214a 1 = .ok (.aload_n 1, 1) := by decide +kernel
theorem dJ2_checkIndex_2214a_2 : decode cJ2_checkIndex_2214a 2 = .ok (.invokestatic 48, 3) := by decide +kernel
theorem dJ2_checkIndex_2214a_5 : decode cJ2_checkIndex_2214a 5 = .ok (.invokestatic 414, 3) := by decide +kernel
theorem dJ2_checkIndex_2214a_8 : decode cJ2_checkIndex_2214a 8 = .ok (.return_, 1) := by decide +kernel
theorem dJ7_fill_53178_0 : decode cJ7_fill_53178 0 = .ok (.iconst 0, 1) := by decide +kernel
theorem dJ7_fill_53178_1 : decode cJ7_fill_53178 1 = .ok (.istore_n 2, 1) := by decide +kernel
theorem dJ7_fill_53178_2 : decode cJ7_fill_53178 2 = .ok (.aload_n 0, 1) := by decide +kernel
theorem dJ7_fill_53178_3 : decode cJ7_fill_53178 3 = .ok (.arraylength, 1) := by decide +kernel
theorem dJ7_fill_53178_4 : decode cJ7_fill_53178 4 = .ok (.istore_n 3, 1) := by decide +kernel
theorem dJ7_fill_53178_5 : decode cJ7_fill_53178 5 = .ok (.iload_n 2, 1) := by decide +kernel
theorem dJ7_fill_53178_6 : decode cJ7_fill_53178 6 = .ok (.iload_n 3, 1) := by decide +kernel
theorem dJ7_fill_53178_7 : decode cJ7_fill_53178 7 = .ok (.if_icmp .ge 13, 3) := by decide +kernel
theorem dJ7_fill_53178_10 : decode cJ7_fill_53178 10 = .ok (.aload_n 0, 1) := by decide +kernel
theorem dJ7_fill_53178_11 : decode cJ7_fill_53178 11 = .ok (.iload_n 2, 1) := by decide +kernel
theorem dJ7_fill_53178_12 : decode cJ7_fill_53178 12 = .ok (.iload_n 1, 1) := by decide +kernel
theorem dJ7_fill_53178_13 : decode cJ7_fill_53178 13 = .ok (.iastore, 1) := by decide +kernel
theorem dJ7_fill_53178_14 : decode cJ7_fill_53178 14 = .ok (.iinc 2 1, 3) := by decide +kernel
theorem dJ7_fill_53178_17 : decode cJ7_fill_53178 17 = .ok (.goto (-12), 3) := by decide +kernel
theorem dJ7_fill_53178_20 : decode cJ7_fill_53178 20 = .ok (.return_, 1) := by decide +kernel
theorem dJ3_checkIndex_8e157_0 : decode cJ3_checkIndex_8e157 0 = .ok (.iload_n 0, 1) := by decide +kernel
theorem dJ3_checkIndex_8e157_1 : decode cJ3_checkIndex_8e157 1 = .ok (.ifCond .lt 8, 3) := by decide +kernel
theorem dJ3_checkIndex_8e157_4 : decode cJ3_checkIndex_8e157 4 = .ok (.iload_n 0, 1) := by decide +kernel
theorem dJ3_checkIndex_8e157_5 : decode cJ3_checkIndex_8e157 5 = .ok (.iload_n 1, 1) := by decide +kernel
theorem dJ3_checkIndex_8e157_6 : decode cJ3_checkIndex_8e157 6 = .ok (.if_icmp .lt 10, 3) := by decide +kernel
theorem dJ3_checkIndex_8e157_9 : decode cJ3_checkIndex_8e157 9 = .ok (.aload_n 2, 1) := by decide +kernel
theorem dJ3_checkIndex_8e157_10 : decode cJ3_checkIndex_8e157 10 = .ok (.iload_n 0, 1) := by decide +kernel
theorem dJ3_checkIndex_8e157_11 : decode cJ3_checkIndex_8e157 11 = .ok (.iload_n 1, 1) := by decide +kernel
theorem dJ3_checkIndex_8e157_12 : decode cJ3_checkIndex_8e157 12 = .ok (.invokestatic 95, 3) := by decide +kernel
theorem dJ3_checkIndex_8e157_15 : decode cJ3_checkIndex_8e157 15 = .ok (.athrow, 1) := by decide +kernel
theorem dJ3_checkIndex_8e157_16 : decode cJ3_checkIndex_8e157 16 = .ok (.iload_n 0, 1) := by decide +kernel
theorem dJ3_checkIndex_8e157_17 : decode cJ3_checkIndex_8e157 17 = .ok (.ireturn, 1) := by decide +kernel
