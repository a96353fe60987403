theorem dX0_init_0 : decode cX0_init 0 = .ok (.aload_n 0, 1) := by decide +kernel
theorem dX0_init_1 : decode cX0_init 1 = .ok (.invokespecial 5, 3) := by decide +kernel
theorem dX0_init_4 : decode cX0_init 4 = .ok (.aload_n 0, 1) := by decide +kernel
theorem dX0_init_5 : decode cX0_init 5 = .ok (.sipush 270, 3) := by decide +kernel
theorem dX0_init_8 : decode cX0_init 8 = .ok (.newarray .int, 2) := by decide +kernel
theorem dX0_init_10 : decode cX0_init 10 = .ok (.putfield 11, 3) := by decide +kernel
theorem dX0_init_13 : decode cX0_init 13 = .ok (.return_, 1) := by decide +kernel
theorem dX0_write_0 : decode cX0_write 0 = .ok (.iload_n 1, 1) := by decide +kernel
theorem dX0_write_1 : decode cX0_write 1 = .ok (.bipush 90, 2) := by decide +kernel
theorem dX0_write_3 : decode cX0_write 3 = .ok (.irem, 1) := by decide +kernel
theorem dX0_write_4 : decode cX0_write 4 = .ok (.iconst 3, 1) := by decide +kernel
theorem dX0_write_5 : decode cX0_write 5 = .ok (.imul, 1) := by decide +kernel
theorem dX0_write_6 : decode cX0_write 6 = .ok (.istore 5, 2) := by decide +kernel
theorem dX0_write_8 : decode cX0_write 8 = .ok (.iload 5, 2) := by decide +kernel
theorem dX0_write_10 : decode cX0_write 10 = .ok (.ifCond .lt 44, 3) := by decide +kernel
theorem dX0_write_13 : decode cX0_write 13 = .ok (.iload 5, 2) := by decide +kernel
theorem dX0_write_15 : decode cX0_write 15 = .ok (.iconst 2, 1) := by decide +kernel
theorem dX0_write_16 : decode cX0_write 16 = .ok (.iadd, 1) := by decide +kernel
theorem dX0_write_17 : decode cX0_write 17 = .ok (.aload_n 0, 1) := by decide +kernel
theorem dX0_write_18 : decode cX0_write 18 = .ok (.getfield 11, 3) := by decide +kernel
theorem dX0_write_21 : decode cX0_write 21 = .ok (.arraylength, 1) := by decide +kernel
theorem dX0_write_22 : decode cX0_write 22 = .ok (.if_icmp .ge 32, 3) := by decide +kernel
theorem dX0_write_25 : decode cX0_write 25 = .ok (.aload_n 0, 1) := by decide +kernel
theorem dX0_write_26 : decode cX0_write 26 = .ok (.getfield 11, 3) := by decide +kernel
theorem dX0_write_29 : decode cX0_write 29 = .ok (.iload 5, 2) := by decide +kernel
theorem dX0_write_31 : decode cX0_write 31 = .ok (.iload_n 2, 1) := by decide +kernel
theorem dX0_write_32 : decode cX0_write 32 = .ok (.iastore, 1) := by decide +kernel
theorem dX0_write_33 : decode cX0_write 33 = .ok (.aload_n 0, 1) := by decide +kernel
theorem dX0_write_34 : decode cX0_write 34 = .ok (.getfield 11, 3) := by decide +kernel
theorem dX0_write_37 : decode cX0_write 37 = .ok (.iload 5, 2) := by decide +kernel
theorem dX0_write_39 : decode cX0_write 39 = .ok (.iconst 1, 1) := by decide +kernel
theorem dX0_write_40 : decode cX0_write 40 = .ok (.iadd, 1) := by decide +kernel
theorem dX0_write_41 : decode cX0_write 41 = .ok (.iload_n 3, 1) := by decide +kernel
theorem dX0_write_42 : decode cX0_write 42 = .ok (.iastore, 1) := by decide +kernel
theorem dX0_write_43 : decode cX0_write 43 = .ok (.aload_n 0, 1) := by decide +kernel
theorem dX0_write_44 : decode cX0_write 44 = .ok (.getfield 11, 3) := by decide +kernel
theorem dX0_write_47 : decode cX0_write 47 = .ok (.iload 5, 2) := by decide +kernel
theorem dX0_write_49 : decode cX0_write 49 = .ok (.iconst 2, 1) := by decide +kernel
theorem dX0_write_50 : decode cX0_write 50 = .ok (.iadd, 1) := by decide +kernel
theorem dX0_write_51 : decode cX0_write 51 = .ok (.iload 4, 2) := by decide +kernel
theorem dX0_write_53 : decode cX0_write 53 = .ok (.iastore, 1) := by decide +kernel
theorem dX0_write_54 : decode cX0_write 54 = .ok (.return_, 1) := by decide +kernel
theorem dX0_read_0 : decode cX0_read 0 = .ok (.iload_n 1, 1) := by decide +kernel
theorem dX0_read_1 : decode cX0_read 1 = .ok (.bipush 90, 2) := by decide +kernel
theorem dX0_read_3 : decode cX0_read 3 = .ok (.irem, 1) := by decide +kernel
theorem dX0_read_4 : decode cX0_read 4 = .ok (.iconst 3, 1) := by decide +kernel
theorem dX0_read_5 : decode cX0_read 5 = .ok (.imul, 1) := by decide +kernel
theorem dX0_read_6 : decode cX0_read 6 = .ok (.iload_n 2, 1) := by decide +kernel
theorem dX0_read_7 : decode cX0_read 7 = .ok (.iadd, 1) := by decide +kernel
theorem dX0_read_8 : decode cX0_read 8 = .ok (.istore_n 3, 1) := by decide +kernel
theorem dX0_read_9 : decode cX0_read 9 = .ok (.iload_n 3, 1) := by decide +kernel
theorem dX0_read_10 : decode cX0_read 10 = .ok (.ifCond .lt 21, 3) := by decide +kernel
theorem dX0_read_13 : decode cX0_read 13 = .ok (.iload_n 3, 1) := by decide +kernel
theorem dX0_read_14 : decode cX0_read 14 = .ok (.aload_n 0, 1) := by decide +kernel
theorem dX0_read_15 : decode cX0_read 15 = .ok (.getfield 11, 3) := by decide +kernel
theorem dX0_read_18 : decode cX0_read 18 = .ok (.arraylength, 1) := by decide +kernel
theorem dX0_read_19 : decode cX0_read 19 = .ok (.if_icmp .ge 12, 3) := by decide +kernel
theorem dX0_read_22 : decode cX0_read 22 = .ok (.aload_n 0, 1) := by decide +kernel
theorem dX0_read_23 : decode cX0_read 23 = .ok (.getfield 11, 3) := by decide +kernel
theorem dX0_read_26 : decode cX0_read 26 = .ok (.iload_n 3, 1) := by decide +kernel
theorem dX0_read_27 : decode cX0_read 27 = .ok (.iaload, 1) := by decide +kernel
theorem dX0_read_28 : decode cX0_read 28 = .ok (.goto 4, 3) := by decide +kernel
theorem dX0_read_31 : decode cX0_read 31 = .ok (.iconst 0, 1) := by decide +kernel
theorem dX0_read_32 : decode cX0_read 32 = .ok (.ireturn, 1) := by decide +kernel
theorem dX1_init_0 : decode cX1_init 0 = .ok (.aload_n 0, 1) := by decide +kernel
theorem dX1_init_1 : decode cX1_init 1 = .ok (.invokespecial 3, 3) := by decide +kernel
theorem dX1_init_4 : decode cX1_init 4 = .ok (.aload_n 0, 1) := by decide +kernel
theorem dX1_init_5 : decode cX1_init 5 = .ok (.aload_n 1, 1) := by decide +kernel
theorem dX1_init_6 : decode cX1_init 6 = .ok (.putfield 9, 3) := by decide +kernel
theorem dX1_init_9 : decode cX1_init 9 = .ok (.aload_n 0, 1) := by decide +kernel
theorem dX1_init_10 : decode cX1_init 10 = .ok (.sipush 19158, 3) := by decide +kernel
theorem dX1_init_13 : decode cX1_init 13 = .ok (.newarray .int, 2) := by decide +kernel
theorem dX1_init_15 : decode cX1_init 15 = .ok (.putfield 15, 3) := by decide +kernel
theorem dX1_init_18 : decode cX1_init 18 = .ok (.return_, 1) := by decide +kernel
theorem dX1_forget_0 : decode cX1_forget 0 = .ok (.aload_n 0, 1) := by decide +kernel
theorem dX1_forget_1 : decode cX1_forget 1 = .ok (.iconst 0, 1) := by decide +kernel
theorem dX1_forget_2 : decode cX1_forget 2 = .ok (.putfield 19, 3) := by decide +kernel
theorem dX1_forget_5 : decode cX1_forget 5 = .ok (.return_, 1) := by decide +kernel
theorem dX1_mark_0 : decode cX1_mark 0 = .ok (.aload_n 0, 1) := by decide +kernel
theorem dX1_mark_1 : decode cX1_mark 1 = .ok (.getfield 9, 3) := by decide +kernel
theorem dX1_mark_4 : decode cX1_mark 4 = .ok (.aload_n 0, 1) := by decide +kernel
theorem dX1_mark_5 : decode cX1_mark 5 = .ok (.getfield 15, 3) := by decide +kernel
theorem dX1_mark_8 : decode cX1_mark 8 = .ok (.aload_n 0, 1) := by decide +kernel
theorem dX1_mark_9 : decode cX1_mark 9 = .ok (.getfield 23, 3) := by decide +kernel
theorem dX1_mark_12 : decode cX1_mark 12 = .ok (.sipush 618, 3) := by decide +kernel
theorem dX1_mark_15 : decode cX1_mark 15 = .ok (.imul, 1) := by decide +kernel
theorem dX1_mark_16 : decode cX1_mark 16 = .ok (.sipush 618, 3) := by decide +kernel
theorem dX1_mark_19 : decode cX1_mark 19 = .ok (.invokevirtual 26, 3) := by decide +kernel
theorem dX1_mark_22 : decode cX1_mark 22 = .ok (.return_, 1) := by decide +kernel
theorem dX1_backToMark_0 : decode cX1_backToMark 0 = .ok (.aload_n 0, 1) := by decide +kernel
theorem dX1_backToMark_1 : decode cX1_backToMark 1 = .ok (.getfield 9, 3) := by decide +kernel
theorem dX1_backToMark_4 : decode cX1_backToMark 4 = .ok (.aload_n 0, 1) := by decide +kernel
theorem dX1_backToMark_5 : decode cX1_backToMark 5 = .ok (.getfield 15, 3) := by decide +kernel
theorem dX1_backToMark_8 : decode cX1_backToMark 8 = .ok (.aload_n 0, 1) := by decide +kernel
theorem dX1_backToMark_9 : decode cX1_backToMark 9 = .ok (.getfield 23, 3) := by decide +kernel
theorem dX1_backToMark_12 : decode cX1_backToMark 12 = .ok (.sipush 618, 3) := by decide +kernel
theorem dX1_backToMark_15 : decode cX1_backToMark 15 = .ok (.imul, 1) := by decide +kernel
theorem dX1_backToMark_16 : decode cX1_backToMark 16 = .ok (.sipush 618, 3) := by decide +kernel
theorem dX1_backToMark_19 : decode cX1_backToMark 19 = .ok (.invokevirtual 30, 3) := by decide +kernel
theorem dX1_backToMark_22 : decode cX1_backToMark 22 = .ok (.return_, 1) := by decide +kernel
theorem dX1_keepMark_0 : decode cX1_keepMark 0 = .ok (.aload_n 0, 1) := by decide +kernel
theorem dX1_keepMark_1 : decode cX1_keepMark 1 = .ok (.aload_n 0, 1) := by decide +kernel
theorem dX1_keepMark_2 : decode cX1_keepMark 2 = .ok (.getfield 23, 3) := by decide +kernel
theorem dX1_keepMark_5 : decode cX1_keepMark 5 = .ok (.iconst 1, 1) := by decide +kernel
theorem dX1_keepMark_6 : decode cX1_keepMark 6 = .ok (.iadd, 1) := by decide +kernel
theorem dX1_keepMark_7 : decode cX1_keepMark 7 = .ok (.bipush 31, 2) := by decide +kernel
theorem dX1_keepMark_9 : decode cX1_keepMark 9 = .ok (.irem, 1) := by decide +kernel
theorem dX1_keepMark_10 : decode cX1_keepMark 10 = .ok (.putfield 23, 3) := by decide +kernel
theorem dX1_keepMark_13 : decode cX1_keepMark 13 = .ok (.aload_n 0, 1) := by decide +kernel
theorem dX1_keepMark_14 : decode cX1_keepMark 14 = .ok (.aload_n 0, 1) := by decide +kernel
theorem dX1_keepMark_15 : decode cX1_keepMark 15 = .ok (.getfield 19, 3) := by decide +kernel
theorem dX1_keepMark_18 : decode cX1_keepMark 18 = .ok (.iconst 1, 1) := by decide +kernel
theorem dX1_keepMark_19 : decode cX1_keepMark 19 = .ok (.iadd, 1) := by decide +kernel
theorem dX1_keepMark_20 : decode cX1_keepMark 20 = .ok (.bipush 30, 2) := by decide +kernel
theorem dX1_keepMark_22 : decode cX1_keepMark 22 = .ok (.invokestatic 33, 3) := by decide +kernel
theorem dX1_keepMark_25 : decode cX1_keepMark 25 = .ok (.putfield 19, 3) := by decide +kernel
theorem dX1_keepMark_28 : decode cX1_keepMark 28 = .ok (.return_, 1) := by decide +kernel
theorem dX1_takeBack_0 : decode cX1_takeBack 0 = .ok (.aload_n 0, 1) := by decide +kernel
theorem dX1_takeBack_1 : decode cX1_takeBack 1 = .ok (.getfield 19, 3) := by decide +kernel
theorem dX1_takeBack_4 : decode cX1_takeBack 4 = .ok (.ifCond .ne 5, 3) := by decide +kernel
theorem dX1_takeBack_7 : decode cX1_takeBack 7 = .ok (.iconst 0, 1) := by decide +kernel
theorem dX1_takeBack_8 : decode cX1_takeBack 8 = .ok (.ireturn, 1) := by decide +kernel
theorem dX1_takeBack_9 : decode cX1_takeBack 9 = .ok (.aload_n 0, 1) := by decide +kernel
theorem dX1_takeBack_10 : decode cX1_takeBack 10 = .ok (.dup, 1) := by decide +kernel
theorem dX1_takeBack_11 : decode cX1_takeBack 11 = .ok (.getfield 19, 3) := by decide +kernel
theorem dX1_takeBack_14 : decode cX1_takeBack 14 = .ok (.iconst 1, 1) := by decide +kernel
theorem dX1_takeBack_15 : decode cX1_takeBack 15 = .ok (.isub, 1) := by decide +kernel
theorem dX1_takeBack_16 : decode cX1_takeBack 16 = .ok (.putfield 19, 3) := by decide +kernel
theorem dX1_takeBack_19 : decode cX1_takeBack 19 = .ok (.aload_n 0, 1) := by decide +kernel
theorem dX1_takeBack_20 : decode cX1_takeBack 20 = .ok (.aload_n 0, 1) := by decide +kernel
theorem dX1_takeBack_21 : decode cX1_takeBack 21 = .ok (.getfield 23, 3) := by decide +kernel
theorem dX1_takeBack_24 : decode cX1_takeBack 24 = .ok (.bipush 31, 2) := by decide +kernel
theorem dX1_takeBack_26 : decode cX1_takeBack 26 = .ok (.iadd, 1) := by decide +kernel
theorem dX1_takeBack_27 : decode cX1_takeBack 27 = .ok (.iconst 1, 1) := by decide +kernel
theorem dX1_takeBack_28 : decode cX1_takeBack 28 = .ok (.isub, 1) := by decide +kernel
theorem dX1_takeBack_29 : decode cX1_takeBack 29 = .ok (.bipush 31, 2) := by decide +kernel
theorem dX1_takeBack_31 : decode cX1_takeBack 31 = .ok (.irem, 1) := by decide +kernel
theorem dX1_takeBack_32 : decode cX1_takeBack 32 = .ok (.putfield 23, 3) := by decide +kernel
theorem dX1_takeBack_35 : decode cX1_takeBack 35 = .ok (.aload_n 0, 1) := by decide +kernel
theorem dX1_takeBack_36 : decode cX1_takeBack 36 = .ok (.invokevirtual 39, 3) := by decide +kernel
theorem dX1_takeBack_39 : decode cX1_takeBack 39 = .ok (.iconst 1, 1) := by decide +kernel
theorem dX1_takeBack_40 : decode cX1_takeBack 40 = .ok (.ireturn, 1) := by decide +kernel
theorem dX2_init_0 : decode cX2_init 0 = .ok (.aload_n 0, 1) := by decide +kernel
theorem dX2_init_1 : decode cX2_init 1 = .ok (.invokespecial 3, 3) := by decide +kernel
theorem dX2_init_4 : decode cX2_init 4 = .ok (.aload_n 0, 1) := by decide +kernel
theorem dX2_init_5 : decode cX2_init 5 = .ok (.aload_n 1, 1) := by decide +kernel
theorem dX2_init_6 : decode cX2_init 6 = .ok (.putfield 9, 3) := by decide +kernel
theorem dX2_init_9 : decode cX2_init 9 = .ok (.aload_n 0, 1) := by decide +kernel
theorem dX2_init_10 : decode cX2_init 10 = .ok (.aload_n 2, 1) := by decide +kernel
theorem dX2_init_11 : decode cX2_init 11 = .ok (.putfield 15, 3) := by decide +kernel
theorem dX2_init_14 : decode cX2_init 14 = .ok (.aload_n 0, 1) := by decide +kernel
theorem dX2_init_15 : decode cX2_init 15 = .ok (.ldc 21, 2) := by decide +kernel
theorem dX2_init_17 : decode cX2_init 17 = .ok (.newarray .int, 2) := by decide +kernel
theorem dX2_init_19 : decode cX2_init 19 = .ok (.putfield 22, 3) := by decide +kernel
theorem dX2_init_22 : decode cX2_init 22 = .ok (.aload_n 0, 1) := by decide +kernel
theorem dX2_init_23 : decode cX2_init 23 = .ok (.sipush 300, 3) := by decide +kernel
theorem dX2_init_26 : decode cX2_init 26 = .ok (.newarray .int, 2) := by decide +kernel
theorem dX2_init_28 : decode cX2_init 28 = .ok (.putfield 26, 3) := by decide +kernel
theorem dX2_init_31 : decode cX2_init 31 = .ok (.aload_n 0, 1) := by decide +kernel
theorem dX2_init_32 : decode cX2_init 32 = .ok (.sipush 1024, 3) := by decide +kernel
theorem dX2_init_35 : decode cX2_init 35 = .ok (.newarray .int, 2) := by decide +kernel
theorem dX2_init_37 : decode cX2_init 37 = .ok (.putfield 29, 3) := by decide +kernel
theorem dX2_init_40 : decode cX2_init 40 = .ok (.aload_n 0, 1) := by decide +kernel
theorem dX2_init_41 : decode cX2_init 41 = .ok (.sipush 618, 3) := by decide +kernel
theorem dX2_init_44 : decode cX2_init 44 = .ok (.newarray .int, 2) := by decide +kernel
theorem dX2_init_46 : decode cX2_init 46 = .ok (.putfield 32, 3) := by decide +kernel
theorem dX2_init_49 : decode cX2_init 49 = .ok (.aload_n 0, 1) := by decide +kernel
theorem dX2_init_50 : decode cX2_init 50 = .ok (.bipush 7, 2) := by decide +kernel
theorem dX2_init_52 : decode cX2_init 52 = .ok (.newarray .int, 2) := by decide +kernel
theorem dX2_init_54 : decode cX2_init 54 = .ok (.putfield 35, 3) := by decide +kernel
theorem dX2_init_57 : decode cX2_init 57 = .ok (.return_, 1) := by decide +kernel
theorem dX2_goThrough_0 : decode cX2_goThrough 0 = .ok (.aload_n 0, 1) := by decide +kernel
theorem dX2_goThrough_1 : decode cX2_goThrough 1 = .ok (.getfield 35, 3) := by decide +kernel
theorem dX2_goThrough_4 : decode cX2_goThrough 4 = .ok (.iconst 0, 1) := by decide +kernel
theorem dX2_goThrough_5 : decode cX2_goThrough 5 = .ok (.invokestatic 38, 3) := by decide +kernel
theorem dX2_goThrough_8 : decode cX2_goThrough 8 = .ok (.aload_n 0, 1) := by decide +kernel
theorem dX2_goThrough_9 : decode cX2_goThrough 9 = .ok (.getfield 29, 3) := by decide +kernel
theorem dX2_goThrough_12 : decode cX2_goThrough 12 = .ok (.iconst 0, 1) := by decide +kernel
theorem dX2_goThrough_13 : decode cX2_goThrough 13 = .ok (.invokestatic 38, 3) := by decide +kernel
theorem dX2_goThrough_16 : decode cX2_goThrough 16 = .ok (.aload_n 0, 1) := by decide +kernel
theorem dX2_goThrough_17 : decode cX2_goThrough 17 = .ok (.iconst 0, 1) := by decide +kernel
theorem dX2_goThrough_18 : decode cX2_goThrough 18 = .ok (.putfield 44, 3) := by decide +kernel
theorem dX2_goThrough_21 : decode cX2_goThrough 21 = .ok (.aload_n 0, 1) := by decide +kernel
theorem dX2_goThrough_22 : decode cX2_goThrough 22 = .ok (.iconst 0, 1) := by decide +kernel
theorem dX2_goThrough_23 : decode cX2_goThrough 23 = .ok (.putfield 48, 3) := by decide +kernel
theorem dX2_goThrough_26 : decode cX2_goThrough 26 = .ok (.aload_n 0, 1) := by decide +kernel
theorem dX2_goThrough_27 : decode cX2_goThrough 27 = .ok (.getfield 9, 3) := by decide +kernel
theorem dX2_goThrough_30 : decode cX2_goThrough 30 = .ok (.aload_n 0, 1) := by decide +kernel
theorem dX2_goThrough_31 : decode cX2_goThrough 31 = .ok (.getfield 32, 3) := by decide +kernel
theorem dX2_goThrough_34 : decode cX2_goThrough 34 = .ok (.iconst 0, 1) := by decide +kernel
theorem dX2_goThrough_35 : decode cX2_goThrough 35 = .ok (.sipush 618, 3) := by decide +kernel
theorem dX2_goThrough_38 : decode cX2_goThrough 38 = .ok (.invokevirtual 52, 3) := by decide +kernel
theorem dX2_goThrough_41 : decode cX2_goThrough 41 = .ok (.aload_n 0, 1) := by decide +kernel
theorem dX2_goThrough_42 : decode cX2_goThrough 42 = .ok (.getfield 15, 3) := by decide +kernel
theorem dX2_goThrough_45 : decode cX2_goThrough 45 = .ok (.iconst 0, 1) := by decide +kernel
theorem dX2_goThrough_46 : decode cX2_goThrough 46 = .ok (.putfield 56, 3) := by decide +kernel
theorem dX2_goThrough_49 : decode cX2_goThrough 49 = .ok (.aload_n 0, 1) := by decide +kernel
theorem dX2_goThrough_50 : decode cX2_goThrough 50 = .ok (.invokevirtual 61, 3) := by decide +kernel
theorem dX2_goThrough_53 : decode cX2_goThrough 53 = .ok (.iconst 0, 1) := by decide +kernel
theorem dX2_goThrough_54 : decode cX2_goThrough 54 = .ok (.istore_n 1, 1) := by decide +kernel
theorem dX2_goThrough_55 : decode cX2_goThrough 55 = .ok (.iload_n 1, 1) := by decide +kernel
theorem dX2_goThrough_56 : decode cX2_goThrough 56 = .ok (.aload_n 0, 1) := by decide +kernel
theorem dX2_goThrough_57 : decode cX2_goThrough 57 = .ok (.getfield 44, 3) := by decide +kernel
theorem dX2_goThrough_60 : decode cX2_goThrough 60 = .ok (.if_icmp .ge 21, 3) := by decide +kernel
theorem dX2_goThrough_63 : decode cX2_goThrough 63 = .ok (.iload_n 1, 1) := by decide +kernel
theorem dX2_goThrough_64 : decode cX2_goThrough 64 = .ok (.sipush 300, 3) := by decide +kernel
theorem dX2_goThrough_67 : decode cX2_goThrough 67 = .ok (.if_icmp .ge 14, 3) := by decide +kernel
theorem dX2_goThrough_70 : decode cX2_goThrough 70 = .ok (.aload_n 0, 1) := by decide +kernel
theorem dX2_goThrough_71 : decode cX2_goThrough 71 = .ok (.iload_n 1, 1) := by decide +kernel
theorem dX2_goThrough_72 : decode cX2_goThrough 72 = .ok (.invokevirtual 64, 3) := by decide +kernel
theorem dX2_goThrough_75 : decode cX2_goThrough 75 = .ok (.iinc 1 1, 3) := by decide +kernel
theorem dX2_goThrough_78 : decode cX2_goThrough 78 = .ok (.goto (-23), 3) := by decide +kernel
theorem dX2_goThrough_81 : decode cX2_goThrough 81 = .ok (.aload_n 0, 1) := by decide +kernel
theorem dX2_goThrough_82 : decode cX2_goThrough 82 = .ok (.getfield 15, 3) := by decide +kernel
theorem dX2_goThrough_85 : decode cX2_goThrough 85 = .ok (.iconst 1, 1) := by decide +kernel
theorem dX2_goThrough_86 : decode cX2_goThrough 86 = .ok (.putfield 56, 3) := by decide +kernel
theorem dX2_goThrough_89 : decode cX2_goThrough 89 = .ok (.aload_n 0, 1) := by decide +kernel
theorem dX2_goThrough_90 : decode cX2_goThrough 90 = .ok (.getfield 9, 3) := by decide +kernel
theorem dX2_goThrough_93 : decode cX2_goThrough 93 = .ok (.aload_n 0, 1) := by decide +kernel
theorem dX2_goThrough_94 : decode cX2_goThrough 94 = .ok (.getfield 32, 3) := by decide +kernel
theorem dX2_goThrough_97 : decode cX2_goThrough 97 = .ok (.iconst 0, 1) := by decide +kernel
theorem dX2_goThrough_98 : decode cX2_goThrough 98 = .ok (.sipush 618, 3) := by decide +kernel
theorem dX2_goThrough_101 : decode cX2_goThrough 101 = .ok (.invokevirtual 68, 3) := by decide +kernel
theorem dX2_goThrough_104 : decode cX2_goThrough 104 = .ok (.aload_n 0, 1) := by decide +kernel
theorem dX2_goThrough_105 : decode cX2_goThrough 105 = .ok (.getfield 35, 3) := by decide +kernel
theorem dX2_goThrough_108 : decode cX2_goThrough 108 = .ok (.iconst 0, 1) := by decide +kernel
theorem dX2_goThrough_109 : decode cX2_goThrough 109 = .ok (.aload_n 0, 1) := by decide +kernel
theorem dX2_goThrough_110 : decode cX2_goThrough 110 = .ok (.getfield 44, 3) := by decide +kernel
theorem dX2_goThrough_113 : decode cX2_goThrough 113 = .ok (.iastore, 1) := by decide +kernel
theorem dX2_goThrough_114 : decode cX2_goThrough 114 = .ok (.aload_n 0, 1) := by decide +kernel
theorem dX2_goThrough_115 : decode cX2_goThrough 115 = .ok (.getfield 48, 3) := by decide +kernel
theorem dX2_goThrough_118 : decode cX2_goThrough 118 = .ok (.ifCond .eq 8, 3) := by decide +kernel
theorem dX2_goThrough_121 : decode cX2_goThrough 121 = .ok (.bipush (-5), 2) := by decide +kernel
theorem dX2_goThrough_123 : decode cX2_goThrough 123 = .ok (.goto 7, 3) := by decide +kernel
theorem dX2_goThrough_126 : decode cX2_goThrough 126 = .ok (.aload_n 0, 1) := by decide +kernel
theorem dX2_goThrough_127 : decode cX2_goThrough 127 = .ok (.getfield 44, 3) := by decide +kernel
theorem dX2_goThrough_130 : decode cX2_goThrough 130 = .ok (.ireturn, 1) := by decide +kernel
theorem dX2_goFrom_0 : decode cX2_goFrom 0 = .ok (.aload_n 0, 1) := by decide +kernel
theorem dX2_goFrom_1 : decode cX2_goFrom 1 = .ok (.iload_n 1, 1) := by decide +kernel
theorem dX2_goFrom_2 : decode cX2_goFrom 2 = .ok (.invokevirtual 71, 3) := by decide +kernel
theorem dX2_goFrom_5 : decode cX2_goFrom 5 = .ok (.aload_n 0, 1) := by decide +kernel
theorem dX2_goFrom_6 : decode cX2_goFrom 6 = .ok (.getfield 9, 3) := by decide +kernel
theorem dX2_goFrom_9 : decode cX2_goFrom 9 = .ok (.iconst 1, 1) := by decide +kernel
theorem dX2_goFrom_10 : decode cX2_goFrom 10 = .ok (.invokevirtual 74, 3) := by decide +kernel
theorem dX2_goFrom_13 : decode cX2_goFrom 13 = .ok (.ifCond .le 7, 3) := by decide +kernel
theorem dX2_goFrom_16 : decode cX2_goFrom 16 = .ok (.iconst 1, 1) := by decide +kernel
theorem dX2_goFrom_17 : decode cX2_goFrom 17 = .ok (.goto 4, 3) := by decide +kernel
theorem dX2_goFrom_20 : decode cX2_goFrom 20 = .ok (.iconst 0, 1) := by decide +kernel
theorem dX2_goFrom_21 : decode cX2_goFrom 21 = .ok (.istore_n 2, 1) := by decide +kernel
theorem dX2_goFrom_22 : decode cX2_goFrom 22 = .ok (.aload_n 0, 1) := by decide +kernel
theorem dX2_goFrom_23 : decode cX2_goFrom 23 = .ok (.invokevirtual 78, 3) := by decide +kernel
theorem dX2_goFrom_26 : decode cX2_goFrom 26 = .ok (.aload_n 0, 1) := by decide +kernel
theorem dX2_goFrom_27 : decode cX2_goFrom 27 = .ok (.iconst 0, 1) := by decide +kernel
theorem dX2_goFrom_28 : decode cX2_goFrom 28 = .ok (.putfield 81, 3) := by decide +kernel
theorem dX2_goFrom_31 : decode cX2_goFrom 31 = .ok (.iconst 0, 1) := by decide +kernel
theorem dX2_goFrom_32 : decode cX2_goFrom 32 = .ok (.istore_n 3, 1) := by decide +kernel
theorem dX2_goFrom_33 : decode cX2_goFrom 33 = .ok (.iload_n 3, 1) := by decide +kernel
theorem dX2_goFrom_34 : decode cX2_goFrom 34 = .ok (.aload_n 0, 1) := by decide +kernel
theorem dX2_goFrom_35 : decode cX2_goFrom 35 = .ok (.getfield 9, 3) := by decide +kernel
theorem dX2_goFrom_38 : decode cX2_goFrom 38 = .ok (.getfield 84, 3) := by decide +kernel
theorem dX2_goFrom_41 : decode cX2_goFrom 41 = .ok (.if_icmp .ge 58, 3) := by decide +kernel
theorem dX2_goFrom_44 : decode cX2_goFrom 44 = .ok (.iconst 0, 1) := by decide +kernel
theorem dX2_goFrom_45 : decode cX2_goFrom 45 = .ok (.istore 4, 2) := by decide +kernel
theorem dX2_goFrom_47 : decode cX2_goFrom 47 = .ok (.iload 4, 2) := by decide +kernel
theorem dX2_goFrom_49 : decode cX2_goFrom 49 = .ok (.aload_n 0, 1) := by decide +kernel
theorem dX2_goFrom_50 : decode cX2_goFrom 50 = .ok (.getfield 9, 3) := by decide +kernel
theorem dX2_goFrom_53 : decode cX2_goFrom 53 = .ok (.getfield 84, 3) := by decide +kernel
theorem dX2_goFrom_56 : decode cX2_goFrom 56 = .ok (.if_icmp .ge 37, 3) := by decide +kernel
theorem dX2_goFrom_59 : decode cX2_goFrom 59 = .ok (.aload_n 0, 1) := by decide +kernel
theorem dX2_goFrom_60 : decode cX2_goFrom 60 = .ok (.getfield 9, 3) := by decide +kernel
theorem dX2_goFrom_63 : decode cX2_goFrom 63 = .ok (.iload_n 3, 1) := by decide +kernel
theorem dX2_goFrom_64 : decode cX2_goFrom 64 = .ok (.iload 4, 2) := by decide +kernel
theorem dX2_goFrom_66 : decode cX2_goFrom 66 = .ok (.invokevirtual 87, 3) := by decide +kernel
theorem dX2_goFrom_69 : decode cX2_goFrom 69 = .ok (.ifCond .le 18, 3) := by decide +kernel
theorem dX2_goFrom_72 : decode cX2_goFrom 72 = .ok (.aload_n 0, 1) := by decide +kernel
theorem dX2_goFrom_73 : decode cX2_goFrom 73 = .ok (.getfield 15, 3) := by decide +kernel
theorem dX2_goFrom_76 : decode cX2_goFrom 76 = .ok (.iload_n 3, 1) := by decide +kernel
theorem dX2_goFrom_77 : decode cX2_goFrom 77 = .ok (.iload 4, 2) := by decide +kernel
theorem dX2_goFrom_79 : decode cX2_goFrom 79 = .ok (.invokevirtual 91, 3) := by decide +kernel
theorem dX2_goFrom_82 : decode cX2_goFrom 82 = .ok (.aload_n 0, 1) := by decide +kernel
theorem dX2_goFrom_83 : decode cX2_goFrom 83 = .ok (.iload_n 1, 1) := by decide +kernel
theorem dX2_goFrom_84 : decode cX2_goFrom 84 = .ok (.invokevirtual 95, 3) := by decide +kernel
theorem dX2_goFrom_87 : decode cX2_goFrom 87 = .ok (.iinc 4 1, 3) := by decide +kernel
theorem dX2_goFrom_90 : decode cX2_goFrom 90 = .ok (.goto (-43), 3) := by decide +kernel
theorem dX2_goFrom_93 : decode cX2_goFrom 93 = .ok (.iinc 3 1, 3) := by decide +kernel
theorem dX2_goFrom_96 : decode cX2_goFrom 96 = .ok (.goto (-63), 3) := by decide +kernel
theorem dX2_goFrom_99 : decode cX2_goFrom 99 = .ok (.iconst 0, 1) := by decide +kernel
theorem dX2_goFrom_100 : decode cX2_goFrom 100 = .ok (.istore_n 3, 1) := by decide +kernel
theorem dX2_goFrom_101 : decode cX2_goFrom 101 = .ok (.iload_n 3, 1) := by decide +kernel
theorem dX2_goFrom_102 : decode cX2_goFrom 102 = .ok (.aload_n 0, 1) := by decide +kernel
theorem dX2_goFrom_103 : decode cX2_goFrom 103 = .ok (.getfield 9, 3) := by decide +kernel
theorem dX2_goFrom_106 : decode cX2_goFrom 106 = .ok (.getfield 84, 3) := by decide +kernel
theorem dX2_goFrom_109 : decode cX2_goFrom 109 = .ok (.if_icmp .ge 35, 3) := by decide +kernel
theorem dX2_goFrom_112 : decode cX2_goFrom 112 = .ok (.aload_n 0, 1) := by decide +kernel
theorem dX2_goFrom_113 : decode cX2_goFrom 113 = .ok (.getfield 9, 3) := by decide +kernel
theorem dX2_goFrom_116 : decode cX2_goFrom 116 = .ok (.iload_n 3, 1) := by decide +kernel
theorem dX2_goFrom_117 : decode cX2_goFrom 117 = .ok (.iconst 0, 1) := by decide +kernel
theorem dX2_goFrom_118 : decode cX2_goFrom 118 = .ok (.invokevirtual 98, 3) := by decide +kernel
theorem dX2_goFrom_121 : decode cX2_goFrom 121 = .ok (.iconst 2, 1) := by decide +kernel
theorem dX2_goFrom_122 : decode cX2_goFrom 122 = .ok (.if_icmp .ne 16, 3) := by decide +kernel
theorem dX2_goFrom_125 : decode cX2_goFrom 125 = .ok (.aload_n 0, 1) := by decide +kernel
theorem dX2_goFrom_126 : decode cX2_goFrom 126 = .ok (.getfield 15, 3) := by decide +kernel
theorem dX2_goFrom_129 : decode cX2_goFrom 129 = .ok (.iload_n 3, 1) := by decide +kernel
theorem dX2_goFrom_130 : decode cX2_goFrom 130 = .ok (.invokevirtual 101, 3) := by decide +kernel
theorem dX2_goFrom_133 : decode cX2_goFrom 133 = .ok (.aload_n 0, 1) := by decide +kernel
theorem dX2_goFrom_134 : decode cX2_goFrom 134 = .ok (.iload_n 1, 1) := by decide +kernel
theorem dX2_goFrom_135 : decode cX2_goFrom 135 = .ok (.invokevirtual 95, 3) := by decide +kernel
theorem dX2_goFrom_138 : decode cX2_goFrom 138 = .ok (.iinc 3 1, 3) := by decide +kernel
theorem dX2_goFrom_141 : decode cX2_goFrom 141 = .ok (.goto (-40), 3) := by decide +kernel
theorem dX2_goFrom_144 : decode cX2_goFrom 144 = .ok (.aload_n 0, 1) := by decide +kernel
theorem dX2_goFrom_145 : decode cX2_goFrom 145 = .ok (.getfield 81, 3) := by decide +kernel
theorem dX2_goFrom_148 : decode cX2_goFrom 148 = .ok (.ifCond .ne 31, 3) := by decide +kernel
theorem dX2_goFrom_151 : decode cX2_goFrom 151 = .ok (.aload_n 0, 1) := by decide +kernel
theorem dX2_goFrom_152 : decode cX2_goFrom 152 = .ok (.getfield 35, 3) := by decide +kernel
theorem dX2_goFrom_155 : decode cX2_goFrom 155 = .ok (.iconst 1, 1) := by decide +kernel
theorem dX2_goFrom_156 : decode cX2_goFrom 156 = .ok (.dup2, 1) := by decide +kernel
theorem dX2_goFrom_157 : decode cX2_goFrom 157 = .ok (.iaload, 1) := by decide +kernel
theorem dX2_goFrom_158 : decode cX2_goFrom 158 = .ok (.iconst 1, 1) := by decide +kernel
theorem dX2_goFrom_159 : decode cX2_goFrom 159 = .ok (.iadd, 1) := by decide +kernel
theorem dX2_goFrom_160 : decode cX2_goFrom 160 = .ok (.iastore, 1) := by decide +kernel
theorem dX2_goFrom_161 : decode cX2_goFrom 161 = .ok (.aload_n 0, 1) := by decide +kernel
theorem dX2_goFrom_162 : decode cX2_goFrom 162 = .ok (.getfield 35, 3) := by decide +kernel
theorem dX2_goFrom_165 : decode cX2_goFrom 165 = .ok (.iconst 3, 1) := by decide +kernel
theorem dX2_goFrom_166 : decode cX2_goFrom 166 = .ok (.dup2, 1) := by decide +kernel
theorem dX2_goFrom_167 : decode cX2_goFrom 167 = .ok (.iaload, 1) := by decide +kernel
theorem dX2_goFrom_168 : decode cX2_goFrom 168 = .ok (.iload_n 2, 1) := by decide +kernel
theorem dX2_goFrom_169 : decode cX2_goFrom 169 = .ok (.ifCond .eq 7, 3) := by decide +kernel
theorem dX2_goFrom_172 : decode cX2_goFrom 172 = .ok (.iconst 1, 1) := by decide +kernel
theorem dX2_goFrom_173 : decode cX2_goFrom 173 = .ok (.goto 4, 3) := by decide +kernel
theorem dX2_goFrom_176 : decode cX2_goFrom 176 = .ok (.iconst 0, 1) := by decide +kernel
theorem dX2_goFrom_177 : decode cX2_goFrom 177 = .ok (.iadd, 1) := by decide +kernel
theorem dX2_goFrom_178 : decode cX2_goFrom 178 = .ok (.iastore, 1) := by decide +kernel
theorem dX2_goFrom_179 : decode cX2_goFrom 179 = .ok (.return_, 1) := by decide +kernel
theorem dX2_load_0 : decode cX2_load 0 = .ok (.aload_n 0, 1) := by decide +kernel
theorem dX2_load_1 : decode cX2_load 1 = .ok (.getfield 9, 3) := by decide +kernel
theorem dX2_load_4 : decode cX2_load 4 = .ok (.aload_n 0, 1) := by decide +kernel
theorem dX2_load_5 : decode cX2_load 5 = .ok (.getfield 22, 3) := by decide +kernel
theorem dX2_load_8 : decode cX2_load 8 = .ok (.iload_n 1, 1) := by decide +kernel
theorem dX2_load_9 : decode cX2_load 9 = .ok (.sipush 608, 3) := by decide +kernel
theorem dX2_load_12 : decode cX2_load 12 = .ok (.imul, 1) := by decide +kernel
theorem dX2_load_13 : decode cX2_load 13 = .ok (.sipush 608, 3) := by decide +kernel
theorem dX2_load_16 : decode cX2_load 16 = .ok (.invokevirtual 68, 3) := by decide +kernel
theorem dX2_load_19 : decode cX2_load 19 = .ok (.return_, 1) := by decide +kernel
theorem dX2_tally_0 : decode cX2_tally 0 = .ok (.aload_n 0, 1) := by decide +kernel
theorem dX2_tally_1 : decode cX2_tally 1 = .ok (.getfield 9, 3) := by decide +kernel
theorem dX2_tally_4 : decode cX2_tally 4 = .ok (.iconst 2, 1) := by decide +kernel
theorem dX2_tally_5 : decode cX2_tally 5 = .ok (.invokevirtual 74, 3) := by decide +kernel
theorem dX2_tally_8 : decode cX2_tally 8 = .ok (.istore_n 1, 1) := by decide +kernel
theorem dX2_tally_9 : decode cX2_tally 9 = .ok (.aload_n 0, 1) := by decide +kernel
theorem dX2_tally_10 : decode cX2_tally 10 = .ok (.getfield 35, 3) := by decide +kernel
theorem dX2_tally_13 : decode cX2_tally 13 = .ok (.iconst 2, 1) := by decide +kernel
theorem dX2_tally_14 : decode cX2_tally 14 = .ok (.aload_n 0, 1) := by decide +kernel
theorem dX2_tally_15 : decode cX2_tally 15 = .ok (.getfield 35, 3) := by decide +kernel
theorem dX2_tally_18 : decode cX2_tally 18 = .ok (.iconst 2, 1) := by decide +kernel
theorem dX2_tally_19 : decode cX2_tally 19 = .ok (.iaload, 1) := by decide +kernel
theorem dX2_tally_20 : decode cX2_tally 20 = .ok (.iload_n 1, 1) := by decide +kernel
theorem dX2_tally_21 : decode cX2_tally 21 = .ok (.invokestatic 104, 3) := by decide +kernel
theorem dX2_tally_24 : decode cX2_tally 24 = .ok (.iastore, 1) := by decide +kernel
theorem dX2_tally_25 : decode cX2_tally 25 = .ok (.aload_n 0, 1) := by decide +kernel
theorem dX2_tally_26 : decode cX2_tally 26 = .ok (.getfield 35, 3) := by decide +kernel
theorem dX2_tally_29 : decode cX2_tally 29 = .ok (.iconst 4, 1) := by decide +kernel
theorem dX2_tally_30 : decode cX2_tally 30 = .ok (.dup2, 1) := by decide +kernel
theorem dX2_tally_31 : decode cX2_tally 31 = .ok (.iaload, 1) := by decide +kernel
theorem dX2_tally_32 : decode cX2_tally 32 = .ok (.iload_n 1, 1) := by decide +kernel
theorem dX2_tally_33 : decode cX2_tally 33 = .ok (.ifCond .ne 17, 3) := by decide +kernel
theorem dX2_tally_36 : decode cX2_tally 36 = .ok (.aload_n 0, 1) := by decide +kernel
theorem dX2_tally_37 : decode cX2_tally 37 = .ok (.getfield 9, 3) := by decide +kernel
theorem dX2_tally_40 : decode cX2_tally 40 = .ok (.invokevirtual 109, 3) := by decide +kernel
theorem dX2_tally_43 : decode cX2_tally 43 = .ok (.ifCond .eq 7, 3) := by decide +kernel
theorem dX2_tally_46 : decode cX2_tally 46 = .ok (.iconst 1, 1) := by decide +kernel
theorem dX2_tally_47 : decode cX2_tally 47 = .ok (.goto 4, 3) := by decide +kernel
theorem dX2_tally_50 : decode cX2_tally 50 = .ok (.iconst 0, 1) := by decide +kernel
theorem dX2_tally_51 : decode cX2_tally 51 = .ok (.iadd, 1) := by decide +kernel
theorem dX2_tally_52 : decode cX2_tally 52 = .ok (.iastore, 1) := by decide +kernel
theorem dX2_tally_53 : decode cX2_tally 53 = .ok (.aload_n 0, 1) := by decide +kernel
theorem dX2_tally_54 : decode cX2_tally 54 = .ok (.getfield 35, 3) := by decide +kernel
theorem dX2_tally_57 : decode cX2_tally 57 = .ok (.bipush 6, 2) := by decide +kernel
theorem dX2_tally_59 : decode cX2_tally 59 = .ok (.aload_n 0, 1) := by decide +kernel
theorem dX2_tally_60 : decode cX2_tally 60 = .ok (.getfield 35, 3) := by decide +kernel
theorem dX2_tally_63 : decode cX2_tally 63 = .ok (.bipush 6, 2) := by decide +kernel
theorem dX2_tally_65 : decode cX2_tally 65 = .ok (.iaload, 1) := by decide +kernel
theorem dX2_tally_66 : decode cX2_tally 66 = .ok (.aload_n 0, 1) := by decide +kernel
theorem dX2_tally_67 : decode cX2_tally 67 = .ok (.getfield 9, 3) := by decide +kernel
theorem dX2_tally_70 : decode cX2_tally 70 = .ok (.invokevirtual 113, 3) := by decide +kernel
theorem dX2_tally_73 : decode cX2_tally 73 = .ok (.invokestatic 104, 3) := by decide +kernel
theorem dX2_tally_76 : decode cX2_tally 76 = .ok (.iastore, 1) := by decide +kernel
theorem dX2_tally_77 : decode cX2_tally 77 = .ok (.return_, 1) := by decide +kernel
theorem dX2_weigh_0 : decode cX2_weigh 0 = .ok (.aload_n 0, 1) := by decide +kernel
theorem dX2_weigh_1 : decode cX2_weigh 1 = .ok (.getfield 9, 3) := by decide +kernel
theorem dX2_weigh_4 : decode cX2_weigh 4 = .ok (.getfield 117, 3) := by decide +kernel
theorem dX2_weigh_7 : decode cX2_weigh 7 = .ok (.ifCond .eq 16, 3) := by decide +kernel
theorem dX2_weigh_10 : decode cX2_weigh 10 = .ok (.aload_n 0, 1) := by decide +kernel
theorem dX2_weigh_11 : decode cX2_weigh 11 = .ok (.getfield 35, 3) := by decide +kernel
theorem dX2_weigh_14 : decode cX2_weigh 14 = .ok (.iconst 5, 1) := by decide +kernel
theorem dX2_weigh_15 : decode cX2_weigh 15 = .ok (.dup2, 1) := by decide +kernel
theorem dX2_weigh_16 : decode cX2_weigh 16 = .ok (.iaload, 1) := by decide +kernel
theorem dX2_weigh_17 : decode cX2_weigh 17 = .ok (.iconst 1, 1) := by decide +kernel
theorem dX2_weigh_18 : decode cX2_weigh 18 = .ok (.iadd, 1) := by decide +kernel
theorem dX2_weigh_19 : decode cX2_weigh 19 = .ok (.iastore, 1) := by decide +kernel
theorem dX2_weigh_20 : decode cX2_weigh 20 = .ok (.goto 12, 3) := by decide +kernel
theorem dX2_weigh_23 : decode cX2_weigh 23 = .ok (.aload_n 0, 1) := by decide +kernel
theorem dX2_weigh_24 : decode cX2_weigh 24 = .ok (.iconst 1, 1) := by decide +kernel
theorem dX2_weigh_25 : decode cX2_weigh 25 = .ok (.putfield 81, 3) := by decide +kernel
theorem dX2_weigh_28 : decode cX2_weigh 28 = .ok (.aload_n 0, 1) := by decide +kernel
theorem dX2_weigh_29 : decode cX2_weigh 29 = .ok (.invokevirtual 61, 3) := by decide +kernel
theorem dX2_weigh_32 : decode cX2_weigh 32 = .ok (.aload_n 0, 1) := by decide +kernel
theorem dX2_weigh_33 : decode cX2_weigh 33 = .ok (.iload_n 1, 1) := by decide +kernel
theorem dX2_weigh_34 : decode cX2_weigh 34 = .ok (.invokevirtual 71, 3) := by decide +kernel
theorem dX2_weigh_37 : decode cX2_weigh 37 = .ok (.return_, 1) := by decide +kernel
theorem dX2_keep_0 : decode cX2_keep 0 = .ok (.aload_n 0, 1) := by decide +kernel
theorem dX2_keep_1 : decode cX2_keep 1 = .ok (.invokevirtual 120, 3) := by decide +kernel
theorem dX2_keep_4 : decode cX2_keep 4 = .ok (.istore_n 1, 1) := by decide +kernel
theorem dX2_keep_5 : decode cX2_keep 5 = .ok (.iload_n 1, 1) := by decide +kernel
theorem dX2_keep_6 : decode cX2_keep 6 = .ok (.sipush 1023, 3) := by decide +kernel
theorem dX2_keep_9 : decode cX2_keep 9 = .ok (.iand, 1) := by decide +kernel
theorem dX2_keep_10 : decode cX2_keep 10 = .ok (.istore_n 2, 1) := by decide +kernel
theorem dX2_keep_11 : decode cX2_keep 11 = .ok (.iconst 0, 1) := by decide +kernel
theorem dX2_keep_12 : decode cX2_keep 12 = .ok (.istore_n 3, 1) := by decide +kernel
theorem dX2_keep_13 : decode cX2_keep 13 = .ok (.iload_n 3, 1) := by decide +kernel
theorem dX2_keep_14 : decode cX2_keep 14 = .ok (.sipush 1024, 3) := by decide +kernel
theorem dX2_keep_17 : decode cX2_keep 17 = .ok (.if_icmp .ge 43, 3) := by decide +kernel
theorem dX2_keep_20 : decode cX2_keep 20 = .ok (.aload_n 0, 1) := by decide +kernel
theorem dX2_keep_21 : decode cX2_keep 21 = .ok (.getfield 29, 3) := by decide +kernel
theorem dX2_keep_24 : decode cX2_keep 24 = .ok (.iload_n 2, 1) := by decide +kernel
theorem dX2_keep_25 : decode cX2_keep 25 = .ok (.iaload, 1) := by decide +kernel
theorem dX2_keep_26 : decode cX2_keep 26 = .ok (.ifCond .eq 34, 3) := by decide +kernel
theorem dX2_keep_29 : decode cX2_keep 29 = .ok (.aload_n 0, 1) := by decide +kernel
theorem dX2_keep_30 : decode cX2_keep 30 = .ok (.aload_n 0, 1) := by decide +kernel
theorem dX2_keep_31 : decode cX2_keep 31 = .ok (.getfield 29, 3) := by decide +kernel
theorem dX2_keep_34 : decode cX2_keep 34 = .ok (.iload_n 2, 1) := by decide +kernel
theorem dX2_keep_35 : decode cX2_keep 35 = .ok (.iaload, 1) := by decide +kernel
theorem dX2_keep_36 : decode cX2_keep 36 = .ok (.iconst 1, 1) := by decide +kernel
theorem dX2_keep_37 : decode cX2_keep 37 = .ok (.isub, 1) := by decide +kernel
theorem dX2_keep_38 : decode cX2_keep 38 = .ok (.iload_n 1, 1) := by decide +kernel
theorem dX2_keep_39 : decode cX2_keep 39 = .ok (.invokevirtual 123, 3) := by decide +kernel
theorem dX2_keep_42 : decode cX2_keep 42 = .ok (.ifCond .eq 4, 3) := by decide +kernel
theorem dX2_keep_45 : decode cX2_keep 45 = .ok (.return_, 1) := by decide +kernel
theorem dX2_keep_46 : decode cX2_keep 46 = .ok (.iload_n 2, 1) := by decide +kernel
theorem dX2_keep_47 : decode cX2_keep 47 = .ok (.iconst 1, 1) := by decide +kernel
theorem dX2_keep_48 : decode cX2_keep 48 = .ok (.iadd, 1) := by decide +kernel
theorem dX2_keep_49 : decode cX2_keep 49 = .ok (.sipush 1023, 3) := by decide +kernel
theorem dX2_keep_52 : decode cX2_keep 52 = .ok (.iand, 1) := by decide +kernel
theorem dX2_keep_53 : decode cX2_keep 53 = .ok (.istore_n 2, 1) := by decide +kernel
theorem dX2_keep_54 : decode cX2_keep 54 = .ok (.iinc 3 1, 3) := by decide +kernel
theorem dX2_keep_57 : decode cX2_keep 57 = .ok (.goto (-44), 3) := by decide +kernel
theorem dX2_keep_60 : decode cX2_keep 60 = .ok (.aload_n 0, 1) := by decide +kernel
theorem dX2_keep_61 : decode cX2_keep 61 = .ok (.getfield 44, 3) := by decide +kernel
theorem dX2_keep_64 : decode cX2_keep 64 = .ok (.sipush 300, 3) := by decide +kernel
theorem dX2_keep_67 : decode cX2_keep 67 = .ok (.if_icmp .lt 9, 3) := by decide +kernel
theorem dX2_keep_70 : decode cX2_keep 70 = .ok (.aload_n 0, 1) := by decide +kernel
theorem dX2_keep_71 : decode cX2_keep 71 = .ok (.iconst 1, 1) := by decide +kernel
theorem dX2_keep_72 : decode cX2_keep 72 = .ok (.putfield 48, 3) := by decide +kernel
theorem dX2_keep_75 : decode cX2_keep 75 = .ok (.return_, 1) := by decide +kernel
theorem dX2_keep_76 : decode cX2_keep 76 = .ok (.aload_n 0, 1) := by decide +kernel
theorem dX2_keep_77 : decode cX2_keep 77 = .ok (.getfield 9, 3) := by decide +kernel
theorem dX2_keep_80 : decode cX2_keep 80 = .ok (.aload_n 0, 1) := by decide +kernel
theorem dX2_keep_81 : decode cX2_keep 81 = .ok (.getfield 22, 3) := by decide +kernel
theorem dX2_keep_84 : decode cX2_keep 84 = .ok (.aload_n 0, 1) := by decide +kernel
theorem dX2_keep_85 : decode cX2_keep 85 = .ok (.getfield 44, 3) := by decide +kernel
theorem dX2_keep_88 : decode cX2_keep 88 = .ok (.sipush 608, 3) := by decide +kernel
theorem dX2_keep_91 : decode cX2_keep 91 = .ok (.imul, 1) := by decide +kernel
theorem dX2_keep_92 : decode cX2_keep 92 = .ok (.sipush 608, 3) := by decide +kernel
theorem dX2_keep_95 : decode cX2_keep 95 = .ok (.invokevirtual 52, 3) := by decide +kernel
theorem dX2_keep_98 : decode cX2_keep 98 = .ok (.aload_n 0, 1) := by decide +kernel
theorem dX2_keep_99 : decode cX2_keep 99 = .ok (.getfield 26, 3) := by decide +kernel
theorem dX2_keep_102 : decode cX2_keep 102 = .ok (.aload_n 0, 1) := by decide +kernel
theorem dX2_keep_103 : decode cX2_keep 103 = .ok (.getfield 44, 3) := by decide +kernel
theorem dX2_keep_106 : decode cX2_keep 106 = .ok (.iload_n 1, 1) := by decide +kernel
theorem dX2_keep_107 : decode cX2_keep 107 = .ok (.iastore, 1) := by decide +kernel
theorem dX2_keep_108 : decode cX2_keep 108 = .ok (.aload_n 0, 1) := by decide +kernel
theorem dX2_keep_109 : decode cX2_keep 109 = .ok (.dup, 1) := by decide +kernel
theorem dX2_keep_110 : decode cX2_keep 110 = .ok (.getfield 44, 3) := by decide +kernel
theorem dX2_keep_113 : decode cX2_keep 113 = .ok (.iconst 1, 1) := by decide +kernel
theorem dX2_keep_114 : decode cX2_keep 114 = .ok (.iadd, 1) := by decide +kernel
theorem dX2_keep_115 : decode cX2_keep 115 = .ok (.putfield 44, 3) := by decide +kernel
theorem dX2_keep_118 : decode cX2_keep 118 = .ok (.aload_n 0, 1) := by decide +kernel
theorem dX2_keep_119 : decode cX2_keep 119 = .ok (.getfield 29, 3) := by decide +kernel
theorem dX2_keep_122 : decode cX2_keep 122 = .ok (.iload_n 2, 1) := by decide +kernel
theorem dX2_keep_123 : decode cX2_keep 123 = .ok (.aload_n 0, 1) := by decide +kernel
theorem dX2_keep_124 : decode cX2_keep 124 = .ok (.getfield 44, 3) := by decide +kernel
theorem dX2_keep_127 : decode cX2_keep 127 = .ok (.iastore, 1) := by decide +kernel
theorem dX2_keep_128 : decode cX2_keep 128 = .ok (.return_, 1) := by decide +kernel
theorem dX2_isState_0 : decode cX2_isState 0 = .ok (.iload_n 1, 1) := by decide +kernel
theorem dX2_isState_1 : decode cX2_isState 1 = .ok (.ifCond .lt 22, 3) := by decide +kernel
theorem dX2_isState_4 : decode cX2_isState 4 = .ok (.iload_n 1, 1) := by decide +kernel
theorem dX2_isState_5 : decode cX2_isState 5 = .ok (.aload_n 0, 1) := by decide +kernel
theorem dX2_isState_6 : decode cX2_isState 6 = .ok (.getfield 26, 3) := by decide +kernel
theorem dX2_isState_9 : decode cX2_isState 9 = .ok (.arraylength, 1) := by decide +kernel
theorem dX2_isState_10 : decode cX2_isState 10 = .ok (.if_icmp .ge 13, 3) := by decide +kernel
theorem dX2_isState_13 : decode cX2_isState 13 = .ok (.aload_n 0, 1) := by decide +kernel
theorem dX2_isState_14 : decode cX2_isState 14 = .ok (.getfield 26, 3) := by decide +kernel
theorem dX2_isState_17 : decode cX2_isState 17 = .ok (.iload_n 1, 1) := by decide +kernel
theorem dX2_isState_18 : decode cX2_isState 18 = .ok (.iaload, 1) := by decide +kernel
theorem dX2_isState_19 : decode cX2_isState 19 = .ok (.iload_n 2, 1) := by decide +kernel
theorem dX2_isState_20 : decode cX2_isState 20 = .ok (.if_icmp .eq 5, 3) := by decide +kernel
theorem dX2_isState_23 : decode cX2_isState 23 = .ok (.iconst 0, 1) := by decide +kernel
theorem dX2_isState_24 : decode cX2_isState 24 = .ok (.ireturn, 1) := by decide +kernel
theorem dX2_isState_25 : decode cX2_isState 25 = .ok (.aload_n 0, 1) := by decide +kernel
theorem dX2_isState_26 : decode cX2_isState 26 = .ok (.iload_n 1, 1) := by decide +kernel
theorem dX2_isState_27 : decode cX2_isState 27 = .ok (.iconst 0, 1) := by decide +kernel
theorem dX2_isState_28 : decode cX2_isState 28 = .ok (.bipush 6, 2) := by decide +kernel
theorem dX2_isState_30 : decode cX2_isState 30 = .ok (.invokevirtual 127, 3) := by decide +kernel
theorem dX2_isState_33 : decode cX2_isState 33 = .ok (.ifCond .eq 25, 3) := by decide +kernel
theorem dX2_isState_36 : decode cX2_isState 36 = .ok (.aload_n 0, 1) := by decide +kernel
theorem dX2_isState_37 : decode cX2_isState 37 = .ok (.iload_n 1, 1) := by decide +kernel
theorem dX2_isState_38 : decode cX2_isState 38 = .ok (.aload_n 0, 1) := by decide +kernel
theorem dX2_isState_39 : decode cX2_isState 39 = .ok (.getfield 9, 3) := by decide +kernel
theorem dX2_isState_42 : decode cX2_isState 42 = .ok (.invokevirtual 131, 3) := by decide +kernel
theorem dX2_isState_45 : decode cX2_isState 45 = .ok (.aload_n 0, 1) := by decide +kernel
theorem dX2_isState_46 : decode cX2_isState 46 = .ok (.getfield 9, 3) := by decide +kernel
theorem dX2_isState_49 : decode cX2_isState 49 = .ok (.invokevirtual 134, 3) := by decide +kernel
theorem dX2_isState_52 : decode cX2_isState 52 = .ok (.invokevirtual 127, 3) := by decide +kernel
theorem dX2_isState_55 : decode cX2_isState 55 = .ok (.ifCond .ne 5, 3) := by decide +kernel
theorem dX2_isState_58 : decode cX2_isState 58 = .ok (.iconst 0, 1) := by decide +kernel
theorem dX2_isState_59 : decode cX2_isState 59 = .ok (.ireturn, 1) := by decide +kernel
theorem dX2_isState_60 : decode cX2_isState 60 = .ok (.iconst 0, 1) := by decide +kernel
theorem dX2_isState_61 : decode cX2_isState 61 = .ok (.istore_n 3, 1) := by decide +kernel
theorem dX2_isState_62 : decode cX2_isState 62 = .ok (.iload_n 3, 1) := by decide +kernel
theorem dX2_isState_63 : decode cX2_isState 63 = .ok (.aload_n 0, 1) := by decide +kernel
theorem dX2_isState_64 : decode cX2_isState 64 = .ok (.getfield 9, 3) := by decide +kernel
theorem dX2_isState_67 : decode cX2_isState 67 = .ok (.getfield 84, 3) := by decide +kernel
theorem dX2_isState_70 : decode cX2_isState 70 = .ok (.if_icmp .ge 65, 3) := by decide +kernel
theorem dX2_isState_73 : decode cX2_isState 73 = .ok (.iconst 0, 1) := by decide +kernel
theorem dX2_isState_74 : decode cX2_isState 74 = .ok (.istore 4, 2) := by decide +kernel
theorem dX2_isState_76 : decode cX2_isState 76 = .ok (.iload 4, 2) := by decide +kernel
theorem dX2_isState_78 : decode cX2_isState 78 = .ok (.aload_n 0, 1) := by decide +kernel
theorem dX2_isState_79 : decode cX2_isState 79 = .ok (.getfield 9, 3) := by decide +kernel
theorem dX2_isState_82 : decode cX2_isState 82 = .ok (.getfield 84, 3) := by decide +kernel
theorem dX2_isState_85 : decode cX2_isState 85 = .ok (.if_icmp .ge 44, 3) := by decide +kernel
theorem dX2_isState_88 : decode cX2_isState 88 = .ok (.iload_n 3, 1) := by decide +kernel
theorem dX2_isState_89 : decode cX2_isState 89 = .ok (.iload 4, 2) := by decide +kernel
theorem dX2_isState_91 : decode cX2_isState 91 = .ok (.invokestatic 137, 3) := by decide +kernel
theorem dX2_isState_94 : decode cX2_isState 94 = .ok (.istore 5, 2) := by decide +kernel
theorem dX2_isState_96 : decode cX2_isState 96 = .ok (.aload_n 0, 1) := by decide +kernel
theorem dX2_isState_97 : decode cX2_isState 97 = .ok (.iload_n 1, 1) := by decide +kernel
theorem dX2_isState_98 : decode cX2_isState 98 = .ok (.iload 5, 2) := by decide +kernel
theorem dX2_isState_100 : decode cX2_isState 100 = .ok (.iload 5, 2) := by decide +kernel
theorem dX2_isState_102 : decode cX2_isState 102 = .ok (.iconst 1, 1) := by decide +kernel
theorem dX2_isState_103 : decode cX2_isState 103 = .ok (.iadd, 1) := by decide +kernel
theorem dX2_isState_104 : decode cX2_isState 104 = .ok (.aload_n 0, 1) := by decide +kernel
theorem dX2_isState_105 : decode cX2_isState 105 = .ok (.getfield 9, 3) := by decide +kernel
theorem dX2_isState_108 : decode cX2_isState 108 = .ok (.iload_n 3, 1) := by decide +kernel
theorem dX2_isState_109 : decode cX2_isState 109 = .ok (.iload 4, 2) := by decide +kernel
theorem dX2_isState_111 : decode cX2_isState 111 = .ok (.invokevirtual 87, 3) := by decide +kernel
theorem dX2_isState_114 : decode cX2_isState 114 = .ok (.iadd, 1) := by decide +kernel
theorem dX2_isState_115 : decode cX2_isState 115 = .ok (.invokevirtual 127, 3) := by decide +kernel
theorem dX2_isState_118 : decode cX2_isState 118 = .ok (.ifCond .ne 5, 3) := by decide +kernel
theorem dX2_isState_121 : decode cX2_isState 121 = .ok (.iconst 0, 1) := by decide +kernel
theorem dX2_isState_122 : decode cX2_isState 122 = .ok (.ireturn, 1) := by decide +kernel
theorem dX2_isState_123 : decode cX2_isState 123 = .ok (.iinc 4 1, 3) := by decide +kernel
theorem dX2_isState_126 : decode cX2_isState 126 = .ok (.goto (-50), 3) := by decide +kernel
theorem dX2_isState_129 : decode cX2_isState 129 = .ok (.iinc 3 1, 3) := by decide +kernel
theorem dX2_isState_132 : decode cX2_isState 132 = .ok (.goto (-70), 3) := by decide +kernel
theorem dX2_isState_135 : decode cX2_isState 135 = .ok (.iconst 1, 1) := by decide +kernel
theorem dX2_isState_136 : decode cX2_isState 136 = .ok (.ireturn, 1) := by decide +kernel
theorem dX2_isLike_0 : decode cX2_isLike 0 = .ok (.aload_n 0, 1) := by decide +kernel
theorem dX2_isLike_1 : decode cX2_isLike 1 = .ok (.getfield 9, 3) := by decide +kernel
theorem dX2_isLike_4 : decode cX2_isLike 4 = .ok (.getfield 140, 3) := by decide +kernel
theorem dX2_isLike_7 : decode cX2_isLike 7 = .ok (.astore 4, 2) := by decide +kernel
theorem dX2_isLike_9 : decode cX2_isLike 9 = .ok (.iload_n 1, 1) := by decide +kernel
theorem dX2_isLike_10 : decode cX2_isLike 10 = .ok (.sipush 608, 3) := by decide +kernel
theorem dX2_isLike_13 : decode cX2_isLike 13 = .ok (.imul, 1) := by decide +kernel
theorem dX2_isLike_14 : decode cX2_isLike 14 = .ok (.istore 5, 2) := by decide +kernel
theorem dX2_isLike_16 : decode cX2_isLike 16 = .ok (.iload_n 2, 1) := by decide +kernel
theorem dX2_isLike_17 : decode cX2_isLike 17 = .ok (.ifCond .lt 27, 3) := by decide +kernel
theorem dX2_isLike_20 : decode cX2_isLike 20 = .ok (.iload_n 3, 1) := by decide +kernel
theorem dX2_isLike_21 : decode cX2_isLike 21 = .ok (.aload 4, 2) := by decide +kernel
theorem dX2_isLike_23 : decode cX2_isLike 23 = .ok (.arraylength, 1) := by decide +kernel
theorem dX2_isLike_24 : decode cX2_isLike 24 = .ok (.if_icmp .gt 20, 3) := by decide +kernel
theorem dX2_isLike_27 : decode cX2_isLike 27 = .ok (.iload 5, 2) := by decide +kernel
theorem dX2_isLike_29 : decode cX2_isLike 29 = .ok (.ifCond .lt 15, 3) := by decide +kernel
theorem dX2_isLike_32 : decode cX2_isLike 32 = .ok (.iload 5, 2) := by decide +kernel
theorem dX2_isLike_34 : decode cX2_isLike 34 = .ok (.aload_n 0, 1) := by decide +kernel
theorem dX2_isLike_35 : decode cX2_isLike 35 = .ok (.getfield 22, 3) := by decide +kernel
theorem dX2_isLike_38 : decode cX2_isLike 38 = .ok (.arraylength, 1) := by decide +kernel
theorem dX2_isLike_39 : decode cX2_isLike 39 = .ok (.iload_n 3, 1) := by decide +kernel
theorem dX2_isLike_40 : decode cX2_isLike 40 = .ok (.isub, 1) := by decide +kernel
theorem dX2_isLike_41 : decode cX2_isLike 41 = .ok (.if_icmp .le 5, 3) := by decide +kernel
theorem dX2_isLike_44 : decode cX2_isLike 44 = .ok (.iconst 0, 1) := by decide +kernel
theorem dX2_isLike_45 : decode cX2_isLike 45 = .ok (.ireturn, 1) := by decide +kernel
theorem dX2_isLike_46 : decode cX2_isLike 46 = .ok (.iload_n 2, 1) := by decide +kernel
theorem dX2_isLike_47 : decode cX2_isLike 47 = .ok (.istore 6, 2) := by decide +kernel
theorem dX2_isLike_49 : decode cX2_isLike 49 = .ok (.iload 6, 2) := by decide +kernel
theorem dX2_isLike_51 : decode cX2_isLike 51 = .ok (.iload_n 3, 1) := by decide +kernel
theorem dX2_isLike_52 : decode cX2_isLike 52 = .ok (.if_icmp .ge 29, 3) := by decide +kernel
theorem dX2_isLike_55 : decode cX2_isLike 55 = .ok (.aload_n 0, 1) := by decide +kernel
theorem dX2_isLike_56 : decode cX2_isLike 56 = .ok (.getfield 22, 3) := by decide +kernel
theorem dX2_isLike_59 : decode cX2_isLike 59 = .ok (.iload 5, 2) := by decide +kernel
theorem dX2_isLike_61 : decode cX2_isLike 61 = .ok (.iload 6, 2) := by decide +kernel
theorem dX2_isLike_63 : decode cX2_isLike 63 = .ok (.iadd, 1) := by decide +kernel
theorem dX2_isLike_64 : decode cX2_isLike 64 = .ok (.iaload, 1) := by decide +kernel
theorem dX2_isLike_65 : decode cX2_isLike 65 = .ok (.aload 4, 2) := by decide +kernel
theorem dX2_isLike_67 : decode cX2_isLike 67 = .ok (.iload 6, 2) := by decide +kernel
theorem dX2_isLike_69 : decode cX2_isLike 69 = .ok (.iaload, 1) := by decide +kernel
theorem dX2_isLike_70 : decode cX2_isLike 70 = .ok (.if_icmp .eq 5, 3) := by decide +kernel
theorem dX2_isLike_73 : decode cX2_isLike 73 = .ok (.iconst 0, 1) := by decide +kernel
theorem dX2_isLike_74 : decode cX2_isLike 74 = .ok (.ireturn, 1) := by decide +kernel
theorem dX2_isLike_75 : decode cX2_isLike 75 = .ok (.iinc 6 1, 3) := by decide +kernel
theorem dX2_isLike_78 : decode cX2_isLike 78 = .ok (.goto (-29), 3) := by decide +kernel
theorem dX2_isLike_81 : decode cX2_isLike 81 = .ok (.iconst 1, 1) := by decide +kernel
theorem dX2_isLike_82 : decode cX2_isLike 82 = .ok (.ireturn, 1) := by decide +kernel
theorem dX2_hash_0 : decode cX2_hash 0 = .ok (.aload_n 0, 1) := by decide +kernel
theorem dX2_hash_1 : decode cX2_hash 1 = .ok (.iconst 0, 1) := by decide +kernel
theorem dX2_hash_2 : decode cX2_hash 2 = .ok (.iconst 0, 1) := by decide +kernel
theorem dX2_hash_3 : decode cX2_hash 3 = .ok (.bipush 6, 2) := by decide +kernel
theorem dX2_hash_5 : decode cX2_hash 5 = .ok (.invokevirtual 143, 3) := by decide +kernel
theorem dX2_hash_8 : decode cX2_hash 8 = .ok (.istore_n 1, 1) := by decide +kernel
theorem dX2_hash_9 : decode cX2_hash 9 = .ok (.aload_n 0, 1) := by decide +kernel
theorem dX2_hash_10 : decode cX2_hash 10 = .ok (.iload_n 1, 1) := by decide +kernel
theorem dX2_hash_11 : decode cX2_hash 11 = .ok (.aload_n 0, 1) := by decide +kernel
theorem dX2_hash_12 : decode cX2_hash 12 = .ok (.getfield 9, 3) := by decide +kernel
theorem dX2_hash_15 : decode cX2_hash 15 = .ok (.invokevirtual 131, 3) := by decide +kernel
theorem dX2_hash_18 : decode cX2_hash 18 = .ok (.aload_n 0, 1) := by decide +kernel
theorem dX2_hash_19 : decode cX2_hash 19 = .ok (.getfield 9, 3) := by decide +kernel
theorem dX2_hash_22 : decode cX2_hash 22 = .ok (.invokevirtual 134, 3) := by decide +kernel
theorem dX2_hash_25 : decode cX2_hash 25 = .ok (.invokevirtual 143, 3) := by decide +kernel
theorem dX2_hash_28 : decode cX2_hash 28 = .ok (.istore_n 1, 1) := by decide +kernel
theorem dX2_hash_29 : decode cX2_hash 29 = .ok (.iconst 0, 1) := by decide +kernel
theorem dX2_hash_30 : decode cX2_hash 30 = .ok (.istore_n 2, 1) := by decide +kernel
theorem dX2_hash_31 : decode cX2_hash 31 = .ok (.iload_n 2, 1) := by decide +kernel
theorem dX2_hash_32 : decode cX2_hash 32 = .ok (.aload_n 0, 1) := by decide +kernel
theorem dX2_hash_33 : decode cX2_hash 33 = .ok (.getfield 9, 3) := by decide +kernel
theorem dX2_hash_36 : decode cX2_hash 36 = .ok (.getfield 84, 3) := by decide +kernel
theorem dX2_hash_39 : decode cX2_hash 39 = .ok (.if_icmp .ge 57, 3) := by decide +kernel
theorem dX2_hash_42 : decode cX2_hash 42 = .ok (.iconst 0, 1) := by decide +kernel
theorem dX2_hash_43 : decode cX2_hash 43 = .ok (.istore_n 3, 1) := by decide +kernel
theorem dX2_hash_44 : decode cX2_hash 44 = .ok (.iload_n 3, 1) := by decide +kernel
theorem dX2_hash_45 : decode cX2_hash 45 = .ok (.aload_n 0, 1) := by decide +kernel
theorem dX2_hash_46 : decode cX2_hash 46 = .ok (.getfield 9, 3) := by decide +kernel
theorem dX2_hash_49 : decode cX2_hash 49 = .ok (.getfield 84, 3) := by decide +kernel
theorem dX2_hash_52 : decode cX2_hash 52 = .ok (.if_icmp .ge 38, 3) := by decide +kernel
theorem dX2_hash_55 : decode cX2_hash 55 = .ok (.iload_n 2, 1) := by decide +kernel
theorem dX2_hash_56 : decode cX2_hash 56 = .ok (.iload_n 3, 1) := by decide +kernel
theorem dX2_hash_57 : decode cX2_hash 57 = .ok (.invokestatic 137, 3) := by decide +kernel
theorem dX2_hash_60 : decode cX2_hash 60 = .ok (.istore 4, 2) := by decide +kernel
theorem dX2_hash_62 : decode cX2_hash 62 = .ok (.aload_n 0, 1) := by decide +kernel
theorem dX2_hash_63 : decode cX2_hash 63 = .ok (.iload_n 1, 1) := by decide +kernel
theorem dX2_hash_64 : decode cX2_hash 64 = .ok (.iload 4, 2) := by decide +kernel
theorem dX2_hash_66 : decode cX2_hash 66 = .ok (.iload 4, 2) := by decide +kernel
theorem dX2_hash_68 : decode cX2_hash 68 = .ok (.iconst 1, 1) := by decide +kernel
theorem dX2_hash_69 : decode cX2_hash 69 = .ok (.iadd, 1) := by decide +kernel
theorem dX2_hash_70 : decode cX2_hash 70 = .ok (.aload_n 0, 1) := by decide +kernel
theorem dX2_hash_71 : decode cX2_hash 71 = .ok (.getfield 9, 3) := by decide +kernel
theorem dX2_hash_74 : decode cX2_hash 74 = .ok (.iload_n 2, 1) := by decide +kernel
theorem dX2_hash_75 : decode cX2_hash 75 = .ok (.iload_n 3, 1) := by decide +kernel
theorem dX2_hash_76 : decode cX2_hash 76 = .ok (.invokevirtual 87, 3) := by decide +kernel
theorem dX2_hash_79 : decode cX2_hash 79 = .ok (.iadd, 1) := by decide +kernel
theorem dX2_hash_80 : decode cX2_hash 80 = .ok (.invokevirtual 143, 3) := by decide +kernel
theorem dX2_hash_83 : decode cX2_hash 83 = .ok (.istore_n 1, 1) := by decide +kernel
theorem dX2_hash_84 : decode cX2_hash 84 = .ok (.iinc 3 1, 3) := by decide +kernel
theorem dX2_hash_87 : decode cX2_hash 87 = .ok (.goto (-43), 3) := by decide +kernel
theorem dX2_hash_90 : decode cX2_hash 90 = .ok (.iinc 2 1, 3) := by decide +kernel
theorem dX2_hash_93 : decode cX2_hash 93 = .ok (.goto (-62), 3) := by decide +kernel
theorem dX2_hash_96 : decode cX2_hash 96 = .ok (.iload_n 1, 1) := by decide +kernel
theorem dX2_hash_97 : decode cX2_hash 97 = .ok (.iload_n 1, 1) := by decide +kernel
theorem dX2_hash_98 : decode cX2_hash 98 = .ok (.bipush 16, 2) := by decide +kernel
theorem dX2_hash_100 : decode cX2_hash 100 = .ok (.iushr, 1) := by decide +kernel
theorem dX2_hash_101 : decode cX2_hash 101 = .ok (.ixor, 1) := by decide +kernel
theorem dX2_hash_102 : decode cX2_hash 102 = .ok (.ireturn, 1) := by decide +kernel
theorem dX2_mixed_0 : decode cX2_mixed 0 = .ok (.aload_n 0, 1) := by decide +kernel
theorem dX2_mixed_1 : decode cX2_mixed 1 = .ok (.getfield 9, 3) := by decide +kernel
theorem dX2_mixed_4 : decode cX2_mixed 4 = .ok (.getfield 140, 3) := by decide +kernel
theorem dX2_mixed_7 : decode cX2_mixed 7 = .ok (.astore 4, 2) := by decide +kernel
theorem dX2_mixed_9 : decode cX2_mixed 9 = .ok (.iload_n 1, 1) := by decide +kernel
theorem dX2_mixed_10 : decode cX2_mixed 10 = .ok (.istore 5, 2) := by decide +kernel
theorem dX2_mixed_12 : decode cX2_mixed 12 = .ok (.iload_n 2, 1) := by decide +kernel
theorem dX2_mixed_13 : decode cX2_mixed 13 = .ok (.iconst 0, 1) := by decide +kernel
theorem dX2_mixed_14 : decode cX2_mixed 14 = .ok (.invokestatic 104, 3) := by decide +kernel
theorem dX2_mixed_17 : decode cX2_mixed 17 = .ok (.istore 6, 2) := by decide +kernel
theorem dX2_mixed_19 : decode cX2_mixed 19 = .ok (.iload 6, 2) := by decide +kernel
theorem dX2_mixed_21 : decode cX2_mixed 21 = .ok (.iload_n 3, 1) := by decide +kernel
theorem dX2_mixed_22 : decode cX2_mixed 22 = .ok (.if_icmp .ge 30, 3) := by decide +kernel
theorem dX2_mixed_25 : decode cX2_mixed 25 = .ok (.iload 6, 2) := by decide +kernel
theorem dX2_mixed_27 : decode cX2_mixed 27 = .ok (.aload 4, 2) := by decide +kernel
theorem dX2_mixed_29 : decode cX2_mixed 29 = .ok (.arraylength, 1) := by decide +kernel
theorem dX2_mixed_30 : decode cX2_mixed 30 = .ok (.if_icmp .ge 22, 3) := by decide +kernel
theorem dX2_mixed_33 : decode cX2_mixed 33 = .ok (.iload 5, 2) := by decide +kernel
theorem dX2_mixed_35 : decode cX2_mixed 35 = .ok (.bipush 31, 2) := by decide +kernel
theorem dX2_mixed_37 : decode cX2_mixed 37 = .ok (.imul, 1) := by decide +kernel
theorem dX2_mixed_38 : decode cX2_mixed 38 = .ok (.aload 4, 2) := by decide +kernel
theorem dX2_mixed_40 : decode cX2_mixed 40 = .ok (.iload 6, 2) := by decide +kernel
theorem dX2_mixed_42 : decode cX2_mixed 42 = .ok (.iaload, 1) := by decide +kernel
theorem dX2_mixed_43 : decode cX2_mixed 43 = .ok (.iadd, 1) := by decide +kernel
theorem dX2_mixed_44 : decode cX2_mixed 44 = .ok (.istore 5, 2) := by decide +kernel
theorem dX2_mixed_46 : decode cX2_mixed 46 = .ok (.iinc 6 1, 3) := by decide +kernel
theorem dX2_mixed_49 : decode cX2_mixed 49 = .ok (.goto (-30), 3) := by decide +kernel
theorem dX2_mixed_52 : decode cX2_mixed 52 = .ok (.iload 5, 2) := by decide +kernel
theorem dX2_mixed_54 : decode cX2_mixed 54 = .ok (.ireturn, 1) := by decide +kernel
theorem dX3_init_0 : decode cX3_init 0 = .ok (.aload_n 0, 1) := by decide +kernel
theorem dX3_init_1 : decode cX3_init 1 = .ok (.invokespecial 5, 3) := by decide +kernel
theorem dX3_init_4 : decode cX3_init 4 = .ok (.aload_n 0, 1) := by decide +kernel
theorem dX3_init_5 : decode cX3_init 5 = .ok (.sipush 618, 3) := by decide +kernel
theorem dX3_init_8 : decode cX3_init 8 = .ok (.newarray .int, 2) := by decide +kernel
theorem dX3_init_10 : decode cX3_init 10 = .ok (.putfield 11, 3) := by decide +kernel
theorem dX3_init_13 : decode cX3_init 13 = .ok (.return_, 1) := by decide +kernel
theorem dX3_kindOf_0 : decode cX3_kindOf 0 = .ok (.iload_n 0, 1) := by decide +kernel
theorem dX3_kindOf_1 : decode cX3_kindOf 1 = .ok (.iconst 3, 1) := by decide +kernel
theorem dX3_kindOf_2 : decode cX3_kindOf 2 = .ok (.iand, 1) := by decide +kernel
theorem dX3_kindOf_3 : decode cX3_kindOf 3 = .ok (.ireturn, 1) := by decide +kernel
theorem dX3_numberOf_0 : decode cX3_numberOf 0 = .ok (.iload_n 0, 1) := by decide +kernel
theorem dX3_numberOf_1 : decode cX3_numberOf 1 = .ok (.iconst 2, 1) := by decide +kernel
theorem dX3_numberOf_2 : decode cX3_numberOf 2 = .ok (.ishr, 1) := by decide +kernel
theorem dX3_numberOf_3 : decode cX3_numberOf 3 = .ok (.ireturn, 1) := by decide +kernel
theorem dX3_startAnew_0 : decode cX3_startAnew 0 = .ok (.aload_n 0, 1) := by decide +kernel
theorem dX3_startAnew_1 : decode cX3_startAnew 1 = .ok (.iload_n 1, 1) := by decide +kernel
theorem dX3_startAnew_2 : decode cX3_startAnew 2 = .ok (.putfield 15, 3) := by decide +kernel
theorem dX3_startAnew_5 : decode cX3_startAnew 5 = .ok (.aload_n 0, 1) := by decide +kernel
theorem dX3_startAnew_6 : decode cX3_startAnew 6 = .ok (.iload_n 2, 1) := by decide +kernel
theorem dX3_startAnew_7 : decode cX3_startAnew 7 = .ok (.putfield 19, 3) := by decide +kernel
theorem dX3_startAnew_10 : decode cX3_startAnew 10 = .ok (.aload_n 0, 1) := by decide +kernel
theorem dX3_startAnew_11 : decode cX3_startAnew 11 = .ok (.getfield 11, 3) := by decide +kernel
theorem dX3_startAnew_14 : decode cX3_startAnew 14 = .ok (.iconst 0, 1) := by decide +kernel
theorem dX3_startAnew_15 : decode cX3_startAnew 15 = .ok (.invokestatic 22, 3) := by decide +kernel
theorem dX3_startAnew_18 : decode cX3_startAnew 18 = .ok (.iconst 1, 1) := by decide +kernel
theorem dX3_startAnew_19 : decode cX3_startAnew 19 = .ok (.istore_n 3, 1) := by decide +kernel
theorem dX3_startAnew_20 : decode cX3_startAnew 20 = .ok (.iload_n 3, 1) := by decide +kernel
theorem dX3_startAnew_21 : decode cX3_startAnew 21 = .ok (.aload_n 0, 1) := by decide +kernel
theorem dX3_startAnew_22 : decode cX3_startAnew 22 = .ok (.getfield 19, 3) := by decide +kernel
theorem dX3_startAnew_25 : decode cX3_startAnew 25 = .ok (.if_icmp .ge 41, 3) := by decide +kernel
theorem dX3_startAnew_28 : decode cX3_startAnew 28 = .ok (.aload_n 0, 1) := by decide +kernel
theorem dX3_startAnew_29 : decode cX3_startAnew 29 = .ok (.getfield 15, 3) := by decide +kernel
theorem dX3_startAnew_32 : decode cX3_startAnew 32 = .ok (.iconst 2, 1) := by decide +kernel
theorem dX3_startAnew_33 : decode cX3_startAnew 33 = .ok (.if_icmp .ne 33, 3) := by decide +kernel
theorem dX3_startAnew_36 : decode cX3_startAnew 36 = .ok (.aload_n 0, 1) := by decide +kernel
theorem dX3_startAnew_37 : decode cX3_startAnew 37 = .ok (.iload_n 3, 1) := by decide +kernel
theorem dX3_startAnew_38 : decode cX3_startAnew 38 = .ok (.bipush 80, 2) := by decide +kernel
theorem dX3_startAnew_40 : decode cX3_startAnew 40 = .ok (.iload_n 3, 1) := by decide +kernel
theorem dX3_startAnew_41 : decode cX3_startAnew 41 = .ok (.iconst 1, 1) := by decide +kernel
theorem dX3_startAnew_42 : decode cX3_startAnew 42 = .ok (.isub, 1) := by decide +kernel
theorem dX3_startAnew_43 : decode cX3_startAnew 43 = .ok (.iconst 2, 1) := by decide +kernel
theorem dX3_startAnew_44 : decode cX3_startAnew 44 = .ok (.idiv, 1) := by decide +kernel
theorem dX3_startAnew_45 : decode cX3_startAnew 45 = .ok (.invokevirtual 28, 3) := by decide +kernel
theorem dX3_startAnew_48 : decode cX3_startAnew 48 = .ok (.aload_n 0, 1) := by decide +kernel
theorem dX3_startAnew_49 : decode cX3_startAnew 49 = .ok (.iload_n 3, 1) := by decide +kernel
theorem dX3_startAnew_50 : decode cX3_startAnew 50 = .ok (.bipush 86, 2) := by decide +kernel
theorem dX3_startAnew_52 : decode cX3_startAnew 52 = .ok (.iload_n 3, 1) := by decide +kernel
theorem dX3_startAnew_53 : decode cX3_startAnew 53 = .ok (.iconst 1, 1) := by decide +kernel
theorem dX3_startAnew_54 : decode cX3_startAnew 54 = .ok (.isub, 1) := by decide +kernel
theorem dX3_startAnew_55 : decode cX3_startAnew 55 = .ok (.iconst 2, 1) := by decide +kernel
theorem dX3_startAnew_56 : decode cX3_startAnew 56 = .ok (.idiv, 1) := by decide +kernel
theorem dX3_startAnew_57 : decode cX3_startAnew 57 = .ok (.invokevirtual 28, 3) := by decide +kernel
theorem dX3_startAnew_60 : decode cX3_startAnew 60 = .ok (.iinc 3 1, 3) := by decide +kernel
theorem dX3_startAnew_63 : decode cX3_startAnew 63 = .ok (.goto (-43), 3) := by decide +kernel
theorem dX3_startAnew_66 : decode cX3_startAnew 66 = .ok (.return_, 1) := by decide +kernel
theorem dX3_isKeeper_0 : decode cX3_isKeeper 0 = .ok (.iload_n 1, 1) := by decide +kernel
theorem dX3_isKeeper_1 : decode cX3_isKeeper 1 = .ok (.ifCond .lt 15, 3) := by decide +kernel
theorem dX3_isKeeper_4 : decode cX3_isKeeper 4 = .ok (.iload_n 1, 1) := by decide +kernel
theorem dX3_isKeeper_5 : decode cX3_isKeeper 5 = .ok (.aload_n 0, 1) := by decide +kernel
theorem dX3_isKeeper_6 : decode cX3_isKeeper 6 = .ok (.getfield 19, 3) := by decide +kernel
theorem dX3_isKeeper_9 : decode cX3_isKeeper 9 = .ok (.if_icmp .ge 7, 3) := by decide +kernel
theorem dX3_isKeeper_12 : decode cX3_isKeeper 12 = .ok (.iconst 1, 1) := by decide +kernel
theorem dX3_isKeeper_13 : decode cX3_isKeeper 13 = .ok (.goto 4, 3) := by decide +kernel
theorem dX3_isKeeper_16 : decode cX3_isKeeper 16 = .ok (.iconst 0, 1) := by decide +kernel
theorem dX3_isKeeper_17 : decode cX3_isKeeper 17 = .ok (.ireturn, 1) := by decide +kernel
theorem dX3_isPair_0 : decode cX3_isPair 0 = .ok (.aload_n 0, 1) := by decide +kernel
theorem dX3_isPair_1 : decode cX3_isPair 1 = .ok (.iload_n 1, 1) := by decide +kernel
theorem dX3_isPair_2 : decode cX3_isPair 2 = .ok (.invokevirtual 32, 3) := by decide +kernel
theorem dX3_isPair_5 : decode cX3_isPair 5 = .ok (.ifCond .eq 20, 3) := by decide +kernel
theorem dX3_isPair_8 : decode cX3_isPair 8 = .ok (.aload_n 0, 1) := by decide +kernel
theorem dX3_isPair_9 : decode cX3_isPair 9 = .ok (.iload_n 2, 1) := by decide +kernel
theorem dX3_isPair_10 : decode cX3_isPair 10 = .ok (.invokevirtual 32, 3) := by decide +kernel
theorem dX3_isPair_13 : decode cX3_isPair 13 = .ok (.ifCond .eq 12, 3) := by decide +kernel
theorem dX3_isPair_16 : decode cX3_isPair 16 = .ok (.iload_n 1, 1) := by decide +kernel
theorem dX3_isPair_17 : decode cX3_isPair 17 = .ok (.iload_n 2, 1) := by decide +kernel
theorem dX3_isPair_18 : decode cX3_isPair 18 = .ok (.if_icmp .eq 7, 3) := by decide +kernel
theorem dX3_isPair_21 : decode cX3_isPair 21 = .ok (.iconst 1, 1) := by decide +kernel
theorem dX3_isPair_22 : decode cX3_isPair 22 = .ok (.goto 4, 3) := by decide +kernel
theorem dX3_isPair_25 : decode cX3_isPair 25 = .ok (.iconst 0, 1) := by decide +kernel
theorem dX3_isPair_26 : decode cX3_isPair 26 = .ok (.ireturn, 1) := by decide +kernel
theorem dX3_get_0 : decode cX3_get 0 = .ok (.iload_n 1, 1) := by decide +kernel
theorem dX3_get_1 : decode cX3_get 1 = .ok (.ifCond .lt 21, 3) := by decide +kernel
theorem dX3_get_4 : decode cX3_get 4 = .ok (.iload_n 1, 1) := by decide +kernel
theorem dX3_get_5 : decode cX3_get 5 = .ok (.aload_n 0, 1) := by decide +kernel
theorem dX3_get_6 : decode cX3_get 6 = .ok (.getfield 11, 3) := by decide +kernel
theorem dX3_get_9 : decode cX3_get 9 = .ok (.arraylength, 1) := by decide +kernel
theorem dX3_get_10 : decode cX3_get 10 = .ok (.if_icmp .ge 12, 3) := by decide +kernel
theorem dX3_get_13 : decode cX3_get 13 = .ok (.aload_n 0, 1) := by decide +kernel
theorem dX3_get_14 : decode cX3_get 14 = .ok (.getfield 11, 3) := by decide +kernel
theorem dX3_get_17 : decode cX3_get 17 = .ok (.iload_n 1, 1) := by decide +kernel
theorem dX3_get_18 : decode cX3_get 18 = .ok (.iaload, 1) := by decide +kernel
theorem dX3_get_19 : decode cX3_get 19 = .ok (.goto 4, 3) := by decide +kernel
theorem dX3_get_22 : decode cX3_get 22 = .ok (.iconst 0, 1) := by decide +kernel
theorem dX3_get_23 : decode cX3_get 23 = .ok (.ireturn, 1) := by decide +kernel
theorem dX3_put_0 : decode cX3_put 0 = .ok (.iload_n 1, 1) := by decide +kernel
theorem dX3_put_1 : decode cX3_put 1 = .ok (.ifCond .lt 19, 3) := by decide +kernel
theorem dX3_put_4 : decode cX3_put 4 = .ok (.iload_n 1, 1) := by decide +kernel
theorem dX3_put_5 : decode cX3_put 5 = .ok (.aload_n 0, 1) := by decide +kernel
theorem dX3_put_6 : decode cX3_put 6 = .ok (.getfield 11, 3) := by decide +kernel
theorem dX3_put_9 : decode cX3_put 9 = .ok (.arraylength, 1) := by decide +kernel
theorem dX3_put_10 : decode cX3_put 10 = .ok (.if_icmp .ge 10, 3) := by decide +kernel
theorem dX3_put_13 : decode cX3_put 13 = .ok (.aload_n 0, 1) := by decide +kernel
theorem dX3_put_14 : decode cX3_put 14 = .ok (.getfield 11, 3) := by decide +kernel
theorem dX3_put_17 : decode cX3_put 17 = .ok (.iload_n 1, 1) := by decide +kernel
theorem dX3_put_18 : decode cX3_put 18 = .ok (.iload_n 2, 1) := by decide +kernel
theorem dX3_put_19 : decode cX3_put 19 = .ok (.iastore, 1) := by decide +kernel
theorem dX3_put_20 : decode cX3_put 20 = .ok (.return_, 1) := by decide +kernel
theorem dX3_of_0 : decode cX3_of 0 = .ok (.aload_n 0, 1) := by decide +kernel
theorem dX3_of_1 : decode cX3_of 1 = .ok (.iload_n 2, 1) := by decide +kernel
theorem dX3_of_2 : decode cX3_of 2 = .ok (.iload_n 1, 1) := by decide +kernel
theorem dX3_of_3 : decode cX3_of 3 = .ok (.iadd, 1) := by decide +kernel
theorem dX3_of_4 : decode cX3_of 4 = .ok (.invokevirtual 36, 3) := by decide +kernel
theorem dX3_of_7 : decode cX3_of 7 = .ok (.ireturn, 1) := by decide +kernel
theorem dX3_set_0 : decode cX3_set 0 = .ok (.aload_n 0, 1) := by decide +kernel
theorem dX3_set_1 : decode cX3_set 1 = .ok (.iload_n 2, 1) := by decide +kernel
theorem dX3_set_2 : decode cX3_set 2 = .ok (.iload_n 1, 1) := by decide +kernel
theorem dX3_set_3 : decode cX3_set 3 = .ok (.iadd, 1) := by decide +kernel
theorem dX3_set_4 : decode cX3_set 4 = .ok (.iload_n 3, 1) := by decide +kernel
theorem dX3_set_5 : decode cX3_set 5 = .ok (.invokevirtual 40, 3) := by decide +kernel
theorem dX3_set_8 : decode cX3_set 8 = .ok (.return_, 1) := by decide +kernel
theorem dX3_known_0 : decode cX3_known 0 = .ok (.aload_n 0, 1) := by decide +kernel
theorem dX3_known_1 : decode cX3_known 1 = .ok (.bipush 44, 2) := by decide +kernel
theorem dX3_known_3 : decode cX3_known 3 = .ok (.iload_n 1, 1) := by decide +kernel
theorem dX3_known_4 : decode cX3_known 4 = .ok (.bipush 6, 2) := by decide +kernel
theorem dX3_known_6 : decode cX3_known 6 = .ok (.imul, 1) := by decide +kernel
theorem dX3_known_7 : decode cX3_known 7 = .ok (.iadd, 1) := by decide +kernel
theorem dX3_known_8 : decode cX3_known 8 = .ok (.iload_n 2, 1) := by decide +kernel
theorem dX3_known_9 : decode cX3_known 9 = .ok (.iadd, 1) := by decide +kernel
theorem dX3_known_10 : decode cX3_known 10 = .ok (.invokevirtual 36, 3) := by decide +kernel
theorem dX3_known_13 : decode cX3_known 13 = .ok (.ireturn, 1) := by decide +kernel
theorem dX3_setKnown_0 : decode cX3_setKnown 0 = .ok (.aload_n 0, 1) := by decide +kernel
theorem dX3_setKnown_1 : decode cX3_setKnown 1 = .ok (.bipush 44, 2) := by decide +kernel
theorem dX3_setKnown_3 : decode cX3_setKnown 3 = .ok (.iload_n 1, 1) := by decide +kernel
theorem dX3_setKnown_4 : decode cX3_setKnown 4 = .ok (.bipush 6, 2) := by decide +kernel
theorem dX3_setKnown_6 : decode cX3_setKnown 6 = .ok (.imul, 1) := by decide +kernel
theorem dX3_setKnown_7 : decode cX3_setKnown 7 = .ok (.iadd, 1) := by decide +kernel
theorem dX3_setKnown_8 : decode cX3_setKnown 8 = .ok (.iload_n 2, 1) := by decide +kernel
theorem dX3_setKnown_9 : decode cX3_setKnown 9 = .ok (.iadd, 1) := by decide +kernel
theorem dX3_setKnown_10 : decode cX3_setKnown 10 = .ok (.iload_n 3, 1) := by decide +kernel
theorem dX3_setKnown_11 : decode cX3_setKnown 11 = .ok (.invokevirtual 40, 3) := by decide +kernel
theorem dX3_setKnown_14 : decode cX3_setKnown 14 = .ok (.return_, 1) := by decide +kernel
theorem dX3_queueOf_0 : decode cX3_queueOf 0 = .ok (.bipush 98, 2) := by decide +kernel
theorem dX3_queueOf_2 : decode cX3_queueOf 2 = .ok (.iload_n 0, 1) := by decide +kernel
theorem dX3_queueOf_3 : decode cX3_queueOf 3 = .ok (.bipush 7, 2) := by decide +kernel
theorem dX3_queueOf_5 : decode cX3_queueOf 5 = .ok (.imul, 1) := by decide +kernel
theorem dX3_queueOf_6 : decode cX3_queueOf 6 = .ok (.iadd, 1) := by decide +kernel
theorem dX3_queueOf_7 : decode cX3_queueOf 7 = .ok (.ireturn, 1) := by decide +kernel
theorem dX3_wayFrom_0 : decode cX3_wayFrom 0 = .ok (.aload_n 0, 1) := by decide +kernel
theorem dX3_wayFrom_1 : decode cX3_wayFrom 1 = .ok (.getfield 15, 3) := by decide +kernel
theorem dX3_wayFrom_4 : decode cX3_wayFrom 4 = .ok (.ifCond .ne 8, 3) := by decide +kernel
theorem dX3_wayFrom_7 : decode cX3_wayFrom 7 = .ok (.bipush 6, 2) := by decide +kernel
theorem dX3_wayFrom_9 : decode cX3_wayFrom 9 = .ok (.goto 18, 3) := by decide +kernel
theorem dX3_wayFrom_12 : decode cX3_wayFrom 12 = .ok (.aload_n 0, 1) := by decide +kernel
theorem dX3_wayFrom_13 : decode cX3_wayFrom 13 = .ok (.getfield 15, 3) := by decide +kernel
theorem dX3_wayFrom_16 : decode cX3_wayFrom 16 = .ok (.iconst 1, 1) := by decide +kernel
theorem dX3_wayFrom_17 : decode cX3_wayFrom 17 = .ok (.if_icmp .ne 8, 3) := by decide +kernel
theorem dX3_wayFrom_20 : decode cX3_wayFrom 20 = .ok (.bipush 30, 2) := by decide +kernel
theorem dX3_wayFrom_22 : decode cX3_wayFrom 22 = .ok (.goto 5, 3) := by decide +kernel
theorem dX3_wayFrom_25 : decode cX3_wayFrom 25 = .ok (.bipush 80, 2) := by decide +kernel
theorem dX3_wayFrom_27 : decode cX3_wayFrom 27 = .ok (.ireturn, 1) := by decide +kernel
theorem dX3_wayTo_0 : decode cX3_wayTo 0 = .ok (.aload_n 0, 1) := by decide +kernel
theorem dX3_wayTo_1 : decode cX3_wayTo 1 = .ok (.getfield 15, 3) := by decide +kernel
theorem dX3_wayTo_4 : decode cX3_wayTo 4 = .ok (.ifCond .ne 8, 3) := by decide +kernel
theorem dX3_wayTo_7 : decode cX3_wayTo 7 = .ok (.bipush 30, 2) := by decide +kernel
theorem dX3_wayTo_9 : decode cX3_wayTo 9 = .ok (.goto 19, 3) := by decide +kernel
theorem dX3_wayTo_12 : decode cX3_wayTo 12 = .ok (.aload_n 0, 1) := by decide +kernel
theorem dX3_wayTo_13 : decode cX3_wayTo 13 = .ok (.getfield 15, 3) := by decide +kernel
theorem dX3_wayTo_16 : decode cX3_wayTo 16 = .ok (.iconst 1, 1) := by decide +kernel
theorem dX3_wayTo_17 : decode cX3_wayTo 17 = .ok (.if_icmp .ne 8, 3) := by decide +kernel
theorem dX3_wayTo_20 : decode cX3_wayTo 20 = .ok (.bipush 80, 2) := by decide +kernel
theorem dX3_wayTo_22 : decode cX3_wayTo 22 = .ok (.goto 6, 3) := by decide +kernel
theorem dX3_wayTo_25 : decode cX3_wayTo 25 = .ok (.sipush 140, 3) := by decide +kernel
theorem dX3_wayTo_28 : decode cX3_wayTo 28 = .ok (.ireturn, 1) := by decide +kernel
theorem dX3_append_0 : decode cX3_append 0 = .ok (.iload_n 1, 1) := by decide +kernel
theorem dX3_append_1 : decode cX3_append 1 = .ok (.ifCond .lt 14, 3) := by decide +kernel
theorem dX3_append_4 : decode cX3_append 4 = .ok (.iload_n 1, 1) := by decide +kernel
theorem dX3_append_5 : decode cX3_append 5 = .ok (.iload_n 2, 1) := by decide +kernel
theorem dX3_append_6 : decode cX3_append 6 = .ok (.iadd, 1) := by decide +kernel
theorem dX3_append_7 : decode cX3_append 7 = .ok (.aload_n 0, 1) := by decide +kernel
theorem dX3_append_8 : decode cX3_append 8 = .ok (.getfield 11, 3) := by decide +kernel
theorem dX3_append_11 : decode cX3_append 11 = .ok (.arraylength, 1) := by decide +kernel
theorem dX3_append_12 : decode cX3_append 12 = .ok (.if_icmp .lt 5, 3) := by decide +kernel
theorem dX3_append_15 : decode cX3_append 15 = .ok (.iconst 0, 1) := by decide +kernel
theorem dX3_append_16 : decode cX3_append 16 = .ok (.ireturn, 1) := by decide +kernel
theorem dX3_append_17 : decode cX3_append 17 = .ok (.aload_n 0, 1) := by decide +kernel
theorem dX3_append_18 : decode cX3_append 18 = .ok (.getfield 11, 3) := by decide +kernel
theorem dX3_append_21 : decode cX3_append 21 = .ok (.iload_n 1, 1) := by decide +kernel
theorem dX3_append_22 : decode cX3_append 22 = .ok (.iaload, 1) := by decide +kernel
theorem dX3_append_23 : decode cX3_append 23 = .ok (.istore 4, 2) := by decide +kernel
theorem dX3_append_25 : decode cX3_append 25 = .ok (.iload 4, 2) := by decide +kernel
theorem dX3_append_27 : decode cX3_append 27 = .ok (.ifCond .lt 9, 3) := by decide +kernel
theorem dX3_append_30 : decode cX3_append 30 = .ok (.iload 4, 2) := by decide +kernel
theorem dX3_append_32 : decode cX3_append 32 = .ok (.iload_n 2, 1) := by decide +kernel
theorem dX3_append_33 : decode cX3_append 33 = .ok (.if_icmp .lt 5, 3) := by decide +kernel
theorem dX3_append_36 : decode cX3_append 36 = .ok (.iconst 0, 1) := by decide +kernel
theorem dX3_append_37 : decode cX3_append 37 = .ok (.ireturn, 1) := by decide +kernel
theorem dX3_append_38 : decode cX3_append 38 = .ok (.aload_n 0, 1) := by decide +kernel
theorem dX3_append_39 : decode cX3_append 39 = .ok (.getfield 11, 3) := by decide +kernel
theorem dX3_append_42 : decode cX3_append 42 = .ok (.iload_n 1, 1) := by decide +kernel
theorem dX3_append_43 : decode cX3_append 43 = .ok (.iconst 1, 1) := by decide +kernel
theorem dX3_append_44 : decode cX3_append 44 = .ok (.iadd, 1) := by decide +kernel
theorem dX3_append_45 : decode cX3_append 45 = .ok (.iload 4, 2) := by decide +kernel
theorem dX3_append_47 : decode cX3_append 47 = .ok (.iadd, 1) := by decide +kernel
theorem dX3_append_48 : decode cX3_append 48 = .ok (.iload_n 3, 1) := by decide +kernel
theorem dX3_append_49 : decode cX3_append 49 = .ok (.iastore, 1) := by decide +kernel
theorem dX3_append_50 : decode cX3_append 50 = .ok (.aload_n 0, 1) := by decide +kernel
theorem dX3_append_51 : decode cX3_append 51 = .ok (.getfield 11, 3) := by decide +kernel
theorem dX3_append_54 : decode cX3_append 54 = .ok (.iload_n 1, 1) := by decide +kernel
theorem dX3_append_55 : decode cX3_append 55 = .ok (.iload 4, 2) := by decide +kernel
theorem dX3_append_57 : decode cX3_append 57 = .ok (.iconst 1, 1) := by decide +kernel
theorem dX3_append_58 : decode cX3_append 58 = .ok (.iadd, 1) := by decide +kernel
theorem dX3_append_59 : decode cX3_append 59 = .ok (.iastore, 1) := by decide +kernel
theorem dX3_append_60 : decode cX3_append 60 = .ok (.iconst 1, 1) := by decide +kernel
theorem dX3_append_61 : decode cX3_append 61 = .ok (.ireturn, 1) := by decide +kernel
theorem dX3_takeFirst_0 : decode cX3_takeFirst 0 = .ok (.aload_n 0, 1) := by decide +kernel
theorem dX3_takeFirst_1 : decode cX3_takeFirst 1 = .ok (.iload_n 1, 1) := by decide +kernel
theorem dX3_takeFirst_2 : decode cX3_takeFirst 2 = .ok (.invokevirtual 36, 3) := by decide +kernel
theorem dX3_takeFirst_5 : decode cX3_takeFirst 5 = .ok (.istore_n 3, 1) := by decide +kernel
theorem dX3_takeFirst_6 : decode cX3_takeFirst 6 = .ok (.aload_n 0, 1) := by decide +kernel
theorem dX3_takeFirst_7 : decode cX3_takeFirst 7 = .ok (.iload_n 1, 1) := by decide +kernel
theorem dX3_takeFirst_8 : decode cX3_takeFirst 8 = .ok (.iconst 1, 1) := by decide +kernel
theorem dX3_takeFirst_9 : decode cX3_takeFirst 9 = .ok (.iadd, 1) := by decide +kernel
theorem dX3_takeFirst_10 : decode cX3_takeFirst 10 = .ok (.invokevirtual 36, 3) := by decide +kernel
theorem dX3_takeFirst_13 : decode cX3_takeFirst 13 = .ok (.istore 4, 2) := by decide +kernel
theorem dX3_takeFirst_15 : decode cX3_takeFirst 15 = .ok (.iload_n 3, 1) := by decide +kernel
theorem dX3_takeFirst_16 : decode cX3_takeFirst 16 = .ok (.iconst 1, 1) := by decide +kernel
theorem dX3_takeFirst_17 : decode cX3_takeFirst 17 = .ok (.if_icmp .lt 8, 3) := by decide +kernel
theorem dX3_takeFirst_20 : decode cX3_takeFirst 20 = .ok (.iload_n 3, 1) := by decide +kernel
theorem dX3_takeFirst_21 : decode cX3_takeFirst 21 = .ok (.iload_n 2, 1) := by decide +kernel
theorem dX3_takeFirst_22 : decode cX3_takeFirst 22 = .ok (.if_icmp .le 6, 3) := by decide +kernel
theorem dX3_takeFirst_25 : decode cX3_takeFirst 25 = .ok (.iload 4, 2) := by decide +kernel
theorem dX3_takeFirst_27 : decode cX3_takeFirst 27 = .ok (.ireturn, 1) := by decide +kernel
theorem dX3_takeFirst_28 : decode cX3_takeFirst 28 = .ok (.iconst 1, 1) := by decide +kernel
theorem dX3_takeFirst_29 : decode cX3_takeFirst 29 = .ok (.istore 5, 2) := by decide +kernel
theorem dX3_takeFirst_31 : decode cX3_takeFirst 31 = .ok (.iload 5, 2) := by decide +kernel
theorem dX3_takeFirst_33 : decode cX3_takeFirst 33 = .ok (.iload_n 3, 1) := by decide +kernel
theorem dX3_takeFirst_34 : decode cX3_takeFirst 34 = .ok (.if_icmp .ge 27, 3) := by decide +kernel
theorem dX3_takeFirst_37 : decode cX3_takeFirst 37 = .ok (.aload_n 0, 1) := by decide +kernel
theorem dX3_takeFirst_38 : decode cX3_takeFirst 38 = .ok (.iload_n 1, 1) := by decide +kernel
theorem dX3_takeFirst_39 : decode cX3_takeFirst 39 = .ok (.iload 5, 2) := by decide +kernel
theorem dX3_takeFirst_41 : decode cX3_takeFirst 41 = .ok (.iadd, 1) := by decide +kernel
theorem dX3_takeFirst_42 : decode cX3_takeFirst 42 = .ok (.aload_n 0, 1) := by decide +kernel
theorem dX3_takeFirst_43 : decode cX3_takeFirst 43 = .ok (.iload_n 1, 1) := by decide +kernel
theorem dX3_takeFirst_44 : decode cX3_takeFirst 44 = .ok (.iload 5, 2) := by decide +kernel
theorem dX3_takeFirst_46 : decode cX3_takeFirst 46 = .ok (.iadd, 1) := by decide +kernel
theorem dX3_takeFirst_47 : decode cX3_takeFirst 47 = .ok (.iconst 1, 1) := by decide +kernel
theorem dX3_takeFirst_48 : decode cX3_takeFirst 48 = .ok (.iadd, 1) := by decide +kernel
theorem dX3_takeFirst_49 : decode cX3_takeFirst 49 = .ok (.invokevirtual 36, 3) := by decide +kernel
theorem dX3_takeFirst_52 : decode cX3_takeFirst 52 = .ok (.invokevirtual 40, 3) := by decide +kernel
theorem dX3_takeFirst_55 : decode cX3_takeFirst 55 = .ok (.iinc 5 1, 3) := by decide +kernel
theorem dX3_takeFirst_58 : decode cX3_takeFirst 58 = .ok (.goto (-27), 3) := by decide +kernel
theorem dX3_takeFirst_61 : decode cX3_takeFirst 61 = .ok (.aload_n 0, 1) := by decide +kernel
theorem dX3_takeFirst_62 : decode cX3_takeFirst 62 = .ok (.iload_n 1, 1) := by decide +kernel
theorem dX3_takeFirst_63 : decode cX3_takeFirst 63 = .ok (.iload_n 3, 1) := by decide +kernel
theorem dX3_takeFirst_64 : decode cX3_takeFirst 64 = .ok (.iadd, 1) := by decide +kernel
theorem dX3_takeFirst_65 : decode cX3_takeFirst 65 = .ok (.iconst 0, 1) := by decide +kernel
theorem dX3_takeFirst_66 : decode cX3_takeFirst 66 = .ok (.invokevirtual 40, 3) := by decide +kernel
theorem dX3_takeFirst_69 : decode cX3_takeFirst 69 = .ok (.aload_n 0, 1) := by decide +kernel
theorem dX3_takeFirst_70 : decode cX3_takeFirst 70 = .ok (.iload_n 1, 1) := by decide +kernel
theorem dX3_takeFirst_71 : decode cX3_takeFirst 71 = .ok (.iload_n 3, 1) := by decide +kernel
theorem dX3_takeFirst_72 : decode cX3_takeFirst 72 = .ok (.iconst 1, 1) := by decide +kernel
theorem dX3_takeFirst_73 : decode cX3_takeFirst 73 = .ok (.isub, 1) := by decide +kernel
theorem dX3_takeFirst_74 : decode cX3_takeFirst 74 = .ok (.invokevirtual 40, 3) := by decide +kernel
theorem dX3_takeFirst_77 : decode cX3_takeFirst 77 = .ok (.iload 4, 2) := by decide +kernel
theorem dX3_takeFirst_79 : decode cX3_takeFirst 79 = .ok (.ireturn, 1) := by decide +kernel
theorem dX3_rowHas_0 : decode cX3_rowHas 0 = .ok (.aload_n 0, 1) := by decide +kernel
theorem dX3_rowHas_1 : decode cX3_rowHas 1 = .ok (.bipush 37, 2) := by decide +kernel
theorem dX3_rowHas_3 : decode cX3_rowHas 3 = .ok (.invokevirtual 36, 3) := by decide +kernel
theorem dX3_rowHas_6 : decode cX3_rowHas 6 = .ok (.istore_n 2, 1) := by decide +kernel
theorem dX3_rowHas_7 : decode cX3_rowHas 7 = .ok (.iconst 0, 1) := by decide +kernel
theorem dX3_rowHas_8 : decode cX3_rowHas 8 = .ok (.istore_n 3, 1) := by decide +kernel
theorem dX3_rowHas_9 : decode cX3_rowHas 9 = .ok (.iload_n 3, 1) := by decide +kernel
theorem dX3_rowHas_10 : decode cX3_rowHas 10 = .ok (.iload_n 2, 1) := by decide +kernel
theorem dX3_rowHas_11 : decode cX3_rowHas 11 = .ok (.if_icmp .ge 29, 3) := by decide +kernel
theorem dX3_rowHas_14 : decode cX3_rowHas 14 = .ok (.iload_n 3, 1) := by decide +kernel
theorem dX3_rowHas_15 : decode cX3_rowHas 15 = .ok (.bipush 6, 2) := by decide +kernel
theorem dX3_rowHas_17 : decode cX3_rowHas 17 = .ok (.if_icmp .ge 23, 3) := by decide +kernel
theorem dX3_rowHas_20 : decode cX3_rowHas 20 = .ok (.aload_n 0, 1) := by decide +kernel
theorem dX3_rowHas_21 : decode cX3_rowHas 21 = .ok (.bipush 38, 2) := by decide +kernel
theorem dX3_rowHas_23 : decode cX3_rowHas 23 = .ok (.iload_n 3, 1) := by decide +kernel
theorem dX3_rowHas_24 : decode cX3_rowHas 24 = .ok (.iadd, 1) := by decide +kernel
theorem dX3_rowHas_25 : decode cX3_rowHas 25 = .ok (.invokevirtual 36, 3) := by decide +kernel
theorem dX3_rowHas_28 : decode cX3_rowHas 28 = .ok (.iload_n 1, 1) := by decide +kernel
theorem dX3_rowHas_29 : decode cX3_rowHas 29 = .ok (.if_icmp .ne 5, 3) := by decide +kernel
theorem dX3_rowHas_32 : decode cX3_rowHas 32 = .ok (.iconst 1, 1) := by decide +kernel
theorem dX3_rowHas_33 : decode cX3_rowHas 33 = .ok (.ireturn, 1) := by decide +kernel
theorem dX3_rowHas_34 : decode cX3_rowHas 34 = .ok (.iinc 3 1, 3) := by decide +kernel
theorem dX3_rowHas_37 : decode cX3_rowHas 37 = .ok (.goto (-28), 3) := by decide +kernel
theorem dX3_rowHas_40 : decode cX3_rowHas 40 = .ok (.iconst 0, 1) := by decide +kernel
theorem dX3_rowHas_41 : decode cX3_rowHas 41 = .ok (.ireturn, 1) := by decide +kernel
theorem dX3_lettersOf_0 : decode cX3_lettersOf 0 = .ok (.sipush 140, 3) := by decide +kernel
theorem dX3_lettersOf_3 : decode cX3_lettersOf 3 = .ok (.iload_n 0, 1) := by decide +kernel
theorem dX3_lettersOf_4 : decode cX3_lettersOf 4 = .ok (.bipush 6, 2) := by decide +kernel
theorem dX3_lettersOf_6 : decode cX3_lettersOf 6 = .ok (.imul, 1) := by decide +kernel
theorem dX3_lettersOf_7 : decode cX3_lettersOf 7 = .ok (.iload_n 1, 1) := by decide +kernel
theorem dX3_lettersOf_8 : decode cX3_lettersOf 8 = .ok (.iadd, 1) := by decide +kernel
theorem dX3_lettersOf_9 : decode cX3_lettersOf 9 = .ok (.bipush 13, 2) := by decide +kernel
theorem dX3_lettersOf_11 : decode cX3_lettersOf 11 = .ok (.imul, 1) := by decide +kernel
theorem dX3_lettersOf_12 : decode cX3_lettersOf 12 = .ok (.iadd, 1) := by decide +kernel
theorem dX3_lettersOf_13 : decode cX3_lettersOf 13 = .ok (.ireturn, 1) := by decide +kernel
theorem dX3_underWay_0 : decode cX3_underWay 0 = .ok (.aload_n 0, 1) := by decide +kernel
theorem dX3_underWay_1 : decode cX3_underWay 1 = .ok (.iload_n 1, 1) := by decide +kernel
theorem dX3_underWay_2 : decode cX3_underWay 2 = .ok (.iload_n 2, 1) := by decide +kernel
theorem dX3_underWay_3 : decode cX3_underWay 3 = .ok (.invokestatic 44, 3) := by decide +kernel
theorem dX3_underWay_6 : decode cX3_underWay 6 = .ok (.invokevirtual 36, 3) := by decide +kernel
theorem dX3_underWay_9 : decode cX3_underWay 9 = .ok (.ireturn, 1) := by decide +kernel
theorem dX3_letterAt_0 : decode cX3_letterAt 0 = .ok (.aload_n 0, 1) := by decide +kernel
theorem dX3_letterAt_1 : decode cX3_letterAt 1 = .ok (.iload_n 1, 1) := by decide +kernel
theorem dX3_letterAt_2 : decode cX3_letterAt 2 = .ok (.iload_n 2, 1) := by decide +kernel
theorem dX3_letterAt_3 : decode cX3_letterAt 3 = .ok (.invokestatic 44, 3) := by decide +kernel
theorem dX3_letterAt_6 : decode cX3_letterAt 6 = .ok (.iconst 1, 1) := by decide +kernel
theorem dX3_letterAt_7 : decode cX3_letterAt 7 = .ok (.iadd, 1) := by decide +kernel
theorem dX3_letterAt_8 : decode cX3_letterAt 8 = .ok (.iload_n 3, 1) := by decide +kernel
theorem dX3_letterAt_9 : decode cX3_letterAt 9 = .ok (.iadd, 1) := by decide +kernel
theorem dX3_letterAt_10 : decode cX3_letterAt 10 = .ok (.invokevirtual 36, 3) := by decide +kernel
theorem dX3_letterAt_13 : decode cX3_letterAt 13 = .ok (.ireturn, 1) := by decide +kernel
theorem dX3_send_0 : decode cX3_send 0 = .ok (.aload_n 0, 1) := by decide +kernel
theorem dX3_send_1 : decode cX3_send 1 = .ok (.iload_n 1, 1) := by decide +kernel
theorem dX3_send_2 : decode cX3_send 2 = .ok (.iload_n 2, 1) := by decide +kernel
theorem dX3_send_3 : decode cX3_send 3 = .ok (.invokestatic 44, 3) := by decide +kernel
theorem dX3_send_6 : decode cX3_send 6 = .ok (.bipush 12, 2) := by decide +kernel
theorem dX3_send_8 : decode cX3_send 8 = .ok (.iload 4, 2) := by decide +kernel
theorem dX3_send_10 : decode cX3_send 10 = .ok (.iconst 2, 1) := by decide +kernel
theorem dX3_send_11 : decode cX3_send 11 = .ok (.ishl, 1) := by decide +kernel
theorem dX3_send_12 : decode cX3_send 12 = .ok (.iload_n 3, 1) := by decide +kernel
theorem dX3_send_13 : decode cX3_send 13 = .ok (.ior, 1) := by decide +kernel
theorem dX3_send_14 : decode cX3_send 14 = .ok (.invokevirtual 48, 3) := by decide +kernel
theorem dX3_send_17 : decode cX3_send 17 = .ok (.ifCond .ne 8, 3) := by decide +kernel
theorem dX3_send_20 : decode cX3_send 20 = .ok (.aload_n 0, 1) := by decide +kernel
theorem dX3_send_21 : decode cX3_send 21 = .ok (.iconst 1, 1) := by decide +kernel
theorem dX3_send_22 : decode cX3_send 22 = .ok (.putfield 52, 3) := by decide +kernel
theorem dX3_send_25 : decode cX3_send 25 = .ok (.aload_n 0, 1) := by decide +kernel
theorem dX3_send_26 : decode cX3_send 26 = .ok (.sipush 608, 3) := by decide +kernel
theorem dX3_send_29 : decode cX3_send 29 = .ok (.iload_n 3, 1) := by decide +kernel
theorem dX3_send_30 : decode cX3_send 30 = .ok (.iadd, 1) := by decide +kernel
theorem dX3_send_31 : decode cX3_send 31 = .ok (.aload_n 0, 1) := by decide +kernel
theorem dX3_send_32 : decode cX3_send 32 = .ok (.sipush 608, 3) := by decide +kernel
theorem dX3_send_35 : decode cX3_send 35 = .ok (.iload_n 3, 1) := by decide +kernel
theorem dX3_send_36 : decode cX3_send 36 = .ok (.iadd, 1) := by decide +kernel
theorem dX3_send_37 : decode cX3_send 37 = .ok (.invokevirtual 36, 3) := by decide +kernel
theorem dX3_send_40 : decode cX3_send 40 = .ok (.iconst 1, 1) := by decide +kernel
theorem dX3_send_41 : decode cX3_send 41 = .ok (.iadd, 1) := by decide +kernel
theorem dX3_send_42 : decode cX3_send 42 = .ok (.invokevirtual 40, 3) := by decide +kernel
theorem dX3_send_45 : decode cX3_send 45 = .ok (.return_, 1) := by decide +kernel
theorem dX3_sendToOthers_0 : decode cX3_sendToOthers 0 = .ok (.iconst 0, 1) := by decide +kernel
theorem dX3_sendToOthers_1 : decode cX3_sendToOthers 1 = .ok (.istore 4, 2) := by decide +kernel
theorem dX3_sendToOthers_3 : decode cX3_sendToOthers 3 = .ok (.iload 4, 2) := by decide +kernel
theorem dX3_sendToOthers_5 : decode cX3_sendToOthers 5 = .ok (.aload_n 0, 1) := by decide +kernel
theorem dX3_sendToOthers_6 : decode cX3_sendToOthers 6 = .ok (.getfield 19, 3) := by decide +kernel
theorem dX3_sendToOthers_9 : decode cX3_sendToOthers 9 = .ok (.if_icmp .ge 24, 3) := by decide +kernel
theorem dX3_sendToOthers_12 : decode cX3_sendToOthers 12 = .ok (.iload 4, 2) := by decide +kernel
theorem dX3_sendToOthers_14 : decode cX3_sendToOthers 14 = .ok (.iload_n 1, 1) := by decide +kernel
theorem dX3_sendToOthers_15 : decode cX3_sendToOthers 15 = .ok (.if_icmp .eq 12, 3) := by decide +kernel
theorem dX3_sendToOthers_18 : decode cX3_sendToOthers 18 = .ok (.aload_n 0, 1) := by decide +kernel
theorem dX3_sendToOthers_19 : decode cX3_sendToOthers 19 = .ok (.iload_n 1, 1) := by decide +kernel
theorem dX3_sendToOthers_20 : decode cX3_sendToOthers 20 = .ok (.iload 4, 2) := by decide +kernel
theorem dX3_sendToOthers_22 : decode cX3_sendToOthers 22 = .ok (.iload_n 2, 1) := by decide +kernel
theorem dX3_sendToOthers_23 : decode cX3_sendToOthers 23 = .ok (.iload_n 3, 1) := by decide +kernel
theorem dX3_sendToOthers_24 : decode cX3_sendToOthers 24 = .ok (.invokevirtual 56, 3) := by decide +kernel
theorem dX3_sendToOthers_27 : decode cX3_sendToOthers 27 = .ok (.iinc 4 1, 3) := by decide +kernel
theorem dX3_sendToOthers_30 : decode cX3_sendToOthers 30 = .ok (.goto (-27), 3) := by decide +kernel
theorem dX3_sendToOthers_33 : decode cX3_sendToOthers 33 = .ok (.return_, 1) := by decide +kernel
theorem dX3_takeLetter_0 : decode cX3_takeLetter 0 = .ok (.aload_n 0, 1) := by decide +kernel
theorem dX3_takeLetter_1 : decode cX3_takeLetter 1 = .ok (.iload_n 1, 1) := by decide +kernel
theorem dX3_takeLetter_2 : decode cX3_takeLetter 2 = .ok (.iload_n 2, 1) := by decide +kernel
theorem dX3_takeLetter_3 : decode cX3_takeLetter 3 = .ok (.invokestatic 44, 3) := by decide +kernel
theorem dX3_takeLetter_6 : decode cX3_takeLetter 6 = .ok (.bipush 12, 2) := by decide +kernel
theorem dX3_takeLetter_8 : decode cX3_takeLetter 8 = .ok (.invokevirtual 60, 3) := by decide +kernel
theorem dX3_takeLetter_11 : decode cX3_takeLetter 11 = .ok (.ireturn, 1) := by decide +kernel
theorem dX3_sentInAll_0 : decode cX3_sentInAll 0 = .ok (.aload_n 0, 1) := by decide +kernel
theorem dX3_sentInAll_1 : decode cX3_sentInAll 1 = .ok (.sipush 608, 3) := by decide +kernel
theorem dX3_sentInAll_4 : decode cX3_sentInAll 4 = .ok (.invokevirtual 36, 3) := by decide +kernel
theorem dX3_sentInAll_7 : decode cX3_sentInAll 7 = .ok (.aload_n 0, 1) := by decide +kernel
theorem dX3_sentInAll_8 : decode cX3_sentInAll 8 = .ok (.sipush 609, 3) := by decide +kernel
theorem dX3_sentInAll_11 : decode cX3_sentInAll 11 = .ok (.invokevirtual 36, 3) := by decide +kernel
theorem dX3_sentInAll_14 : decode cX3_sentInAll 14 = .ok (.iadd, 1) := by decide +kernel
theorem dX3_sentInAll_15 : decode cX3_sentInAll 15 = .ok (.aload_n 0, 1) := by decide +kernel
theorem dX3_sentInAll_16 : decode cX3_sentInAll 16 = .ok (.sipush 610, 3) := by decide +kernel
theorem dX3_sentInAll_19 : decode cX3_sentInAll 19 = .ok (.invokevirtual 36, 3) := by decide +kernel
theorem dX3_sentInAll_22 : decode cX3_sentInAll 22 = .ok (.iadd, 1) := by decide +kernel
theorem dX3_sentInAll_23 : decode cX3_sentInAll 23 = .ok (.ireturn, 1) := by decide +kernel
theorem dX3_underWayInAll_0 : decode cX3_underWayInAll 0 = .ok (.iconst 0, 1) := by decide +kernel
theorem dX3_underWayInAll_1 : decode cX3_underWayInAll 1 = .ok (.istore_n 1, 1) := by decide +kernel
theorem dX3_underWayInAll_2 : decode cX3_underWayInAll 2 = .ok (.iconst 0, 1) := by decide +kernel
theorem dX3_underWayInAll_3 : decode cX3_underWayInAll 3 = .ok (.istore_n 2, 1) := by decide +kernel
theorem dX3_underWayInAll_4 : decode cX3_underWayInAll 4 = .ok (.iload_n 2, 1) := by decide +kernel
theorem dX3_underWayInAll_5 : decode cX3_underWayInAll 5 = .ok (.aload_n 0, 1) := by decide +kernel
theorem dX3_underWayInAll_6 : decode cX3_underWayInAll 6 = .ok (.getfield 19, 3) := by decide +kernel
theorem dX3_underWayInAll_9 : decode cX3_underWayInAll 9 = .ok (.if_icmp .ge 34, 3) := by decide +kernel
theorem dX3_underWayInAll_12 : decode cX3_underWayInAll 12 = .ok (.iconst 0, 1) := by decide +kernel
theorem dX3_underWayInAll_13 : decode cX3_underWayInAll 13 = .ok (.istore_n 3, 1) := by decide +kernel
theorem dX3_underWayInAll_14 : decode cX3_underWayInAll 14 = .ok (.iload_n 3, 1) := by decide +kernel
theorem dX3_underWayInAll_15 : decode cX3_underWayInAll 15 = .ok (.aload_n 0, 1) := by decide +kernel
theorem dX3_underWayInAll_16 : decode cX3_underWayInAll 16 = .ok (.getfield 19, 3) := by decide +kernel
theorem dX3_underWayInAll_19 : decode cX3_underWayInAll 19 = .ok (.if_icmp .ge 18, 3) := by decide +kernel
theorem dX3_underWayInAll_22 : decode cX3_underWayInAll 22 = .ok (.iload_n 1, 1) := by decide +kernel
theorem dX3_underWayInAll_23 : decode cX3_underWayInAll 23 = .ok (.aload_n 0, 1) := by decide +kernel
theorem dX3_underWayInAll_24 : decode cX3_underWayInAll 24 = .ok (.iload_n 2, 1) := by decide +kernel
theorem dX3_underWayInAll_25 : decode cX3_underWayInAll 25 = .ok (.iload_n 3, 1) := by decide +kernel
theorem dX3_underWayInAll_26 : decode cX3_underWayInAll 26 = .ok (.invokevirtual 63, 3) := by decide +kernel
theorem dX3_underWayInAll_29 : decode cX3_underWayInAll 29 = .ok (.iadd, 1) := by decide +kernel
theorem dX3_underWayInAll_30 : decode cX3_underWayInAll 30 = .ok (.istore_n 1, 1) := by decide +kernel
theorem dX3_underWayInAll_31 : decode cX3_underWayInAll 31 = .ok (.iinc 3 1, 3) := by decide +kernel
theorem dX3_underWayInAll_34 : decode cX3_underWayInAll 34 = .ok (.goto (-20), 3) := by decide +kernel
theorem dX3_underWayInAll_37 : decode cX3_underWayInAll 37 = .ok (.iinc 2 1, 3) := by decide +kernel
theorem dX3_underWayInAll_40 : decode cX3_underWayInAll 40 = .ok (.goto (-36), 3) := by decide +kernel
theorem dX3_underWayInAll_43 : decode cX3_underWayInAll 43 = .ok (.iload_n 1, 1) := by decide +kernel
theorem dX3_underWayInAll_44 : decode cX3_underWayInAll 44 = .ok (.ireturn, 1) := by decide +kernel
theorem dX3_busyPairs_0 : decode cX3_busyPairs 0 = .ok (.iconst 0, 1) := by decide +kernel
theorem dX3_busyPairs_1 : decode cX3_busyPairs 1 = .ok (.istore_n 1, 1) := by decide +kernel
theorem dX3_busyPairs_2 : decode cX3_busyPairs 2 = .ok (.iconst 0, 1) := by decide +kernel
theorem dX3_busyPairs_3 : decode cX3_busyPairs 3 = .ok (.istore_n 2, 1) := by decide +kernel
theorem dX3_busyPairs_4 : decode cX3_busyPairs 4 = .ok (.iload_n 2, 1) := by decide +kernel
theorem dX3_busyPairs_5 : decode cX3_busyPairs 5 = .ok (.aload_n 0, 1) := by decide +kernel
theorem dX3_busyPairs_6 : decode cX3_busyPairs 6 = .ok (.getfield 19, 3) := by decide +kernel
theorem dX3_busyPairs_9 : decode cX3_busyPairs 9 = .ok (.if_icmp .ge 42, 3) := by decide +kernel
theorem dX3_busyPairs_12 : decode cX3_busyPairs 12 = .ok (.iconst 0, 1) := by decide +kernel
theorem dX3_busyPairs_13 : decode cX3_busyPairs 13 = .ok (.istore_n 3, 1) := by decide +kernel
theorem dX3_busyPairs_14 : decode cX3_busyPairs 14 = .ok (.iload_n 3, 1) := by decide +kernel
theorem dX3_busyPairs_15 : decode cX3_busyPairs 15 = .ok (.aload_n 0, 1) := by decide +kernel
theorem dX3_busyPairs_16 : decode cX3_busyPairs 16 = .ok (.getfield 19, 3) := by decide +kernel
theorem dX3_busyPairs_19 : decode cX3_busyPairs 19 = .ok (.if_icmp .ge 26, 3) := by decide +kernel
theorem dX3_busyPairs_22 : decode cX3_busyPairs 22 = .ok (.iload_n 1, 1) := by decide +kernel
theorem dX3_busyPairs_23 : decode cX3_busyPairs 23 = .ok (.aload_n 0, 1) := by decide +kernel
theorem dX3_busyPairs_24 : decode cX3_busyPairs 24 = .ok (.iload_n 2, 1) := by decide +kernel
theorem dX3_busyPairs_25 : decode cX3_busyPairs 25 = .ok (.iload_n 3, 1) := by decide +kernel
theorem dX3_busyPairs_26 : decode cX3_busyPairs 26 = .ok (.invokevirtual 63, 3) := by decide +kernel
theorem dX3_busyPairs_29 : decode cX3_busyPairs 29 = .ok (.ifCond .le 7, 3) := by decide +kernel
theorem dX3_busyPairs_32 : decode cX3_busyPairs 32 = .ok (.iconst 1, 1) := by decide +kernel
theorem dX3_busyPairs_33 : decode cX3_busyPairs 33 = .ok (.goto 4, 3) := by decide +kernel
theorem dX3_busyPairs_36 : decode cX3_busyPairs 36 = .ok (.iconst 0, 1) := by decide +kernel
theorem dX3_busyPairs_37 : decode cX3_busyPairs 37 = .ok (.iadd, 1) := by decide +kernel
theorem dX3_busyPairs_38 : decode cX3_busyPairs 38 = .ok (.istore_n 1, 1) := by decide +kernel
theorem dX3_busyPairs_39 : decode cX3_busyPairs 39 = .ok (.iinc 3 1, 3) := by decide +kernel
theorem dX3_busyPairs_42 : decode cX3_busyPairs 42 = .ok (.goto (-28), 3) := by decide +kernel
theorem dX3_busyPairs_45 : decode cX3_busyPairs 45 = .ok (.iinc 2 1, 3) := by decide +kernel
theorem dX3_busyPairs_48 : decode cX3_busyPairs 48 = .ok (.goto (-44), 3) := by decide +kernel
theorem dX3_busyPairs_51 : decode cX3_busyPairs 51 = .ok (.iload_n 1, 1) := by decide +kernel
theorem dX3_busyPairs_52 : decode cX3_busyPairs 52 = .ok (.ireturn, 1) := by decide +kernel
theorem dX3_busyPair_0 : decode cX3_busyPair 0 = .ok (.iconst 0, 1) := by decide +kernel
theorem dX3_busyPair_1 : decode cX3_busyPair 1 = .ok (.istore_n 2, 1) := by decide +kernel
theorem dX3_busyPair_2 : decode cX3_busyPair 2 = .ok (.iconst 0, 1) := by decide +kernel
theorem dX3_busyPair_3 : decode cX3_busyPair 3 = .ok (.istore_n 3, 1) := by decide +kernel
theorem dX3_busyPair_4 : decode cX3_busyPair 4 = .ok (.iload_n 3, 1) := by decide +kernel
theorem dX3_busyPair_5 : decode cX3_busyPair 5 = .ok (.aload_n 0, 1) := by decide +kernel
theorem dX3_busyPair_6 : decode cX3_busyPair 6 = .ok (.getfield 19, 3) := by decide +kernel
theorem dX3_busyPair_9 : decode cX3_busyPair 9 = .ok (.if_icmp .ge 53, 3) := by decide +kernel
theorem dX3_busyPair_12 : decode cX3_busyPair 12 = .ok (.iconst 0, 1) := by decide +kernel
theorem dX3_busyPair_13 : decode cX3_busyPair 13 = .ok (.istore 4, 2) := by decide +kernel
theorem dX3_busyPair_15 : decode cX3_busyPair 15 = .ok (.iload 4, 2) := by decide +kernel
theorem dX3_busyPair_17 : decode cX3_busyPair 17 = .ok (.aload_n 0, 1) := by decide +kernel
theorem dX3_busyPair_18 : decode cX3_busyPair 18 = .ok (.getfield 19, 3) := by decide +kernel
theorem dX3_busyPair_21 : decode cX3_busyPair 21 = .ok (.if_icmp .ge 35, 3) := by decide +kernel
theorem dX3_busyPair_24 : decode cX3_busyPair 24 = .ok (.aload_n 0, 1) := by decide +kernel
theorem dX3_busyPair_25 : decode cX3_busyPair 25 = .ok (.iload_n 3, 1) := by decide +kernel
theorem dX3_busyPair_26 : decode cX3_busyPair 26 = .ok (.iload 4, 2) := by decide +kernel
theorem dX3_busyPair_28 : decode cX3_busyPair 28 = .ok (.invokevirtual 63, 3) := by decide +kernel
theorem dX3_busyPair_31 : decode cX3_busyPair 31 = .ok (.ifCond .le 19, 3) := by decide +kernel
theorem dX3_busyPair_34 : decode cX3_busyPair 34 = .ok (.iload_n 2, 1) := by decide +kernel
theorem dX3_busyPair_35 : decode cX3_busyPair 35 = .ok (.iinc 2 1, 3) := by decide +kernel
theorem dX3_busyPair_38 : decode cX3_busyPair 38 = .ok (.iload_n 1, 1) := by decide +kernel
theorem dX3_busyPair_39 : decode cX3_busyPair 39 = .ok (.if_icmp .ne 11, 3) := by decide +kernel
theorem dX3_busyPair_42 : decode cX3_busyPair 42 = .ok (.iload_n 3, 1) := by decide +kernel
theorem dX3_busyPair_43 : decode cX3_busyPair 43 = .ok (.bipush 6, 2) := by decide +kernel
theorem dX3_busyPair_45 : decode cX3_busyPair 45 = .ok (.imul, 1) := by decide +kernel
theorem dX3_busyPair_46 : decode cX3_busyPair 46 = .ok (.iload 4, 2) := by decide +kernel
theorem dX3_busyPair_48 : decode cX3_busyPair 48 = .ok (.iadd, 1) := by decide +kernel
theorem dX3_busyPair_49 : decode cX3_busyPair 49 = .ok (.ireturn, 1) := by decide +kernel
theorem dX3_busyPair_50 : decode cX3_busyPair 50 = .ok (.iinc 4 1, 3) := by decide +kernel
theorem dX3_busyPair_53 : decode cX3_busyPair 53 = .ok (.goto (-38), 3) := by decide +kernel
theorem dX3_busyPair_56 : decode cX3_busyPair 56 = .ok (.iinc 3 1, 3) := by decide +kernel
theorem dX3_busyPair_59 : decode cX3_busyPair 59 = .ok (.goto (-55), 3) := by decide +kernel
theorem dX3_busyPair_62 : decode cX3_busyPair 62 = .ok (.iconst 0, 1) := by decide +kernel
theorem dX3_busyPair_63 : decode cX3_busyPair 63 = .ok (.ireturn, 1) := by decide +kernel
theorem dX3_howMany_0 : decode cX3_howMany 0 = .ok (.iconst 0, 1) := by decide +kernel
theorem dX3_howMany_1 : decode cX3_howMany 1 = .ok (.istore_n 2, 1) := by decide +kernel
theorem dX3_howMany_2 : decode cX3_howMany 2 = .ok (.iconst 0, 1) := by decide +kernel
theorem dX3_howMany_3 : decode cX3_howMany 3 = .ok (.istore_n 3, 1) := by decide +kernel
theorem dX3_howMany_4 : decode cX3_howMany 4 = .ok (.iload_n 3, 1) := by decide +kernel
theorem dX3_howMany_5 : decode cX3_howMany 5 = .ok (.aload_n 0, 1) := by decide +kernel
theorem dX3_howMany_6 : decode cX3_howMany 6 = .ok (.getfield 19, 3) := by decide +kernel
theorem dX3_howMany_9 : decode cX3_howMany 9 = .ok (.if_icmp .ge 27, 3) := by decide +kernel
theorem dX3_howMany_12 : decode cX3_howMany 12 = .ok (.iload_n 2, 1) := by decide +kernel
theorem dX3_howMany_13 : decode cX3_howMany 13 = .ok (.aload_n 0, 1) := by decide +kernel
theorem dX3_howMany_14 : decode cX3_howMany 14 = .ok (.iload_n 3, 1) := by decide +kernel
theorem dX3_howMany_15 : decode cX3_howMany 15 = .ok (.iconst 0, 1) := by decide +kernel
theorem dX3_howMany_16 : decode cX3_howMany 16 = .ok (.invokevirtual 66, 3) := by decide +kernel
theorem dX3_howMany_19 : decode cX3_howMany 19 = .ok (.iload_n 1, 1) := by decide +kernel
theorem dX3_howMany_20 : decode cX3_howMany 20 = .ok (.if_icmp .ne 7, 3) := by decide +kernel
theorem dX3_howMany_23 : decode cX3_howMany 23 = .ok (.iconst 1, 1) := by decide +kernel
theorem dX3_howMany_24 : decode cX3_howMany 24 = .ok (.goto 4, 3) := by decide +kernel
theorem dX3_howMany_27 : decode cX3_howMany 27 = .ok (.iconst 0, 1) := by decide +kernel
theorem dX3_howMany_28 : decode cX3_howMany 28 = .ok (.iadd, 1) := by decide +kernel
theorem dX3_howMany_29 : decode cX3_howMany 29 = .ok (.istore_n 2, 1) := by decide +kernel
theorem dX3_howMany_30 : decode cX3_howMany 30 = .ok (.iinc 3 1, 3) := by decide +kernel
theorem dX3_howMany_33 : decode cX3_howMany 33 = .ok (.goto (-29), 3) := by decide +kernel
theorem dX3_howMany_36 : decode cX3_howMany 36 = .ok (.iload_n 2, 1) := by decide +kernel
theorem dX3_howMany_37 : decode cX3_howMany 37 = .ok (.ireturn, 1) := by decide +kernel
theorem dX3_hasToken_0 : decode cX3_hasToken 0 = .ok (.aload_n 0, 1) := by decide +kernel
theorem dX3_hasToken_1 : decode cX3_hasToken 1 = .ok (.getfield 15, 3) := by decide +kernel
theorem dX3_hasToken_4 : decode cX3_hasToken 4 = .ok (.iconst 1, 1) := by decide +kernel
theorem dX3_hasToken_5 : decode cX3_hasToken 5 = .ok (.if_icmp .ne 13, 3) := by decide +kernel
theorem dX3_hasToken_8 : decode cX3_hasToken 8 = .ok (.aload_n 0, 1) := by decide +kernel
theorem dX3_hasToken_9 : decode cX3_hasToken 9 = .ok (.bipush 30, 2) := by decide +kernel
theorem dX3_hasToken_11 : decode cX3_hasToken 11 = .ok (.invokevirtual 36, 3) := by decide +kernel
theorem dX3_hasToken_14 : decode cX3_hasToken 14 = .ok (.iload_n 1, 1) := by decide +kernel
theorem dX3_hasToken_15 : decode cX3_hasToken 15 = .ok (.if_icmp .eq 22, 3) := by decide +kernel
theorem dX3_hasToken_18 : decode cX3_hasToken 18 = .ok (.aload_n 0, 1) := by decide +kernel
theorem dX3_hasToken_19 : decode cX3_hasToken 19 = .ok (.getfield 15, 3) := by decide +kernel
theorem dX3_hasToken_22 : decode cX3_hasToken 22 = .ok (.iconst 2, 1) := by decide +kernel
theorem dX3_hasToken_23 : decode cX3_hasToken 23 = .ok (.if_icmp .ne 18, 3) := by decide +kernel
theorem dX3_hasToken_26 : decode cX3_hasToken 26 = .ok (.aload_n 0, 1) := by decide +kernel
theorem dX3_hasToken_27 : decode cX3_hasToken 27 = .ok (.iload_n 1, 1) := by decide +kernel
theorem dX3_hasToken_28 : decode cX3_hasToken 28 = .ok (.bipush 86, 2) := by decide +kernel
theorem dX3_hasToken_30 : decode cX3_hasToken 30 = .ok (.invokevirtual 66, 3) := by decide +kernel
theorem dX3_hasToken_33 : decode cX3_hasToken 33 = .ok (.iload_n 1, 1) := by decide +kernel
theorem dX3_hasToken_34 : decode cX3_hasToken 34 = .ok (.if_icmp .ne 7, 3) := by decide +kernel
theorem dX3_hasToken_37 : decode cX3_hasToken 37 = .ok (.iconst 1, 1) := by decide +kernel
theorem dX3_hasToken_38 : decode cX3_hasToken 38 = .ok (.goto 4, 3) := by decide +kernel
theorem dX3_hasToken_41 : decode cX3_hasToken 41 = .ok (.iconst 0, 1) := by decide +kernel
theorem dX3_hasToken_42 : decode cX3_hasToken 42 = .ok (.ireturn, 1) := by decide +kernel
theorem dX3_tokenIsLost_0 : decode cX3_tokenIsLost 0 = .ok (.iconst 0, 1) := by decide +kernel
theorem dX3_tokenIsLost_1 : decode cX3_tokenIsLost 1 = .ok (.istore_n 1, 1) := by decide +kernel
theorem dX3_tokenIsLost_2 : decode cX3_tokenIsLost 2 = .ok (.iload_n 1, 1) := by decide +kernel
theorem dX3_tokenIsLost_3 : decode cX3_tokenIsLost 3 = .ok (.aload_n 0, 1) := by decide +kernel
theorem dX3_tokenIsLost_4 : decode cX3_tokenIsLost 4 = .ok (.getfield 19, 3) := by decide +kernel
theorem dX3_tokenIsLost_7 : decode cX3_tokenIsLost 7 = .ok (.if_icmp .ge 46, 3) := by decide +kernel
theorem dX3_tokenIsLost_10 : decode cX3_tokenIsLost 10 = .ok (.aload_n 0, 1) := by decide +kernel
theorem dX3_tokenIsLost_11 : decode cX3_tokenIsLost 11 = .ok (.iload_n 1, 1) := by decide +kernel
theorem dX3_tokenIsLost_12 : decode cX3_tokenIsLost 12 = .ok (.invokevirtual 69, 3) := by decide +kernel
theorem dX3_tokenIsLost_15 : decode cX3_tokenIsLost 15 = .ok (.ifCond .eq 5, 3) := by decide +kernel
theorem dX3_tokenIsLost_18 : decode cX3_tokenIsLost 18 = .ok (.iconst 0, 1) := by decide +kernel
theorem dX3_tokenIsLost_19 : decode cX3_tokenIsLost 19 = .ok (.ireturn, 1) := by decide +kernel
theorem dX3_tokenIsLost_20 : decode cX3_tokenIsLost 20 = .ok (.iconst 0, 1) := by decide +kernel
theorem dX3_tokenIsLost_21 : decode cX3_tokenIsLost 21 = .ok (.istore_n 2, 1) := by decide +kernel
theorem dX3_tokenIsLost_22 : decode cX3_tokenIsLost 22 = .ok (.iload_n 2, 1) := by decide +kernel
theorem dX3_tokenIsLost_23 : decode cX3_tokenIsLost 23 = .ok (.aload_n 0, 1) := by decide +kernel
theorem dX3_tokenIsLost_24 : decode cX3_tokenIsLost 24 = .ok (.getfield 19, 3) := by decide +kernel
theorem dX3_tokenIsLost_27 : decode cX3_tokenIsLost 27 = .ok (.if_icmp .ge 20, 3) := by decide +kernel
theorem dX3_tokenIsLost_30 : decode cX3_tokenIsLost 30 = .ok (.aload_n 0, 1) := by decide +kernel
theorem dX3_tokenIsLost_31 : decode cX3_tokenIsLost 31 = .ok (.iload_n 1, 1) := by decide +kernel
theorem dX3_tokenIsLost_32 : decode cX3_tokenIsLost 32 = .ok (.iload_n 2, 1) := by decide +kernel
theorem dX3_tokenIsLost_33 : decode cX3_tokenIsLost 33 = .ok (.invokevirtual 72, 3) := by decide +kernel
theorem dX3_tokenIsLost_36 : decode cX3_tokenIsLost 36 = .ok (.ifCond .eq 5, 3) := by decide +kernel
theorem dX3_tokenIsLost_39 : decode cX3_tokenIsLost 39 = .ok (.iconst 0, 1) := by decide +kernel
theorem dX3_tokenIsLost_40 : decode cX3_tokenIsLost 40 = .ok (.ireturn, 1) := by decide +kernel
theorem dX3_tokenIsLost_41 : decode cX3_tokenIsLost 41 = .ok (.iinc 2 1, 3) := by decide +kernel
theorem dX3_tokenIsLost_44 : decode cX3_tokenIsLost 44 = .ok (.goto (-22), 3) := by decide +kernel
theorem dX3_tokenIsLost_47 : decode cX3_tokenIsLost 47 = .ok (.iinc 1 1, 3) := by decide +kernel
theorem dX3_tokenIsLost_50 : decode cX3_tokenIsLost 50 = .ok (.goto (-48), 3) := by decide +kernel
theorem dX3_tokenIsLost_53 : decode cX3_tokenIsLost 53 = .ok (.aload_n 0, 1) := by decide +kernel
theorem dX3_tokenIsLost_54 : decode cX3_tokenIsLost 54 = .ok (.getfield 15, 3) := by decide +kernel
theorem dX3_tokenIsLost_57 : decode cX3_tokenIsLost 57 = .ok (.ifCond .eq 7, 3) := by decide +kernel
theorem dX3_tokenIsLost_60 : decode cX3_tokenIsLost 60 = .ok (.iconst 1, 1) := by decide +kernel
theorem dX3_tokenIsLost_61 : decode cX3_tokenIsLost 61 = .ok (.goto 4, 3) := by decide +kernel
theorem dX3_tokenIsLost_64 : decode cX3_tokenIsLost 64 = .ok (.iconst 0, 1) := by decide +kernel
theorem dX3_tokenIsLost_65 : decode cX3_tokenIsLost 65 = .ok (.ireturn, 1) := by decide +kernel
theorem dX3_tokenBetween_0 : decode cX3_tokenBetween 0 = .ok (.aload_n 0, 1) := by decide +kernel
theorem dX3_tokenBetween_1 : decode cX3_tokenBetween 1 = .ok (.iload_n 1, 1) := by decide +kernel
theorem dX3_tokenBetween_2 : decode cX3_tokenBetween 2 = .ok (.iload_n 2, 1) := by decide +kernel
theorem dX3_tokenBetween_3 : decode cX3_tokenBetween 3 = .ok (.invokevirtual 63, 3) := by decide +kernel
theorem dX3_tokenBetween_6 : decode cX3_tokenBetween 6 = .ok (.istore_n 3, 1) := by decide +kernel
theorem dX3_tokenBetween_7 : decode cX3_tokenBetween 7 = .ok (.iconst 0, 1) := by decide +kernel
theorem dX3_tokenBetween_8 : decode cX3_tokenBetween 8 = .ok (.istore 4, 2) := by decide +kernel
theorem dX3_tokenBetween_10 : decode cX3_tokenBetween 10 = .ok (.iload 4, 2) := by decide +kernel
theorem dX3_tokenBetween_12 : decode cX3_tokenBetween 12 = .ok (.iload_n 3, 1) := by decide +kernel
theorem dX3_tokenBetween_13 : decode cX3_tokenBetween 13 = .ok (.if_icmp .ge 33, 3) := by decide +kernel
theorem dX3_tokenBetween_16 : decode cX3_tokenBetween 16 = .ok (.iload 4, 2) := by decide +kernel
theorem dX3_tokenBetween_18 : decode cX3_tokenBetween 18 = .ok (.bipush 12, 2) := by decide +kernel
theorem dX3_tokenBetween_20 : decode cX3_tokenBetween 20 = .ok (.if_icmp .ge 26, 3) := by decide +kernel
theorem dX3_tokenBetween_23 : decode cX3_tokenBetween 23 = .ok (.aload_n 0, 1) := by decide +kernel
theorem dX3_tokenBetween_24 : decode cX3_tokenBetween 24 = .ok (.iload_n 1, 1) := by decide +kernel
theorem dX3_tokenBetween_25 : decode cX3_tokenBetween 25 = .ok (.iload_n 2, 1) := by decide +kernel
theorem dX3_tokenBetween_26 : decode cX3_tokenBetween 26 = .ok (.iload 4, 2) := by decide +kernel
theorem dX3_tokenBetween_28 : decode cX3_tokenBetween 28 = .ok (.invokevirtual 76, 3) := by decide +kernel
theorem dX3_tokenBetween_31 : decode cX3_tokenBetween 31 = .ok (.invokestatic 80, 3) := by decide +kernel
theorem dX3_tokenBetween_34 : decode cX3_tokenBetween 34 = .ok (.iconst 2, 1) := by decide +kernel
theorem dX3_tokenBetween_35 : decode cX3_tokenBetween 35 = .ok (.if_icmp .ne 5, 3) := by decide +kernel
theorem dX3_tokenBetween_38 : decode cX3_tokenBetween 38 = .ok (.iconst 1, 1) := by decide +kernel
theorem dX3_tokenBetween_39 : decode cX3_tokenBetween 39 = .ok (.ireturn, 1) := by decide +kernel
theorem dX3_tokenBetween_40 : decode cX3_tokenBetween 40 = .ok (.iinc 4 1, 3) := by decide +kernel
theorem dX3_tokenBetween_43 : decode cX3_tokenBetween 43 = .ok (.goto (-33), 3) := by decide +kernel
theorem dX3_tokenBetween_46 : decode cX3_tokenBetween 46 = .ok (.iconst 0, 1) := by decide +kernel
theorem dX3_tokenBetween_47 : decode cX3_tokenBetween 47 = .ok (.ireturn, 1) := by decide +kernel
theorem dX3_copyTo_0 : decode cX3_copyTo 0 = .ok (.iload_n 2, 1) := by decide +kernel
theorem dX3_copyTo_1 : decode cX3_copyTo 1 = .ok (.ifCond .lt 35, 3) := by decide +kernel
theorem dX3_copyTo_4 : decode cX3_copyTo 4 = .ok (.iload_n 3, 1) := by decide +kernel
theorem dX3_copyTo_5 : decode cX3_copyTo 5 = .ok (.ifCond .lt 31, 3) := by decide +kernel
theorem dX3_copyTo_8 : decode cX3_copyTo 8 = .ok (.iload_n 3, 1) := by decide +kernel
theorem dX3_copyTo_9 : decode cX3_copyTo 9 = .ok (.aload_n 0, 1) := by decide +kernel
theorem dX3_copyTo_10 : decode cX3_copyTo 10 = .ok (.getfield 11, 3) := by decide +kernel
theorem dX3_copyTo_13 : decode cX3_copyTo 13 = .ok (.arraylength, 1) := by decide +kernel
theorem dX3_copyTo_14 : decode cX3_copyTo 14 = .ok (.if_icmp .gt 22, 3) := by decide +kernel
theorem dX3_copyTo_17 : decode cX3_copyTo 17 = .ok (.iload_n 2, 1) := by decide +kernel
theorem dX3_copyTo_18 : decode cX3_copyTo 18 = .ok (.aload_n 1, 1) := by decide +kernel
theorem dX3_copyTo_19 : decode cX3_copyTo 19 = .ok (.arraylength, 1) := by decide +kernel
theorem dX3_copyTo_20 : decode cX3_copyTo 20 = .ok (.iload_n 3, 1) := by decide +kernel
theorem dX3_copyTo_21 : decode cX3_copyTo 21 = .ok (.isub, 1) := by decide +kernel
theorem dX3_copyTo_22 : decode cX3_copyTo 22 = .ok (.if_icmp .gt 14, 3) := by decide +kernel
theorem dX3_copyTo_25 : decode cX3_copyTo 25 = .ok (.aload_n 0, 1) := by decide +kernel
theorem dX3_copyTo_26 : decode cX3_copyTo 26 = .ok (.getfield 11, 3) := by decide +kernel
theorem dX3_copyTo_29 : decode cX3_copyTo 29 = .ok (.iconst 0, 1) := by decide +kernel
theorem dX3_copyTo_30 : decode cX3_copyTo 30 = .ok (.aload_n 1, 1) := by decide +kernel
theorem dX3_copyTo_31 : decode cX3_copyTo 31 = .ok (.iload_n 2, 1) := by decide +kernel
theorem dX3_copyTo_32 : decode cX3_copyTo 32 = .ok (.iload_n 3, 1) := by decide +kernel
theorem dX3_copyTo_33 : decode cX3_copyTo 33 = .ok (.invokestatic 83, 3) := by decide +kernel
theorem dX3_copyTo_36 : decode cX3_copyTo 36 = .ok (.return_, 1) := by decide +kernel
theorem dX3_copyFrom_0 : decode cX3_copyFrom 0 = .ok (.iload_n 2, 1) := by decide +kernel
theorem dX3_copyFrom_1 : decode cX3_copyFrom 1 = .ok (.ifCond .lt 35, 3) := by decide +kernel
theorem dX3_copyFrom_4 : decode cX3_copyFrom 4 = .ok (.iload_n 3, 1) := by decide +kernel
theorem dX3_copyFrom_5 : decode cX3_copyFrom 5 = .ok (.ifCond .lt 31, 3) := by decide +kernel
theorem dX3_copyFrom_8 : decode cX3_copyFrom 8 = .ok (.iload_n 3, 1) := by decide +kernel
theorem dX3_copyFrom_9 : decode cX3_copyFrom 9 = .ok (.aload_n 0, 1) := by decide +kernel
theorem dX3_copyFrom_10 : decode cX3_copyFrom 10 = .ok (.getfield 11, 3) := by decide +kernel
theorem dX3_copyFrom_13 : decode cX3_copyFrom 13 = .ok (.arraylength, 1) := by decide +kernel
theorem dX3_copyFrom_14 : decode cX3_copyFrom 14 = .ok (.if_icmp .gt 22, 3) := by decide +kernel
theorem dX3_copyFrom_17 : decode cX3_copyFrom 17 = .ok (.iload_n 2, 1) := by decide +kernel
theorem dX3_copyFrom_18 : decode cX3_copyFrom 18 = .ok (.aload_n 1, 1) := by decide +kernel
theorem dX3_copyFrom_19 : decode cX3_copyFrom 19 = .ok (.arraylength, 1) := by decide +kernel
theorem dX3_copyFrom_20 : decode cX3_copyFrom 20 = .ok (.iload_n 3, 1) := by decide +kernel
theorem dX3_copyFrom_21 : decode cX3_copyFrom 21 = .ok (.isub, 1) := by decide +kernel
theorem dX3_copyFrom_22 : decode cX3_copyFrom 22 = .ok (.if_icmp .gt 14, 3) := by decide +kernel
theorem dX3_copyFrom_25 : decode cX3_copyFrom 25 = .ok (.aload_n 1, 1) := by decide +kernel
theorem dX3_copyFrom_26 : decode cX3_copyFrom 26 = .ok (.iload_n 2, 1) := by decide +kernel
theorem dX3_copyFrom_27 : decode cX3_copyFrom 27 = .ok (.aload_n 0, 1) := by decide +kernel
theorem dX3_copyFrom_28 : decode cX3_copyFrom 28 = .ok (.getfield 11, 3) := by decide +kernel
theorem dX3_copyFrom_31 : decode cX3_copyFrom 31 = .ok (.iconst 0, 1) := by decide +kernel
theorem dX3_copyFrom_32 : decode cX3_copyFrom 32 = .ok (.iload_n 3, 1) := by decide +kernel
theorem dX3_copyFrom_33 : decode cX3_copyFrom 33 = .ok (.invokestatic 83, 3) := by decide +kernel
theorem dX3_copyFrom_36 : decode cX3_copyFrom 36 = .ok (.return_, 1) := by decide +kernel
theorem dX4_init_0 : decode cX4_init 0 = .ok (.aload_n 0, 1) := by decide +kernel
theorem dX4_init_1 : decode cX4_init 1 = .ok (.invokespecial 3, 3) := by decide +kernel
theorem dX4_init_4 : decode cX4_init 4 = .ok (.aload_n 0, 1) := by decide +kernel
theorem dX4_init_5 : decode cX4_init 5 = .ok (.aload_n 1, 1) := by decide +kernel
theorem dX4_init_6 : decode cX4_init 6 = .ok (.putfield 9, 3) := by decide +kernel
theorem dX4_init_9 : decode cX4_init 9 = .ok (.aload_n 0, 1) := by decide +kernel
theorem dX4_init_10 : decode cX4_init 10 = .ok (.aload_n 2, 1) := by decide +kernel
theorem dX4_init_11 : decode cX4_init 11 = .ok (.putfield 15, 3) := by decide +kernel
theorem dX4_init_14 : decode cX4_init 14 = .ok (.aload_n 0, 1) := by decide +kernel
theorem dX4_init_15 : decode cX4_init 15 = .ok (.iconst 1, 1) := by decide +kernel
theorem dX4_init_16 : decode cX4_init 16 = .ok (.putfield 19, 3) := by decide +kernel
theorem dX4_init_19 : decode cX4_init 19 = .ok (.return_, 1) := by decide +kernel
theorem dX4_wanted_0 : decode cX4_wanted 0 = .ok (.aload_n 0, 1) := by decide +kernel
theorem dX4_wanted_1 : decode cX4_wanted 1 = .ok (.getfield 9, 3) := by decide +kernel
theorem dX4_wanted_4 : decode cX4_wanted 4 = .ok (.iconst 0, 1) := by decide +kernel
theorem dX4_wanted_5 : decode cX4_wanted 5 = .ok (.putfield 23, 3) := by decide +kernel
theorem dX4_wanted_8 : decode cX4_wanted 8 = .ok (.aload_n 0, 1) := by decide +kernel
theorem dX4_wanted_9 : decode cX4_wanted 9 = .ok (.getfield 9, 3) := by decide +kernel
theorem dX4_wanted_12 : decode cX4_wanted 12 = .ok (.iload_n 1, 1) := by decide +kernel
theorem dX4_wanted_13 : decode cX4_wanted 13 = .ok (.iconst 0, 1) := by decide +kernel
theorem dX4_wanted_14 : decode cX4_wanted 14 = .ok (.iconst 1, 1) := by decide +kernel
theorem dX4_wanted_15 : decode cX4_wanted 15 = .ok (.invokevirtual 28, 3) := by decide +kernel
theorem dX4_wanted_18 : decode cX4_wanted 18 = .ok (.aload_n 0, 1) := by decide +kernel
theorem dX4_wanted_19 : decode cX4_wanted 19 = .ok (.getfield 9, 3) := by decide +kernel
theorem dX4_wanted_22 : decode cX4_wanted 22 = .ok (.sipush 612, 3) := by decide +kernel
theorem dX4_wanted_25 : decode cX4_wanted 25 = .ok (.iload_n 1, 1) := by decide +kernel
theorem dX4_wanted_26 : decode cX4_wanted 26 = .ok (.iadd, 1) := by decide +kernel
theorem dX4_wanted_27 : decode cX4_wanted 27 = .ok (.aload_n 0, 1) := by decide +kernel
theorem dX4_wanted_28 : decode cX4_wanted 28 = .ok (.getfield 9, 3) := by decide +kernel
theorem dX4_wanted_31 : decode cX4_wanted 31 = .ok (.sipush 611, 3) := by decide +kernel
theorem dX4_wanted_34 : decode cX4_wanted 34 = .ok (.invokevirtual 32, 3) := by decide +kernel
theorem dX4_wanted_37 : decode cX4_wanted 37 = .ok (.invokevirtual 36, 3) := by decide +kernel
theorem dX4_wanted_40 : decode cX4_wanted 40 = .ok (.aload_n 0, 1) := by decide +kernel
theorem dX4_wanted_41 : decode cX4_wanted 41 = .ok (.getfield 9, 3) := by decide +kernel
theorem dX4_wanted_44 : decode cX4_wanted 44 = .ok (.getfield 40, 3) := by decide +kernel
theorem dX4_wanted_47 : decode cX4_wanted 47 = .ok (.ifCond .ne 11, 3) := by decide +kernel
theorem dX4_wanted_50 : decode cX4_wanted 50 = .ok (.aload_n 0, 1) := by decide +kernel
theorem dX4_wanted_51 : decode cX4_wanted 51 = .ok (.iload_n 1, 1) := by decide +kernel
theorem dX4_wanted_52 : decode cX4_wanted 52 = .ok (.invokevirtual 44, 3) := by decide +kernel
theorem dX4_wanted_55 : decode cX4_wanted 55 = .ok (.goto 33, 3) := by decide +kernel
theorem dX4_wanted_58 : decode cX4_wanted 58 = .ok (.aload_n 0, 1) := by decide +kernel
theorem dX4_wanted_59 : decode cX4_wanted 59 = .ok (.getfield 9, 3) := by decide +kernel
theorem dX4_wanted_62 : decode cX4_wanted 62 = .ok (.getfield 40, 3) := by decide +kernel
theorem dX4_wanted_65 : decode cX4_wanted 65 = .ok (.iconst 1, 1) := by decide +kernel
theorem dX4_wanted_66 : decode cX4_wanted 66 = .ok (.if_icmp .ne 11, 3) := by decide +kernel
theorem dX4_wanted_69 : decode cX4_wanted 69 = .ok (.aload_n 0, 1) := by decide +kernel
theorem dX4_wanted_70 : decode cX4_wanted 70 = .ok (.iload_n 1, 1) := by decide +kernel
theorem dX4_wanted_71 : decode cX4_wanted 71 = .ok (.invokevirtual 48, 3) := by decide +kernel
theorem dX4_wanted_74 : decode cX4_wanted 74 = .ok (.goto 14, 3) := by decide +kernel
theorem dX4_wanted_77 : decode cX4_wanted 77 = .ok (.aload_n 0, 1) := by decide +kernel
theorem dX4_wanted_78 : decode cX4_wanted 78 = .ok (.iload_n 1, 1) := by decide +kernel
theorem dX4_wanted_79 : decode cX4_wanted 79 = .ok (.iload_n 1, 1) := by decide +kernel
theorem dX4_wanted_80 : decode cX4_wanted 80 = .ok (.invokevirtual 51, 3) := by decide +kernel
theorem dX4_wanted_83 : decode cX4_wanted 83 = .ok (.aload_n 0, 1) := by decide +kernel
theorem dX4_wanted_84 : decode cX4_wanted 84 = .ok (.iload_n 1, 1) := by decide +kernel
theorem dX4_wanted_85 : decode cX4_wanted 85 = .ok (.invokevirtual 54, 3) := by decide +kernel
theorem dX4_wanted_88 : decode cX4_wanted 88 = .ok (.return_, 1) := by decide +kernel
theorem dX4_left_0 : decode cX4_left 0 = .ok (.aload_n 0, 1) := by decide +kernel
theorem dX4_left_1 : decode cX4_left 1 = .ok (.getfield 9, 3) := by decide +kernel
theorem dX4_left_4 : decode cX4_left 4 = .ok (.iconst 0, 1) := by decide +kernel
theorem dX4_left_5 : decode cX4_left 5 = .ok (.putfield 23, 3) := by decide +kernel
theorem dX4_left_8 : decode cX4_left 8 = .ok (.aload_n 0, 1) := by decide +kernel
theorem dX4_left_9 : decode cX4_left 9 = .ok (.getfield 9, 3) := by decide +kernel
theorem dX4_left_12 : decode cX4_left 12 = .ok (.iload_n 1, 1) := by decide +kernel
theorem dX4_left_13 : decode cX4_left 13 = .ok (.iconst 0, 1) := by decide +kernel
theorem dX4_left_14 : decode cX4_left 14 = .ok (.iconst 0, 1) := by decide +kernel
theorem dX4_left_15 : decode cX4_left 15 = .ok (.invokevirtual 28, 3) := by decide +kernel
theorem dX4_left_18 : decode cX4_left 18 = .ok (.aload_n 0, 1) := by decide +kernel
theorem dX4_left_19 : decode cX4_left 19 = .ok (.getfield 9, 3) := by decide +kernel
theorem dX4_left_22 : decode cX4_left 22 = .ok (.getfield 40, 3) := by decide +kernel
theorem dX4_left_25 : decode cX4_left 25 = .ok (.ifCond .ne 11, 3) := by decide +kernel
theorem dX4_left_28 : decode cX4_left 28 = .ok (.aload_n 0, 1) := by decide +kernel
theorem dX4_left_29 : decode cX4_left 29 = .ok (.iload_n 1, 1) := by decide +kernel
theorem dX4_left_30 : decode cX4_left 30 = .ok (.invokevirtual 57, 3) := by decide +kernel
theorem dX4_left_33 : decode cX4_left 33 = .ok (.goto 27, 3) := by decide +kernel
theorem dX4_left_36 : decode cX4_left 36 = .ok (.aload_n 0, 1) := by decide +kernel
theorem dX4_left_37 : decode cX4_left 37 = .ok (.getfield 9, 3) := by decide +kernel
theorem dX4_left_40 : decode cX4_left 40 = .ok (.getfield 40, 3) := by decide +kernel
theorem dX4_left_43 : decode cX4_left 43 = .ok (.iconst 1, 1) := by decide +kernel
theorem dX4_left_44 : decode cX4_left 44 = .ok (.if_icmp .ne 11, 3) := by decide +kernel
theorem dX4_left_47 : decode cX4_left 47 = .ok (.aload_n 0, 1) := by decide +kernel
theorem dX4_left_48 : decode cX4_left 48 = .ok (.iload_n 1, 1) := by decide +kernel
theorem dX4_left_49 : decode cX4_left 49 = .ok (.invokevirtual 60, 3) := by decide +kernel
theorem dX4_left_52 : decode cX4_left 52 = .ok (.goto 8, 3) := by decide +kernel
theorem dX4_left_55 : decode cX4_left 55 = .ok (.aload_n 0, 1) := by decide +kernel
theorem dX4_left_56 : decode cX4_left 56 = .ok (.iload_n 1, 1) := by decide +kernel
theorem dX4_left_57 : decode cX4_left 57 = .ok (.invokevirtual 54, 3) := by decide +kernel
theorem dX4_left_60 : decode cX4_left 60 = .ok (.return_, 1) := by decide +kernel
theorem dX4_coming_0 : decode cX4_coming 0 = .ok (.aload_n 0, 1) := by decide +kernel
theorem dX4_coming_1 : decode cX4_coming 1 = .ok (.getfield 9, 3) := by decide +kernel
theorem dX4_coming_4 : decode cX4_coming 4 = .ok (.iconst 0, 1) := by decide +kernel
theorem dX4_coming_5 : decode cX4_coming 5 = .ok (.putfield 23, 3) := by decide +kernel
theorem dX4_coming_8 : decode cX4_coming 8 = .ok (.aload_n 0, 1) := by decide +kernel
theorem dX4_coming_9 : decode cX4_coming 9 = .ok (.getfield 9, 3) := by decide +kernel
theorem dX4_coming_12 : decode cX4_coming 12 = .ok (.iload_n 1, 1) := by decide +kernel
theorem dX4_coming_13 : decode cX4_coming 13 = .ok (.iload_n 2, 1) := by decide +kernel
theorem dX4_coming_14 : decode cX4_coming 14 = .ok (.invokevirtual 63, 3) := by decide +kernel
theorem dX4_coming_17 : decode cX4_coming 17 = .ok (.istore_n 3, 1) := by decide +kernel
theorem dX4_coming_18 : decode cX4_coming 18 = .ok (.iload_n 3, 1) := by decide +kernel
theorem dX4_coming_19 : decode cX4_coming 19 = .ok (.invokestatic 67, 3) := by decide +kernel
theorem dX4_coming_22 : decode cX4_coming 22 = .ok (.ifCond .ne 7, 3) := by decide +kernel
theorem dX4_coming_25 : decode cX4_coming 25 = .ok (.iconst 1, 1) := by decide +kernel
theorem dX4_coming_26 : decode cX4_coming 26 = .ok (.goto 4, 3) := by decide +kernel
theorem dX4_coming_29 : decode cX4_coming 29 = .ok (.iconst 0, 1) := by decide +kernel
theorem dX4_coming_30 : decode cX4_coming 30 = .ok (.istore 4, 2) := by decide +kernel
theorem dX4_coming_32 : decode cX4_coming 32 = .ok (.aload_n 0, 1) := by decide +kernel
theorem dX4_coming_33 : decode cX4_coming 33 = .ok (.getfield 9, 3) := by decide +kernel
theorem dX4_coming_36 : decode cX4_coming 36 = .ok (.getfield 40, 3) := by decide +kernel
theorem dX4_coming_39 : decode cX4_coming 39 = .ok (.ifCond .ne 30, 3) := by decide +kernel
theorem dX4_coming_42 : decode cX4_coming 42 = .ok (.iload 4, 2) := by decide +kernel
theorem dX4_coming_44 : decode cX4_coming 44 = .ok (.ifCond .eq 16, 3) := by decide +kernel
theorem dX4_coming_47 : decode cX4_coming 47 = .ok (.aload_n 0, 1) := by decide +kernel
theorem dX4_coming_48 : decode cX4_coming 48 = .ok (.iload_n 2, 1) := by decide +kernel
theorem dX4_coming_49 : decode cX4_coming 49 = .ok (.iload_n 1, 1) := by decide +kernel
theorem dX4_coming_50 : decode cX4_coming 50 = .ok (.iload_n 3, 1) := by decide +kernel
theorem dX4_coming_51 : decode cX4_coming 51 = .ok (.invokestatic 70, 3) := by decide +kernel
theorem dX4_coming_54 : decode cX4_coming 54 = .ok (.invokevirtual 73, 3) := by decide +kernel
theorem dX4_coming_57 : decode cX4_coming 57 = .ok (.goto 89, 3) := by decide +kernel
theorem dX4_coming_60 : decode cX4_coming 60 = .ok (.aload_n 0, 1) := by decide +kernel
theorem dX4_coming_61 : decode cX4_coming 61 = .ok (.iload_n 2, 1) := by decide +kernel
theorem dX4_coming_62 : decode cX4_coming 62 = .ok (.iload_n 1, 1) := by decide +kernel
theorem dX4_coming_63 : decode cX4_coming 63 = .ok (.invokevirtual 76, 3) := by decide +kernel
theorem dX4_coming_66 : decode cX4_coming 66 = .ok (.goto 80, 3) := by decide +kernel
theorem dX4_coming_69 : decode cX4_coming 69 = .ok (.aload_n 0, 1) := by decide +kernel
theorem dX4_coming_70 : decode cX4_coming 70 = .ok (.getfield 9, 3) := by decide +kernel
theorem dX4_coming_73 : decode cX4_coming 73 = .ok (.getfield 40, 3) := by decide +kernel
theorem dX4_coming_76 : decode cX4_coming 76 = .ok (.iconst 1, 1) := by decide +kernel
theorem dX4_coming_77 : decode cX4_coming 77 = .ok (.if_icmp .ne 39, 3) := by decide +kernel
theorem dX4_coming_80 : decode cX4_coming 80 = .ok (.iload 4, 2) := by decide +kernel
theorem dX4_coming_82 : decode cX4_coming 82 = .ok (.ifCond .eq 16, 3) := by decide +kernel
theorem dX4_coming_85 : decode cX4_coming 85 = .ok (.aload_n 0, 1) := by decide +kernel
theorem dX4_coming_86 : decode cX4_coming 86 = .ok (.iload_n 2, 1) := by decide +kernel
theorem dX4_coming_87 : decode cX4_coming 87 = .ok (.iload_n 1, 1) := by decide +kernel
theorem dX4_coming_88 : decode cX4_coming 88 = .ok (.iload_n 3, 1) := by decide +kernel
theorem dX4_coming_89 : decode cX4_coming 89 = .ok (.invokestatic 70, 3) := by decide +kernel
theorem dX4_coming_92 : decode cX4_coming 92 = .ok (.invokevirtual 79, 3) := by decide +kernel
theorem dX4_coming_95 : decode cX4_coming 95 = .ok (.goto 51, 3) := by decide +kernel
theorem dX4_coming_98 : decode cX4_coming 98 = .ok (.aload_n 0, 1) := by decide +kernel
theorem dX4_coming_99 : decode cX4_coming 99 = .ok (.getfield 9, 3) := by decide +kernel
theorem dX4_coming_102 : decode cX4_coming 102 = .ok (.bipush 30, 2) := by decide +kernel
theorem dX4_coming_104 : decode cX4_coming 104 = .ok (.iload_n 2, 1) := by decide +kernel
theorem dX4_coming_105 : decode cX4_coming 105 = .ok (.invokevirtual 36, 3) := by decide +kernel
theorem dX4_coming_108 : decode cX4_coming 108 = .ok (.aload_n 0, 1) := by decide +kernel
theorem dX4_coming_109 : decode cX4_coming 109 = .ok (.iload_n 2, 1) := by decide +kernel
theorem dX4_coming_110 : decode cX4_coming 110 = .ok (.invokevirtual 82, 3) := by decide +kernel
theorem dX4_coming_113 : decode cX4_coming 113 = .ok (.goto 33, 3) := by decide +kernel
theorem dX4_coming_116 : decode cX4_coming 116 = .ok (.iload 4, 2) := by decide +kernel
theorem dX4_coming_118 : decode cX4_coming 118 = .ok (.ifCond .eq 12, 3) := by decide +kernel
theorem dX4_coming_121 : decode cX4_coming 121 = .ok (.aload_n 0, 1) := by decide +kernel
theorem dX4_coming_122 : decode cX4_coming 122 = .ok (.iload_n 2, 1) := by decide +kernel
theorem dX4_coming_123 : decode cX4_coming 123 = .ok (.iload_n 1, 1) := by decide +kernel
theorem dX4_coming_124 : decode cX4_coming 124 = .ok (.invokevirtual 51, 3) := by decide +kernel
theorem dX4_coming_127 : decode cX4_coming 127 = .ok (.goto 14, 3) := by decide +kernel
theorem dX4_coming_130 : decode cX4_coming 130 = .ok (.aload_n 0, 1) := by decide +kernel
theorem dX4_coming_131 : decode cX4_coming 131 = .ok (.getfield 9, 3) := by decide +kernel
theorem dX4_coming_134 : decode cX4_coming 134 = .ok (.iload_n 2, 1) := by decide +kernel
theorem dX4_coming_135 : decode cX4_coming 135 = .ok (.bipush 86, 2) := by decide +kernel
theorem dX4_coming_137 : decode cX4_coming 137 = .ok (.iload_n 2, 1) := by decide +kernel
theorem dX4_coming_138 : decode cX4_coming 138 = .ok (.invokevirtual 28, 3) := by decide +kernel
theorem dX4_coming_141 : decode cX4_coming 141 = .ok (.aload_n 0, 1) := by decide +kernel
theorem dX4_coming_142 : decode cX4_coming 142 = .ok (.iload_n 2, 1) := by decide +kernel
theorem dX4_coming_143 : decode cX4_coming 143 = .ok (.invokevirtual 54, 3) := by decide +kernel
theorem dX4_coming_146 : decode cX4_coming 146 = .ok (.return_, 1) := by decide +kernel
theorem dX4_stillToCome_0 : decode cX4_stillToCome 0 = .ok (.aload_n 0, 1) := by decide +kernel
theorem dX4_stillToCome_1 : decode cX4_stillToCome 1 = .ok (.getfield 9, 3) := by decide +kernel
theorem dX4_stillToCome_4 : decode cX4_stillToCome 4 = .ok (.iload_n 1, 1) := by decide +kernel
theorem dX4_stillToCome_5 : decode cX4_stillToCome 5 = .ok (.iconst 0, 1) := by decide +kernel
theorem dX4_stillToCome_6 : decode cX4_stillToCome 6 = .ok (.invokevirtual 85, 3) := by decide +kernel
theorem dX4_stillToCome_9 : decode cX4_stillToCome 9 = .ok (.iconst 1, 1) := by decide +kernel
theorem dX4_stillToCome_10 : decode cX4_stillToCome 10 = .ok (.if_icmp .ne 7, 3) := by decide +kernel
theorem dX4_stillToCome_13 : decode cX4_stillToCome 13 = .ok (.iconst 1, 1) := by decide +kernel
theorem dX4_stillToCome_14 : decode cX4_stillToCome 14 = .ok (.goto 4, 3) := by decide +kernel
theorem dX4_stillToCome_17 : decode cX4_stillToCome 17 = .ok (.iconst 0, 1) := by decide +kernel
theorem dX4_stillToCome_18 : decode cX4_stillToCome 18 = .ok (.istore_n 2, 1) := by decide +kernel
theorem dX4_stillToCome_19 : decode cX4_stillToCome 19 = .ok (.iload_n 2, 1) := by decide +kernel
theorem dX4_stillToCome_20 : decode cX4_stillToCome 20 = .ok (.ifCond .eq 29, 3) := by decide +kernel
theorem dX4_stillToCome_23 : decode cX4_stillToCome 23 = .ok (.aload_n 0, 1) := by decide +kernel
theorem dX4_stillToCome_24 : decode cX4_stillToCome 24 = .ok (.getfield 9, 3) := by decide +kernel
theorem dX4_stillToCome_27 : decode cX4_stillToCome 27 = .ok (.getfield 88, 3) := by decide +kernel
theorem dX4_stillToCome_30 : decode cX4_stillToCome 30 = .ok (.iconst 1, 1) := by decide +kernel
theorem dX4_stillToCome_31 : decode cX4_stillToCome 31 = .ok (.isub, 1) := by decide +kernel
theorem dX4_stillToCome_32 : decode cX4_stillToCome 32 = .ok (.aload_n 0, 1) := by decide +kernel
theorem dX4_stillToCome_33 : decode cX4_stillToCome 33 = .ok (.getfield 9, 3) := by decide +kernel
theorem dX4_stillToCome_36 : decode cX4_stillToCome 36 = .ok (.iload_n 1, 1) := by decide +kernel
theorem dX4_stillToCome_37 : decode cX4_stillToCome 37 = .ok (.bipush 18, 2) := by decide +kernel
theorem dX4_stillToCome_39 : decode cX4_stillToCome 39 = .ok (.invokevirtual 85, 3) := by decide +kernel
theorem dX4_stillToCome_42 : decode cX4_stillToCome 42 = .ok (.invokestatic 91, 3) := by decide +kernel
theorem dX4_stillToCome_45 : decode cX4_stillToCome 45 = .ok (.isub, 1) := by decide +kernel
theorem dX4_stillToCome_46 : decode cX4_stillToCome 46 = .ok (.goto 4, 3) := by decide +kernel
theorem dX4_stillToCome_49 : decode cX4_stillToCome 49 = .ok (.iconst 0, 1) := by decide +kernel
theorem dX4_stillToCome_50 : decode cX4_stillToCome 50 = .ok (.ireturn, 1) := by decide +kernel
theorem dX4_enter_0 : decode cX4_enter 0 = .ok (.aload_n 0, 1) := by decide +kernel
theorem dX4_enter_1 : decode cX4_enter 1 = .ok (.getfield 9, 3) := by decide +kernel
theorem dX4_enter_4 : decode cX4_enter 4 = .ok (.iload_n 1, 1) := by decide +kernel
theorem dX4_enter_5 : decode cX4_enter 5 = .ok (.iconst 0, 1) := by decide +kernel
theorem dX4_enter_6 : decode cX4_enter 6 = .ok (.iconst 2, 1) := by decide +kernel
theorem dX4_enter_7 : decode cX4_enter 7 = .ok (.invokevirtual 28, 3) := by decide +kernel
theorem dX4_enter_10 : decode cX4_enter 10 = .ok (.aload_n 0, 1) := by decide +kernel
theorem dX4_enter_11 : decode cX4_enter 11 = .ok (.getfield 19, 3) := by decide +kernel
theorem dX4_enter_14 : decode cX4_enter 14 = .ok (.ifCond .eq 57, 3) := by decide +kernel
theorem dX4_enter_17 : decode cX4_enter 17 = .ok (.aload_n 0, 1) := by decide +kernel
theorem dX4_enter_18 : decode cX4_enter 18 = .ok (.getfield 9, 3) := by decide +kernel
theorem dX4_enter_21 : decode cX4_enter 21 = .ok (.sipush 611, 3) := by decide +kernel
theorem dX4_enter_24 : decode cX4_enter 24 = .ok (.invokevirtual 32, 3) := by decide +kernel
theorem dX4_enter_27 : decode cX4_enter 27 = .ok (.istore_n 2, 1) := by decide +kernel
theorem dX4_enter_28 : decode cX4_enter 28 = .ok (.aload_n 0, 1) := by decide +kernel
theorem dX4_enter_29 : decode cX4_enter 29 = .ok (.getfield 15, 3) := by decide +kernel
theorem dX4_enter_32 : decode cX4_enter 32 = .ok (.iload_n 2, 1) := by decide +kernel
theorem dX4_enter_33 : decode cX4_enter 33 = .ok (.iload_n 1, 1) := by decide +kernel
theorem dX4_enter_34 : decode cX4_enter 34 = .ok (.iload_n 2, 1) := by decide +kernel
theorem dX4_enter_35 : decode cX4_enter 35 = .ok (.aload_n 0, 1) := by decide +kernel
theorem dX4_enter_36 : decode cX4_enter 36 = .ok (.getfield 9, 3) := by decide +kernel
theorem dX4_enter_39 : decode cX4_enter 39 = .ok (.sipush 612, 3) := by decide +kernel
theorem dX4_enter_42 : decode cX4_enter 42 = .ok (.iload_n 1, 1) := by decide +kernel
theorem dX4_enter_43 : decode cX4_enter 43 = .ok (.iadd, 1) := by decide +kernel
theorem dX4_enter_44 : decode cX4_enter 44 = .ok (.invokevirtual 32, 3) := by decide +kernel
theorem dX4_enter_47 : decode cX4_enter 47 = .ok (.isub, 1) := by decide +kernel
theorem dX4_enter_48 : decode cX4_enter 48 = .ok (.aload_n 0, 1) := by decide +kernel
theorem dX4_enter_49 : decode cX4_enter 49 = .ok (.getfield 9, 3) := by decide +kernel
theorem dX4_enter_52 : decode cX4_enter 52 = .ok (.invokevirtual 96, 3) := by decide +kernel
theorem dX4_enter_55 : decode cX4_enter 55 = .ok (.invokevirtual 100, 3) := by decide +kernel
theorem dX4_enter_58 : decode cX4_enter 58 = .ok (.aload_n 0, 1) := by decide +kernel
theorem dX4_enter_59 : decode cX4_enter 59 = .ok (.getfield 9, 3) := by decide +kernel
theorem dX4_enter_62 : decode cX4_enter 62 = .ok (.sipush 611, 3) := by decide +kernel
theorem dX4_enter_65 : decode cX4_enter 65 = .ok (.iload_n 2, 1) := by decide +kernel
theorem dX4_enter_66 : decode cX4_enter 66 = .ok (.iconst 1, 1) := by decide +kernel
theorem dX4_enter_67 : decode cX4_enter 67 = .ok (.iadd, 1) := by decide +kernel
theorem dX4_enter_68 : decode cX4_enter 68 = .ok (.invokevirtual 36, 3) := by decide +kernel
theorem dX4_enter_71 : decode cX4_enter 71 = .ok (.return_, 1) := by decide +kernel
theorem dX4_wantedByAsking_0 : decode cX4_wantedByAsking 0 = .ok (.aload_n 0, 1) := by decide +kernel
theorem dX4_wantedByAsking_1 : decode cX4_wantedByAsking 1 = .ok (.getfield 9, 3) := by decide +kernel
theorem dX4_wantedByAsking_4 : decode cX4_wantedByAsking 4 = .ok (.iload_n 1, 1) := by decide +kernel
theorem dX4_wantedByAsking_5 : decode cX4_wantedByAsking 5 = .ok (.bipush 6, 2) := by decide +kernel
theorem dX4_wantedByAsking_7 : decode cX4_wantedByAsking 7 = .ok (.invokevirtual 85, 3) := by decide +kernel
theorem dX4_wantedByAsking_10 : decode cX4_wantedByAsking 10 = .ok (.iconst 1, 1) := by decide +kernel
theorem dX4_wantedByAsking_11 : decode cX4_wantedByAsking 11 = .ok (.iadd, 1) := by decide +kernel
theorem dX4_wantedByAsking_12 : decode cX4_wantedByAsking 12 = .ok (.istore_n 2, 1) := by decide +kernel
theorem dX4_wantedByAsking_13 : decode cX4_wantedByAsking 13 = .ok (.aload_n 0, 1) := by decide +kernel
theorem dX4_wantedByAsking_14 : decode cX4_wantedByAsking 14 = .ok (.getfield 9, 3) := by decide +kernel
theorem dX4_wantedByAsking_17 : decode cX4_wantedByAsking 17 = .ok (.iload_n 1, 1) := by decide +kernel
theorem dX4_wantedByAsking_18 : decode cX4_wantedByAsking 18 = .ok (.bipush 6, 2) := by decide +kernel
theorem dX4_wantedByAsking_20 : decode cX4_wantedByAsking 20 = .ok (.iload_n 2, 1) := by decide +kernel
theorem dX4_wantedByAsking_21 : decode cX4_wantedByAsking 21 = .ok (.invokevirtual 28, 3) := by decide +kernel
theorem dX4_wantedByAsking_24 : decode cX4_wantedByAsking 24 = .ok (.aload_n 0, 1) := by decide +kernel
theorem dX4_wantedByAsking_25 : decode cX4_wantedByAsking 25 = .ok (.getfield 9, 3) := by decide +kernel
theorem dX4_wantedByAsking_28 : decode cX4_wantedByAsking 28 = .ok (.iload_n 1, 1) := by decide +kernel
theorem dX4_wantedByAsking_29 : decode cX4_wantedByAsking 29 = .ok (.bipush 12, 2) := by decide +kernel
theorem dX4_wantedByAsking_31 : decode cX4_wantedByAsking 31 = .ok (.iload_n 2, 1) := by decide +kernel
theorem dX4_wantedByAsking_32 : decode cX4_wantedByAsking 32 = .ok (.invokevirtual 28, 3) := by decide +kernel
theorem dX4_wantedByAsking_35 : decode cX4_wantedByAsking 35 = .ok (.aload_n 0, 1) := by decide +kernel
theorem dX4_wantedByAsking_36 : decode cX4_wantedByAsking 36 = .ok (.getfield 9, 3) := by decide +kernel
theorem dX4_wantedByAsking_39 : decode cX4_wantedByAsking 39 = .ok (.iload_n 1, 1) := by decide +kernel
theorem dX4_wantedByAsking_40 : decode cX4_wantedByAsking 40 = .ok (.bipush 18, 2) := by decide +kernel
theorem dX4_wantedByAsking_42 : decode cX4_wantedByAsking 42 = .ok (.iconst 0, 1) := by decide +kernel
theorem dX4_wantedByAsking_43 : decode cX4_wantedByAsking 43 = .ok (.invokevirtual 28, 3) := by decide +kernel
theorem dX4_wantedByAsking_46 : decode cX4_wantedByAsking 46 = .ok (.aload_n 0, 1) := by decide +kernel
theorem dX4_wantedByAsking_47 : decode cX4_wantedByAsking 47 = .ok (.getfield 9, 3) := by decide +kernel
theorem dX4_wantedByAsking_50 : decode cX4_wantedByAsking 50 = .ok (.iload_n 1, 1) := by decide +kernel
theorem dX4_wantedByAsking_51 : decode cX4_wantedByAsking 51 = .ok (.iconst 0, 1) := by decide +kernel
theorem dX4_wantedByAsking_52 : decode cX4_wantedByAsking 52 = .ok (.iload_n 2, 1) := by decide +kernel
theorem dX4_wantedByAsking_53 : decode cX4_wantedByAsking 53 = .ok (.invokevirtual 106, 3) := by decide +kernel
theorem dX4_wantedByAsking_56 : decode cX4_wantedByAsking 56 = .ok (.return_, 1) := by decide +kernel
theorem dX4_askedByAsking_0 : decode cX4_askedByAsking 0 = .ok (.aload_n 0, 1) := by decide +kernel
theorem dX4_askedByAsking_1 : decode cX4_askedByAsking 1 = .ok (.getfield 9, 3) := by decide +kernel
theorem dX4_askedByAsking_4 : decode cX4_askedByAsking 4 = .ok (.iload_n 1, 1) := by decide +kernel
theorem dX4_askedByAsking_5 : decode cX4_askedByAsking 5 = .ok (.bipush 6, 2) := by decide +kernel
theorem dX4_askedByAsking_7 : decode cX4_askedByAsking 7 = .ok (.aload_n 0, 1) := by decide +kernel
theorem dX4_askedByAsking_8 : decode cX4_askedByAsking 8 = .ok (.getfield 9, 3) := by decide +kernel
theorem dX4_askedByAsking_11 : decode cX4_askedByAsking 11 = .ok (.iload_n 1, 1) := by decide +kernel
theorem dX4_askedByAsking_12 : decode cX4_askedByAsking 12 = .ok (.bipush 6, 2) := by decide +kernel
theorem dX4_askedByAsking_14 : decode cX4_askedByAsking 14 = .ok (.invokevirtual 85, 3) := by decide +kernel
theorem dX4_askedByAsking_17 : decode cX4_askedByAsking 17 = .ok (.iload_n 3, 1) := by decide +kernel
theorem dX4_askedByAsking_18 : decode cX4_askedByAsking 18 = .ok (.invokestatic 109, 3) := by decide +kernel
theorem dX4_askedByAsking_21 : decode cX4_askedByAsking 21 = .ok (.iconst 1, 1) := by decide +kernel
theorem dX4_askedByAsking_22 : decode cX4_askedByAsking 22 = .ok (.iadd, 1) := by decide +kernel
theorem dX4_askedByAsking_23 : decode cX4_askedByAsking 23 = .ok (.invokevirtual 28, 3) := by decide +kernel
theorem dX4_askedByAsking_26 : decode cX4_askedByAsking 26 = .ok (.aload_n 0, 1) := by decide +kernel
theorem dX4_askedByAsking_27 : decode cX4_askedByAsking 27 = .ok (.iload_n 1, 1) := by decide +kernel
theorem dX4_askedByAsking_28 : decode cX4_askedByAsking 28 = .ok (.iload_n 2, 1) := by decide +kernel
theorem dX4_askedByAsking_29 : decode cX4_askedByAsking 29 = .ok (.iload_n 3, 1) := by decide +kernel
theorem dX4_askedByAsking_30 : decode cX4_askedByAsking 30 = .ok (.invokevirtual 114, 3) := by decide +kernel
theorem dX4_askedByAsking_33 : decode cX4_askedByAsking 33 = .ok (.ifCond .eq 30, 3) := by decide +kernel
theorem dX4_askedByAsking_36 : decode cX4_askedByAsking 36 = .ok (.aload_n 0, 1) := by decide +kernel
theorem dX4_askedByAsking_37 : decode cX4_askedByAsking 37 = .ok (.getfield 9, 3) := by decide +kernel
theorem dX4_askedByAsking_40 : decode cX4_askedByAsking 40 = .ok (.iload_n 1, 1) := by decide +kernel
theorem dX4_askedByAsking_41 : decode cX4_askedByAsking 41 = .ok (.bipush 24, 2) := by decide +kernel
theorem dX4_askedByAsking_43 : decode cX4_askedByAsking 43 = .ok (.aload_n 0, 1) := by decide +kernel
theorem dX4_askedByAsking_44 : decode cX4_askedByAsking 44 = .ok (.getfield 9, 3) := by decide +kernel
theorem dX4_askedByAsking_47 : decode cX4_askedByAsking 47 = .ok (.iload_n 1, 1) := by decide +kernel
theorem dX4_askedByAsking_48 : decode cX4_askedByAsking 48 = .ok (.bipush 24, 2) := by decide +kernel
theorem dX4_askedByAsking_50 : decode cX4_askedByAsking 50 = .ok (.invokevirtual 85, 3) := by decide +kernel
theorem dX4_askedByAsking_53 : decode cX4_askedByAsking 53 = .ok (.iconst 1, 1) := by decide +kernel
theorem dX4_askedByAsking_54 : decode cX4_askedByAsking 54 = .ok (.iload_n 2, 1) := by decide +kernel
theorem dX4_askedByAsking_55 : decode cX4_askedByAsking 55 = .ok (.ishl, 1) := by decide +kernel
theorem dX4_askedByAsking_56 : decode cX4_askedByAsking 56 = .ok (.ior, 1) := by decide +kernel
theorem dX4_askedByAsking_57 : decode cX4_askedByAsking 57 = .ok (.invokevirtual 28, 3) := by decide +kernel
theorem dX4_askedByAsking_60 : decode cX4_askedByAsking 60 = .ok (.goto 14, 3) := by decide +kernel
theorem dX4_askedByAsking_63 : decode cX4_askedByAsking 63 = .ok (.aload_n 0, 1) := by decide +kernel
theorem dX4_askedByAsking_64 : decode cX4_askedByAsking 64 = .ok (.getfield 9, 3) := by decide +kernel
theorem dX4_askedByAsking_67 : decode cX4_askedByAsking 67 = .ok (.iload_n 1, 1) := by decide +kernel
theorem dX4_askedByAsking_68 : decode cX4_askedByAsking 68 = .ok (.iload_n 2, 1) := by decide +kernel
theorem dX4_askedByAsking_69 : decode cX4_askedByAsking 69 = .ok (.iconst 1, 1) := by decide +kernel
theorem dX4_askedByAsking_70 : decode cX4_askedByAsking 70 = .ok (.iconst 0, 1) := by decide +kernel
theorem dX4_askedByAsking_71 : decode cX4_askedByAsking 71 = .ok (.invokevirtual 118, 3) := by decide +kernel
theorem dX4_askedByAsking_74 : decode cX4_askedByAsking 74 = .ok (.return_, 1) := by decide +kernel
theorem dX4_goesBefore_0 : decode cX4_goesBefore 0 = .ok (.aload_n 0, 1) := by decide +kernel
theorem dX4_goesBefore_1 : decode cX4_goesBefore 1 = .ok (.getfield 9, 3) := by decide +kernel
theorem dX4_goesBefore_4 : decode cX4_goesBefore 4 = .ok (.iload_n 1, 1) := by decide +kernel
theorem dX4_goesBefore_5 : decode cX4_goesBefore 5 = .ok (.iconst 0, 1) := by decide +kernel
theorem dX4_goesBefore_6 : decode cX4_goesBefore 6 = .ok (.invokevirtual 85, 3) := by decide +kernel
theorem dX4_goesBefore_9 : decode cX4_goesBefore 9 = .ok (.istore 4, 2) := by decide +kernel
theorem dX4_goesBefore_11 : decode cX4_goesBefore 11 = .ok (.aload_n 0, 1) := by decide +kernel
theorem dX4_goesBefore_12 : decode cX4_goesBefore 12 = .ok (.getfield 9, 3) := by decide +kernel
theorem dX4_goesBefore_15 : decode cX4_goesBefore 15 = .ok (.iload_n 1, 1) := by decide +kernel
theorem dX4_goesBefore_16 : decode cX4_goesBefore 16 = .ok (.bipush 12, 2) := by decide +kernel
theorem dX4_goesBefore_18 : decode cX4_goesBefore 18 = .ok (.invokevirtual 85, 3) := by decide +kernel
theorem dX4_goesBefore_21 : decode cX4_goesBefore 21 = .ok (.istore 5, 2) := by decide +kernel
theorem dX4_goesBefore_23 : decode cX4_goesBefore 23 = .ok (.iload 4, 2) := by decide +kernel
theorem dX4_goesBefore_25 : decode cX4_goesBefore 25 = .ok (.iconst 2, 1) := by decide +kernel
theorem dX4_goesBefore_26 : decode cX4_goesBefore 26 = .ok (.if_icmp .eq 26, 3) := by decide +kernel
theorem dX4_goesBefore_29 : decode cX4_goesBefore 29 = .ok (.iload 4, 2) := by decide +kernel
theorem dX4_goesBefore_31 : decode cX4_goesBefore 31 = .ok (.iconst 1, 1) := by decide +kernel
theorem dX4_goesBefore_32 : decode cX4_goesBefore 32 = .ok (.if_icmp .ne 24, 3) := by decide +kernel
theorem dX4_goesBefore_35 : decode cX4_goesBefore 35 = .ok (.iload 5, 2) := by decide +kernel
theorem dX4_goesBefore_37 : decode cX4_goesBefore 37 = .ok (.iload_n 3, 1) := by decide +kernel
theorem dX4_goesBefore_38 : decode cX4_goesBefore 38 = .ok (.if_icmp .lt 14, 3) := by decide +kernel
theorem dX4_goesBefore_41 : decode cX4_goesBefore 41 = .ok (.iload 5, 2) := by decide +kernel
theorem dX4_goesBefore_43 : decode cX4_goesBefore 43 = .ok (.iload_n 3, 1) := by decide +kernel
theorem dX4_goesBefore_44 : decode cX4_goesBefore 44 = .ok (.if_icmp .ne 12, 3) := by decide +kernel
theorem dX4_goesBefore_47 : decode cX4_goesBefore 47 = .ok (.iload_n 1, 1) := by decide +kernel
theorem dX4_goesBefore_48 : decode cX4_goesBefore 48 = .ok (.iload_n 2, 1) := by decide +kernel
theorem dX4_goesBefore_49 : decode cX4_goesBefore 49 = .ok (.if_icmp .ge 7, 3) := by decide +kernel
theorem dX4_goesBefore_52 : decode cX4_goesBefore 52 = .ok (.iconst 1, 1) := by decide +kernel
theorem dX4_goesBefore_53 : decode cX4_goesBefore 53 = .ok (.goto 4, 3) := by decide +kernel
theorem dX4_goesBefore_56 : decode cX4_goesBefore 56 = .ok (.iconst 0, 1) := by decide +kernel
theorem dX4_goesBefore_57 : decode cX4_goesBefore 57 = .ok (.ireturn, 1) := by decide +kernel
theorem dX4_given_0 : decode cX4_given 0 = .ok (.aload_n 0, 1) := by decide +kernel
theorem dX4_given_1 : decode cX4_given 1 = .ok (.getfield 9, 3) := by decide +kernel
theorem dX4_given_4 : decode cX4_given 4 = .ok (.iload_n 1, 1) := by decide +kernel
theorem dX4_given_5 : decode cX4_given 5 = .ok (.bipush 18, 2) := by decide +kernel
theorem dX4_given_7 : decode cX4_given 7 = .ok (.aload_n 0, 1) := by decide +kernel
theorem dX4_given_8 : decode cX4_given 8 = .ok (.getfield 9, 3) := by decide +kernel
theorem dX4_given_11 : decode cX4_given 11 = .ok (.iload_n 1, 1) := by decide +kernel
theorem dX4_given_12 : decode cX4_given 12 = .ok (.bipush 18, 2) := by decide +kernel
theorem dX4_given_14 : decode cX4_given 14 = .ok (.invokevirtual 85, 3) := by decide +kernel
theorem dX4_given_17 : decode cX4_given 17 = .ok (.iconst 1, 1) := by decide +kernel
theorem dX4_given_18 : decode cX4_given 18 = .ok (.iload_n 2, 1) := by decide +kernel
theorem dX4_given_19 : decode cX4_given 19 = .ok (.ishl, 1) := by decide +kernel
theorem dX4_given_20 : decode cX4_given 20 = .ok (.ior, 1) := by decide +kernel
theorem dX4_given_21 : decode cX4_given 21 = .ok (.invokevirtual 28, 3) := by decide +kernel
theorem dX4_given_24 : decode cX4_given 24 = .ok (.aload_n 0, 1) := by decide +kernel
theorem dX4_given_25 : decode cX4_given 25 = .ok (.getfield 9, 3) := by decide +kernel
theorem dX4_given_28 : decode cX4_given 28 = .ok (.iload_n 1, 1) := by decide +kernel
theorem dX4_given_29 : decode cX4_given 29 = .ok (.iconst 0, 1) := by decide +kernel
theorem dX4_given_30 : decode cX4_given 30 = .ok (.invokevirtual 85, 3) := by decide +kernel
theorem dX4_given_33 : decode cX4_given 33 = .ok (.iconst 1, 1) := by decide +kernel
theorem dX4_given_34 : decode cX4_given 34 = .ok (.if_icmp .ne 16, 3) := by decide +kernel
theorem dX4_given_37 : decode cX4_given 37 = .ok (.aload_n 0, 1) := by decide +kernel
theorem dX4_given_38 : decode cX4_given 38 = .ok (.iload_n 1, 1) := by decide +kernel
theorem dX4_given_39 : decode cX4_given 39 = .ok (.invokevirtual 121, 3) := by decide +kernel
theorem dX4_given_42 : decode cX4_given 42 = .ok (.ifCond .ne 8, 3) := by decide +kernel
theorem dX4_given_45 : decode cX4_given 45 = .ok (.aload_n 0, 1) := by decide +kernel
theorem dX4_given_46 : decode cX4_given 46 = .ok (.iload_n 1, 1) := by decide +kernel
theorem dX4_given_47 : decode cX4_given 47 = .ok (.invokevirtual 82, 3) := by decide +kernel
theorem dX4_given_50 : decode cX4_given 50 = .ok (.return_, 1) := by decide +kernel
theorem dX4_leftByAsking_0 : decode cX4_leftByAsking 0 = .ok (.aload_n 0, 1) := by decide +kernel
theorem dX4_leftByAsking_1 : decode cX4_leftByAsking 1 = .ok (.getfield 9, 3) := by decide +kernel
theorem dX4_leftByAsking_4 : decode cX4_leftByAsking 4 = .ok (.iload_n 1, 1) := by decide +kernel
theorem dX4_leftByAsking_5 : decode cX4_leftByAsking 5 = .ok (.bipush 24, 2) := by decide +kernel
theorem dX4_leftByAsking_7 : decode cX4_leftByAsking 7 = .ok (.invokevirtual 85, 3) := by decide +kernel
theorem dX4_leftByAsking_10 : decode cX4_leftByAsking 10 = .ok (.istore_n 2, 1) := by decide +kernel
theorem dX4_leftByAsking_11 : decode cX4_leftByAsking 11 = .ok (.iconst 0, 1) := by decide +kernel
theorem dX4_leftByAsking_12 : decode cX4_leftByAsking 12 = .ok (.istore_n 3, 1) := by decide +kernel
theorem dX4_leftByAsking_13 : decode cX4_leftByAsking 13 = .ok (.iload_n 3, 1) := by decide +kernel
theorem dX4_leftByAsking_14 : decode cX4_leftByAsking 14 = .ok (.aload_n 0, 1) := by decide +kernel
theorem dX4_leftByAsking_15 : decode cX4_leftByAsking 15 = .ok (.getfield 9, 3) := by decide +kernel
theorem dX4_leftByAsking_18 : decode cX4_leftByAsking 18 = .ok (.getfield 88, 3) := by decide +kernel
theorem dX4_leftByAsking_21 : decode cX4_leftByAsking 21 = .ok (.if_icmp .ge 28, 3) := by decide +kernel
theorem dX4_leftByAsking_24 : decode cX4_leftByAsking 24 = .ok (.iload_n 2, 1) := by decide +kernel
theorem dX4_leftByAsking_25 : decode cX4_leftByAsking 25 = .ok (.iload_n 3, 1) := by decide +kernel
theorem dX4_leftByAsking_26 : decode cX4_leftByAsking 26 = .ok (.ishr, 1) := by decide +kernel
theorem dX4_leftByAsking_27 : decode cX4_leftByAsking 27 = .ok (.iconst 1, 1) := by decide +kernel
theorem dX4_leftByAsking_28 : decode cX4_leftByAsking 28 = .ok (.iand, 1) := by decide +kernel
theorem dX4_leftByAsking_29 : decode cX4_leftByAsking 29 = .ok (.ifCond .eq 14, 3) := by decide +kernel
theorem dX4_leftByAsking_32 : decode cX4_leftByAsking 32 = .ok (.aload_n 0, 1) := by decide +kernel
theorem dX4_leftByAsking_33 : decode cX4_leftByAsking 33 = .ok (.getfield 9, 3) := by decide +kernel
theorem dX4_leftByAsking_36 : decode cX4_leftByAsking 36 = .ok (.iload_n 1, 1) := by decide +kernel
theorem dX4_leftByAsking_37 : decode cX4_leftByAsking 37 = .ok (.iload_n 3, 1) := by decide +kernel
theorem dX4_leftByAsking_38 : decode cX4_leftByAsking 38 = .ok (.iconst 1, 1) := by decide +kernel
theorem dX4_leftByAsking_39 : decode cX4_leftByAsking 39 = .ok (.iconst 0, 1) := by decide +kernel
theorem dX4_leftByAsking_40 : decode cX4_leftByAsking 40 = .ok (.invokevirtual 118, 3) := by decide +kernel
theorem dX4_leftByAsking_43 : decode cX4_leftByAsking 43 = .ok (.iinc 3 1, 3) := by decide +kernel
theorem dX4_leftByAsking_46 : decode cX4_leftByAsking 46 = .ok (.goto (-33), 3) := by decide +kernel
theorem dX4_leftByAsking_49 : decode cX4_leftByAsking 49 = .ok (.aload_n 0, 1) := by decide +kernel
theorem dX4_leftByAsking_50 : decode cX4_leftByAsking 50 = .ok (.getfield 9, 3) := by decide +kernel
theorem dX4_leftByAsking_53 : decode cX4_leftByAsking 53 = .ok (.iload_n 1, 1) := by decide +kernel
theorem dX4_leftByAsking_54 : decode cX4_leftByAsking 54 = .ok (.bipush 24, 2) := by decide +kernel
theorem dX4_leftByAsking_56 : decode cX4_leftByAsking 56 = .ok (.iconst 0, 1) := by decide +kernel
theorem dX4_leftByAsking_57 : decode cX4_leftByAsking 57 = .ok (.invokevirtual 28, 3) := by decide +kernel
theorem dX4_leftByAsking_60 : decode cX4_leftByAsking 60 = .ok (.return_, 1) := by decide +kernel
theorem dX4_wantedByToken_0 : decode cX4_wantedByToken 0 = .ok (.aload_n 0, 1) := by decide +kernel
theorem dX4_wantedByToken_1 : decode cX4_wantedByToken 1 = .ok (.getfield 9, 3) := by decide +kernel
theorem dX4_wantedByToken_4 : decode cX4_wantedByToken 4 = .ok (.iload_n 1, 1) := by decide +kernel
theorem dX4_wantedByToken_5 : decode cX4_wantedByToken 5 = .ok (.invokevirtual 124, 3) := by decide +kernel
theorem dX4_wantedByToken_8 : decode cX4_wantedByToken 8 = .ok (.ifCond .eq 9, 3) := by decide +kernel
theorem dX4_wantedByToken_11 : decode cX4_wantedByToken 11 = .ok (.aload_n 0, 1) := by decide +kernel
theorem dX4_wantedByToken_12 : decode cX4_wantedByToken 12 = .ok (.iload_n 1, 1) := by decide +kernel
theorem dX4_wantedByToken_13 : decode cX4_wantedByToken 13 = .ok (.invokevirtual 82, 3) := by decide +kernel
theorem dX4_wantedByToken_16 : decode cX4_wantedByToken 16 = .ok (.return_, 1) := by decide +kernel
theorem dX4_wantedByToken_17 : decode cX4_wantedByToken 17 = .ok (.aload_n 0, 1) := by decide +kernel
theorem dX4_wantedByToken_18 : decode cX4_wantedByToken 18 = .ok (.getfield 9, 3) := by decide +kernel
theorem dX4_wantedByToken_21 : decode cX4_wantedByToken 21 = .ok (.iload_n 1, 1) := by decide +kernel
theorem dX4_wantedByToken_22 : decode cX4_wantedByToken 22 = .ok (.iload_n 1, 1) := by decide +kernel
theorem dX4_wantedByToken_23 : decode cX4_wantedByToken 23 = .ok (.invokevirtual 128, 3) := by decide +kernel
theorem dX4_wantedByToken_26 : decode cX4_wantedByToken 26 = .ok (.iconst 1, 1) := by decide +kernel
theorem dX4_wantedByToken_27 : decode cX4_wantedByToken 27 = .ok (.iadd, 1) := by decide +kernel
theorem dX4_wantedByToken_28 : decode cX4_wantedByToken 28 = .ok (.istore_n 2, 1) := by decide +kernel
theorem dX4_wantedByToken_29 : decode cX4_wantedByToken 29 = .ok (.aload_n 0, 1) := by decide +kernel
theorem dX4_wantedByToken_30 : decode cX4_wantedByToken 30 = .ok (.getfield 9, 3) := by decide +kernel
theorem dX4_wantedByToken_33 : decode cX4_wantedByToken 33 = .ok (.iload_n 1, 1) := by decide +kernel
theorem dX4_wantedByToken_34 : decode cX4_wantedByToken 34 = .ok (.iload_n 1, 1) := by decide +kernel
theorem dX4_wantedByToken_35 : decode cX4_wantedByToken 35 = .ok (.iload_n 2, 1) := by decide +kernel
theorem dX4_wantedByToken_36 : decode cX4_wantedByToken 36 = .ok (.invokevirtual 131, 3) := by decide +kernel
theorem dX4_wantedByToken_39 : decode cX4_wantedByToken 39 = .ok (.aload_n 0, 1) := by decide +kernel
theorem dX4_wantedByToken_40 : decode cX4_wantedByToken 40 = .ok (.getfield 9, 3) := by decide +kernel
theorem dX4_wantedByToken_43 : decode cX4_wantedByToken 43 = .ok (.iload_n 1, 1) := by decide +kernel
theorem dX4_wantedByToken_44 : decode cX4_wantedByToken 44 = .ok (.iconst 0, 1) := by decide +kernel
theorem dX4_wantedByToken_45 : decode cX4_wantedByToken 45 = .ok (.iload_n 2, 1) := by decide +kernel
theorem dX4_wantedByToken_46 : decode cX4_wantedByToken 46 = .ok (.invokevirtual 106, 3) := by decide +kernel
theorem dX4_wantedByToken_49 : decode cX4_wantedByToken 49 = .ok (.return_, 1) := by decide +kernel
theorem dX4_askedByToken_0 : decode cX4_askedByToken 0 = .ok (.aload_n 0, 1) := by decide +kernel
theorem dX4_askedByToken_1 : decode cX4_askedByToken 1 = .ok (.getfield 9, 3) := by decide +kernel
theorem dX4_askedByToken_4 : decode cX4_askedByToken 4 = .ok (.iload_n 1, 1) := by decide +kernel
theorem dX4_askedByToken_5 : decode cX4_askedByToken 5 = .ok (.iload_n 2, 1) := by decide +kernel
theorem dX4_askedByToken_6 : decode cX4_askedByToken 6 = .ok (.aload_n 0, 1) := by decide +kernel
theorem dX4_askedByToken_7 : decode cX4_askedByToken 7 = .ok (.getfield 9, 3) := by decide +kernel
theorem dX4_askedByToken_10 : decode cX4_askedByToken 10 = .ok (.iload_n 1, 1) := by decide +kernel
theorem dX4_askedByToken_11 : decode cX4_askedByToken 11 = .ok (.iload_n 2, 1) := by decide +kernel
theorem dX4_askedByToken_12 : decode cX4_askedByToken 12 = .ok (.invokevirtual 128, 3) := by decide +kernel
theorem dX4_askedByToken_15 : decode cX4_askedByToken 15 = .ok (.iload_n 3, 1) := by decide +kernel
theorem dX4_askedByToken_16 : decode cX4_askedByToken 16 = .ok (.invokestatic 109, 3) := by decide +kernel
theorem dX4_askedByToken_19 : decode cX4_askedByToken 19 = .ok (.invokevirtual 131, 3) := by decide +kernel
theorem dX4_askedByToken_22 : decode cX4_askedByToken 22 = .ok (.aload_n 0, 1) := by decide +kernel
theorem dX4_askedByToken_23 : decode cX4_askedByToken 23 = .ok (.getfield 9, 3) := by decide +kernel
theorem dX4_askedByToken_26 : decode cX4_askedByToken 26 = .ok (.iload_n 1, 1) := by decide +kernel
theorem dX4_askedByToken_27 : decode cX4_askedByToken 27 = .ok (.invokevirtual 124, 3) := by decide +kernel
theorem dX4_askedByToken_30 : decode cX4_askedByToken 30 = .ok (.ifCond .eq 30, 3) := by decide +kernel
theorem dX4_askedByToken_33 : decode cX4_askedByToken 33 = .ok (.aload_n 0, 1) := by decide +kernel
theorem dX4_askedByToken_34 : decode cX4_askedByToken 34 = .ok (.getfield 9, 3) := by decide +kernel
theorem dX4_askedByToken_37 : decode cX4_askedByToken 37 = .ok (.iload_n 1, 1) := by decide +kernel
theorem dX4_askedByToken_38 : decode cX4_askedByToken 38 = .ok (.iconst 0, 1) := by decide +kernel
theorem dX4_askedByToken_39 : decode cX4_askedByToken 39 = .ok (.invokevirtual 85, 3) := by decide +kernel
theorem dX4_askedByToken_42 : decode cX4_askedByToken 42 = .ok (.ifCond .ne 18, 3) := by decide +kernel
theorem dX4_askedByToken_45 : decode cX4_askedByToken 45 = .ok (.aload_n 0, 1) := by decide +kernel
theorem dX4_askedByToken_46 : decode cX4_askedByToken 46 = .ok (.iload_n 1, 1) := by decide +kernel
theorem dX4_askedByToken_47 : decode cX4_askedByToken 47 = .ok (.iload_n 2, 1) := by decide +kernel
theorem dX4_askedByToken_48 : decode cX4_askedByToken 48 = .ok (.invokevirtual 134, 3) := by decide +kernel
theorem dX4_askedByToken_51 : decode cX4_askedByToken 51 = .ok (.ifCond .eq 9, 3) := by decide +kernel
theorem dX4_askedByToken_54 : decode cX4_askedByToken 54 = .ok (.aload_n 0, 1) := by decide +kernel
theorem dX4_askedByToken_55 : decode cX4_askedByToken 55 = .ok (.iload_n 1, 1) := by decide +kernel
theorem dX4_askedByToken_56 : decode cX4_askedByToken 56 = .ok (.iload_n 2, 1) := by decide +kernel
theorem dX4_askedByToken_57 : decode cX4_askedByToken 57 = .ok (.invokevirtual 138, 3) := by decide +kernel
theorem dX4_askedByToken_60 : decode cX4_askedByToken 60 = .ok (.return_, 1) := by decide +kernel
theorem dX4_isDue_0 : decode cX4_isDue 0 = .ok (.aload_n 0, 1) := by decide +kernel
theorem dX4_isDue_1 : decode cX4_isDue 1 = .ok (.getfield 9, 3) := by decide +kernel
theorem dX4_isDue_4 : decode cX4_isDue 4 = .ok (.iload_n 1, 1) := by decide +kernel
theorem dX4_isDue_5 : decode cX4_isDue 5 = .ok (.iload_n 2, 1) := by decide +kernel
theorem dX4_isDue_6 : decode cX4_isDue 6 = .ok (.invokevirtual 128, 3) := by decide +kernel
theorem dX4_isDue_9 : decode cX4_isDue 9 = .ok (.aload_n 0, 1) := by decide +kernel
theorem dX4_isDue_10 : decode cX4_isDue 10 = .ok (.getfield 9, 3) := by decide +kernel
theorem dX4_isDue_13 : decode cX4_isDue 13 = .ok (.bipush 31, 2) := by decide +kernel
theorem dX4_isDue_15 : decode cX4_isDue 15 = .ok (.iload_n 2, 1) := by decide +kernel
theorem dX4_isDue_16 : decode cX4_isDue 16 = .ok (.iadd, 1) := by decide +kernel
theorem dX4_isDue_17 : decode cX4_isDue 17 = .ok (.invokevirtual 32, 3) := by decide +kernel
theorem dX4_isDue_20 : decode cX4_isDue 20 = .ok (.iconst 1, 1) := by decide +kernel
theorem dX4_isDue_21 : decode cX4_isDue 21 = .ok (.iadd, 1) := by decide +kernel
theorem dX4_isDue_22 : decode cX4_isDue 22 = .ok (.if_icmp .ne 7, 3) := by decide +kernel
theorem dX4_isDue_25 : decode cX4_isDue 25 = .ok (.iconst 1, 1) := by decide +kernel
theorem dX4_isDue_26 : decode cX4_isDue 26 = .ok (.goto 4, 3) := by decide +kernel
theorem dX4_isDue_29 : decode cX4_isDue 29 = .ok (.iconst 0, 1) := by decide +kernel
theorem dX4_isDue_30 : decode cX4_isDue 30 = .ok (.ireturn, 1) := by decide +kernel
theorem dX4_passToken_0 : decode cX4_passToken 0 = .ok (.aload_n 0, 1) := by decide +kernel
theorem dX4_passToken_1 : decode cX4_passToken 1 = .ok (.getfield 9, 3) := by decide +kernel
theorem dX4_passToken_4 : decode cX4_passToken 4 = .ok (.bipush 30, 2) := by decide +kernel
theorem dX4_passToken_6 : decode cX4_passToken 6 = .ok (.iconst (-1), 1) := by decide +kernel
theorem dX4_passToken_7 : decode cX4_passToken 7 = .ok (.invokevirtual 36, 3) := by decide +kernel
theorem dX4_passToken_10 : decode cX4_passToken 10 = .ok (.aload_n 0, 1) := by decide +kernel
theorem dX4_passToken_11 : decode cX4_passToken 11 = .ok (.getfield 9, 3) := by decide +kernel
theorem dX4_passToken_14 : decode cX4_passToken 14 = .ok (.iload_n 1, 1) := by decide +kernel
theorem dX4_passToken_15 : decode cX4_passToken 15 = .ok (.iload_n 2, 1) := by decide +kernel
theorem dX4_passToken_16 : decode cX4_passToken 16 = .ok (.iconst 2, 1) := by decide +kernel
theorem dX4_passToken_17 : decode cX4_passToken 17 = .ok (.iconst 0, 1) := by decide +kernel
theorem dX4_passToken_18 : decode cX4_passToken 18 = .ok (.invokevirtual 118, 3) := by decide +kernel
theorem dX4_passToken_21 : decode cX4_passToken 21 = .ok (.return_, 1) := by decide +kernel
theorem dX4_leftByToken_0 : decode cX4_leftByToken 0 = .ok (.aload_n 0, 1) := by decide +kernel
theorem dX4_leftByToken_1 : decode cX4_leftByToken 1 = .ok (.getfield 9, 3) := by decide +kernel
theorem dX4_leftByToken_4 : decode cX4_leftByToken 4 = .ok (.bipush 31, 2) := by decide +kernel
theorem dX4_leftByToken_6 : decode cX4_leftByToken 6 = .ok (.iload_n 1, 1) := by decide +kernel
theorem dX4_leftByToken_7 : decode cX4_leftByToken 7 = .ok (.iadd, 1) := by decide +kernel
theorem dX4_leftByToken_8 : decode cX4_leftByToken 8 = .ok (.aload_n 0, 1) := by decide +kernel
theorem dX4_leftByToken_9 : decode cX4_leftByToken 9 = .ok (.getfield 9, 3) := by decide +kernel
theorem dX4_leftByToken_12 : decode cX4_leftByToken 12 = .ok (.iload_n 1, 1) := by decide +kernel
theorem dX4_leftByToken_13 : decode cX4_leftByToken 13 = .ok (.iload_n 1, 1) := by decide +kernel
theorem dX4_leftByToken_14 : decode cX4_leftByToken 14 = .ok (.invokevirtual 128, 3) := by decide +kernel
theorem dX4_leftByToken_17 : decode cX4_leftByToken 17 = .ok (.invokevirtual 36, 3) := by decide +kernel
theorem dX4_leftByToken_20 : decode cX4_leftByToken 20 = .ok (.iconst 0, 1) := by decide +kernel
theorem dX4_leftByToken_21 : decode cX4_leftByToken 21 = .ok (.istore_n 2, 1) := by decide +kernel
theorem dX4_leftByToken_22 : decode cX4_leftByToken 22 = .ok (.iload_n 2, 1) := by decide +kernel
theorem dX4_leftByToken_23 : decode cX4_leftByToken 23 = .ok (.aload_n 0, 1) := by decide +kernel
theorem dX4_leftByToken_24 : decode cX4_leftByToken 24 = .ok (.getfield 9, 3) := by decide +kernel
theorem dX4_leftByToken_27 : decode cX4_leftByToken 27 = .ok (.getfield 88, 3) := by decide +kernel
theorem dX4_leftByToken_30 : decode cX4_leftByToken 30 = .ok (.if_icmp .ge 42, 3) := by decide +kernel
theorem dX4_leftByToken_33 : decode cX4_leftByToken 33 = .ok (.aload_n 0, 1) := by decide +kernel
theorem dX4_leftByToken_34 : decode cX4_leftByToken 34 = .ok (.getfield 9, 3) := by decide +kernel
theorem dX4_leftByToken_37 : decode cX4_leftByToken 37 = .ok (.iload_n 2, 1) := by decide +kernel
theorem dX4_leftByToken_38 : decode cX4_leftByToken 38 = .ok (.invokevirtual 141, 3) := by decide +kernel
theorem dX4_leftByToken_41 : decode cX4_leftByToken 41 = .ok (.ifCond .ne 25, 3) := by decide +kernel
theorem dX4_leftByToken_44 : decode cX4_leftByToken 44 = .ok (.aload_n 0, 1) := by decide +kernel
theorem dX4_leftByToken_45 : decode cX4_leftByToken 45 = .ok (.iload_n 1, 1) := by decide +kernel
theorem dX4_leftByToken_46 : decode cX4_leftByToken 46 = .ok (.iload_n 2, 1) := by decide +kernel
theorem dX4_leftByToken_47 : decode cX4_leftByToken 47 = .ok (.invokevirtual 134, 3) := by decide +kernel
theorem dX4_leftByToken_50 : decode cX4_leftByToken 50 = .ok (.ifCond .eq 16, 3) := by decide +kernel
theorem dX4_leftByToken_53 : decode cX4_leftByToken 53 = .ok (.aload_n 0, 1) := by decide +kernel
theorem dX4_leftByToken_54 : decode cX4_leftByToken 54 = .ok (.getfield 9, 3) := by decide +kernel
theorem dX4_leftByToken_57 : decode cX4_leftByToken 57 = .ok (.bipush 37, 2) := by decide +kernel
theorem dX4_leftByToken_59 : decode cX4_leftByToken 59 = .ok (.bipush 6, 2) := by decide +kernel
theorem dX4_leftByToken_61 : decode cX4_leftByToken 61 = .ok (.iload_n 2, 1) := by decide +kernel
theorem dX4_leftByToken_62 : decode cX4_leftByToken 62 = .ok (.invokevirtual 144, 3) := by decide +kernel
theorem dX4_leftByToken_65 : decode cX4_leftByToken 65 = .ok (.pop, 1) := by decide +kernel
theorem dX4_leftByToken_66 : decode cX4_leftByToken 66 = .ok (.iinc 2 1, 3) := by decide +kernel
theorem dX4_leftByToken_69 : decode cX4_leftByToken 69 = .ok (.goto (-47), 3) := by decide +kernel
theorem dX4_leftByToken_72 : decode cX4_leftByToken 72 = .ok (.aload_n 0, 1) := by decide +kernel
theorem dX4_leftByToken_73 : decode cX4_leftByToken 73 = .ok (.getfield 9, 3) := by decide +kernel
theorem dX4_leftByToken_76 : decode cX4_leftByToken 76 = .ok (.bipush 37, 2) := by decide +kernel
theorem dX4_leftByToken_78 : decode cX4_leftByToken 78 = .ok (.invokevirtual 32, 3) := by decide +kernel
theorem dX4_leftByToken_81 : decode cX4_leftByToken 81 = .ok (.ifCond .le 19, 3) := by decide +kernel
theorem dX4_leftByToken_84 : decode cX4_leftByToken 84 = .ok (.aload_n 0, 1) := by decide +kernel
theorem dX4_leftByToken_85 : decode cX4_leftByToken 85 = .ok (.iload_n 1, 1) := by decide +kernel
theorem dX4_leftByToken_86 : decode cX4_leftByToken 86 = .ok (.aload_n 0, 1) := by decide +kernel
theorem dX4_leftByToken_87 : decode cX4_leftByToken 87 = .ok (.getfield 9, 3) := by decide +kernel
theorem dX4_leftByToken_90 : decode cX4_leftByToken 90 = .ok (.bipush 37, 2) := by decide +kernel
theorem dX4_leftByToken_92 : decode cX4_leftByToken 92 = .ok (.bipush 6, 2) := by decide +kernel
theorem dX4_leftByToken_94 : decode cX4_leftByToken 94 = .ok (.invokevirtual 147, 3) := by decide +kernel
theorem dX4_leftByToken_97 : decode cX4_leftByToken 97 = .ok (.invokevirtual 138, 3) := by decide +kernel
theorem dX4_leftByToken_100 : decode cX4_leftByToken 100 = .ok (.return_, 1) := by decide +kernel
theorem dX4_queue_0 : decode cX4_queue 0 = .ok (.aload_n 0, 1) := by decide +kernel
theorem dX4_queue_1 : decode cX4_queue 1 = .ok (.getfield 9, 3) := by decide +kernel
theorem dX4_queue_4 : decode cX4_queue 4 = .ok (.iload_n 1, 1) := by decide +kernel
theorem dX4_queue_5 : decode cX4_queue 5 = .ok (.invokestatic 150, 3) := by decide +kernel
theorem dX4_queue_8 : decode cX4_queue 8 = .ok (.bipush 6, 2) := by decide +kernel
theorem dX4_queue_10 : decode cX4_queue 10 = .ok (.iload_n 2, 1) := by decide +kernel
theorem dX4_queue_11 : decode cX4_queue 11 = .ok (.invokevirtual 144, 3) := by decide +kernel
theorem dX4_queue_14 : decode cX4_queue 14 = .ok (.pop, 1) := by decide +kernel
theorem dX4_queue_15 : decode cX4_queue 15 = .ok (.return_, 1) := by decide +kernel
theorem dX4_followRules_0 : decode cX4_followRules 0 = .ok (.aload_n 0, 1) := by decide +kernel
theorem dX4_followRules_1 : decode cX4_followRules 1 = .ok (.getfield 9, 3) := by decide +kernel
theorem dX4_followRules_4 : decode cX4_followRules 4 = .ok (.iload_n 1, 1) := by decide +kernel
theorem dX4_followRules_5 : decode cX4_followRules 5 = .ok (.iconst 0, 1) := by decide +kernel
theorem dX4_followRules_6 : decode cX4_followRules 6 = .ok (.invokevirtual 85, 3) := by decide +kernel
theorem dX4_followRules_9 : decode cX4_followRules 9 = .ok (.iconst 2, 1) := by decide +kernel
theorem dX4_followRules_10 : decode cX4_followRules 10 = .ok (.if_icmp .ne 7, 3) := by decide +kernel
theorem dX4_followRules_13 : decode cX4_followRules 13 = .ok (.iconst 1, 1) := by decide +kernel
theorem dX4_followRules_14 : decode cX4_followRules 14 = .ok (.goto 4, 3) := by decide +kernel
theorem dX4_followRules_17 : decode cX4_followRules 17 = .ok (.iconst 0, 1) := by decide +kernel
theorem dX4_followRules_18 : decode cX4_followRules 18 = .ok (.istore_n 2, 1) := by decide +kernel
theorem dX4_followRules_19 : decode cX4_followRules 19 = .ok (.aload_n 0, 1) := by decide +kernel
theorem dX4_followRules_20 : decode cX4_followRules 20 = .ok (.getfield 9, 3) := by decide +kernel
theorem dX4_followRules_23 : decode cX4_followRules 23 = .ok (.iload_n 1, 1) := by decide +kernel
theorem dX4_followRules_24 : decode cX4_followRules 24 = .ok (.invokevirtual 124, 3) := by decide +kernel
theorem dX4_followRules_27 : decode cX4_followRules 27 = .ok (.ifCond .eq 81, 3) := by decide +kernel
theorem dX4_followRules_30 : decode cX4_followRules 30 = .ok (.iload_n 2, 1) := by decide +kernel
theorem dX4_followRules_31 : decode cX4_followRules 31 = .ok (.ifCond .ne 77, 3) := by decide +kernel
theorem dX4_followRules_34 : decode cX4_followRules 34 = .ok (.aload_n 0, 1) := by decide +kernel
theorem dX4_followRules_35 : decode cX4_followRules 35 = .ok (.getfield 9, 3) := by decide +kernel
theorem dX4_followRules_38 : decode cX4_followRules 38 = .ok (.iload_n 1, 1) := by decide +kernel
theorem dX4_followRules_39 : decode cX4_followRules 39 = .ok (.invokestatic 150, 3) := by decide +kernel
theorem dX4_followRules_42 : decode cX4_followRules 42 = .ok (.invokevirtual 32, 3) := by decide +kernel
theorem dX4_followRules_45 : decode cX4_followRules 45 = .ok (.ifCond .le 63, 3) := by decide +kernel
theorem dX4_followRules_48 : decode cX4_followRules 48 = .ok (.aload_n 0, 1) := by decide +kernel
theorem dX4_followRules_49 : decode cX4_followRules 49 = .ok (.getfield 9, 3) := by decide +kernel
theorem dX4_followRules_52 : decode cX4_followRules 52 = .ok (.iload_n 1, 1) := by decide +kernel
theorem dX4_followRules_53 : decode cX4_followRules 53 = .ok (.invokestatic 150, 3) := by decide +kernel
theorem dX4_followRules_56 : decode cX4_followRules 56 = .ok (.bipush 6, 2) := by decide +kernel
theorem dX4_followRules_58 : decode cX4_followRules 58 = .ok (.invokevirtual 147, 3) := by decide +kernel
theorem dX4_followRules_61 : decode cX4_followRules 61 = .ok (.istore_n 3, 1) := by decide +kernel
theorem dX4_followRules_62 : decode cX4_followRules 62 = .ok (.aload_n 0, 1) := by decide +kernel
theorem dX4_followRules_63 : decode cX4_followRules 63 = .ok (.getfield 9, 3) := by decide +kernel
theorem dX4_followRules_66 : decode cX4_followRules 66 = .ok (.iload_n 1, 1) := by decide +kernel
theorem dX4_followRules_67 : decode cX4_followRules 67 = .ok (.bipush 86, 2) := by decide +kernel
theorem dX4_followRules_69 : decode cX4_followRules 69 = .ok (.iload_n 3, 1) := by decide +kernel
theorem dX4_followRules_70 : decode cX4_followRules 70 = .ok (.invokevirtual 28, 3) := by decide +kernel
theorem dX4_followRules_73 : decode cX4_followRules 73 = .ok (.aload_n 0, 1) := by decide +kernel
theorem dX4_followRules_74 : decode cX4_followRules 74 = .ok (.getfield 9, 3) := by decide +kernel
theorem dX4_followRules_77 : decode cX4_followRules 77 = .ok (.iload_n 1, 1) := by decide +kernel
theorem dX4_followRules_78 : decode cX4_followRules 78 = .ok (.bipush 92, 2) := by decide +kernel
theorem dX4_followRules_80 : decode cX4_followRules 80 = .ok (.iconst 0, 1) := by decide +kernel
theorem dX4_followRules_81 : decode cX4_followRules 81 = .ok (.invokevirtual 28, 3) := by decide +kernel
theorem dX4_followRules_84 : decode cX4_followRules 84 = .ok (.iload_n 3, 1) := by decide +kernel
theorem dX4_followRules_85 : decode cX4_followRules 85 = .ok (.iload_n 1, 1) := by decide +kernel
theorem dX4_followRules_86 : decode cX4_followRules 86 = .ok (.if_icmp .ne 11, 3) := by decide +kernel
theorem dX4_followRules_89 : decode cX4_followRules 89 = .ok (.aload_n 0, 1) := by decide +kernel
theorem dX4_followRules_90 : decode cX4_followRules 90 = .ok (.iload_n 1, 1) := by decide +kernel
theorem dX4_followRules_91 : decode cX4_followRules 91 = .ok (.invokevirtual 82, 3) := by decide +kernel
theorem dX4_followRules_94 : decode cX4_followRules 94 = .ok (.goto 14, 3) := by decide +kernel
theorem dX4_followRules_97 : decode cX4_followRules 97 = .ok (.aload_n 0, 1) := by decide +kernel
theorem dX4_followRules_98 : decode cX4_followRules 98 = .ok (.getfield 9, 3) := by decide +kernel
theorem dX4_followRules_101 : decode cX4_followRules 101 = .ok (.iload_n 1, 1) := by decide +kernel
theorem dX4_followRules_102 : decode cX4_followRules 102 = .ok (.iload_n 3, 1) := by decide +kernel
theorem dX4_followRules_103 : decode cX4_followRules 103 = .ok (.iconst 2, 1) := by decide +kernel
theorem dX4_followRules_104 : decode cX4_followRules 104 = .ok (.iconst 0, 1) := by decide +kernel
theorem dX4_followRules_105 : decode cX4_followRules 105 = .ok (.invokevirtual 118, 3) := by decide +kernel
theorem dX4_followRules_108 : decode cX4_followRules 108 = .ok (.aload_n 0, 1) := by decide +kernel
theorem dX4_followRules_109 : decode cX4_followRules 109 = .ok (.getfield 9, 3) := by decide +kernel
theorem dX4_followRules_112 : decode cX4_followRules 112 = .ok (.iload_n 1, 1) := by decide +kernel
theorem dX4_followRules_113 : decode cX4_followRules 113 = .ok (.bipush 92, 2) := by decide +kernel
theorem dX4_followRules_115 : decode cX4_followRules 115 = .ok (.invokevirtual 85, 3) := by decide +kernel
theorem dX4_followRules_118 : decode cX4_followRules 118 = .ok (.ifCond .eq 7, 3) := by decide +kernel
theorem dX4_followRules_121 : decode cX4_followRules 121 = .ok (.iconst 1, 1) := by decide +kernel
theorem dX4_followRules_122 : decode cX4_followRules 122 = .ok (.goto 4, 3) := by decide +kernel
theorem dX4_followRules_125 : decode cX4_followRules 125 = .ok (.iconst 0, 1) := by decide +kernel
theorem dX4_followRules_126 : decode cX4_followRules 126 = .ok (.istore_n 3, 1) := by decide +kernel
theorem dX4_followRules_127 : decode cX4_followRules 127 = .ok (.aload_n 0, 1) := by decide +kernel
theorem dX4_followRules_128 : decode cX4_followRules 128 = .ok (.getfield 9, 3) := by decide +kernel
theorem dX4_followRules_131 : decode cX4_followRules 131 = .ok (.iload_n 1, 1) := by decide +kernel
theorem dX4_followRules_132 : decode cX4_followRules 132 = .ok (.invokevirtual 124, 3) := by decide +kernel
theorem dX4_followRules_135 : decode cX4_followRules 135 = .ok (.ifCond .ne 52, 3) := by decide +kernel
theorem dX4_followRules_138 : decode cX4_followRules 138 = .ok (.aload_n 0, 1) := by decide +kernel
theorem dX4_followRules_139 : decode cX4_followRules 139 = .ok (.getfield 9, 3) := by decide +kernel
theorem dX4_followRules_142 : decode cX4_followRules 142 = .ok (.iload_n 1, 1) := by decide +kernel
theorem dX4_followRules_143 : decode cX4_followRules 143 = .ok (.invokestatic 150, 3) := by decide +kernel
theorem dX4_followRules_146 : decode cX4_followRules 146 = .ok (.invokevirtual 32, 3) := by decide +kernel
theorem dX4_followRules_149 : decode cX4_followRules 149 = .ok (.ifCond .le 38, 3) := by decide +kernel
theorem dX4_followRules_152 : decode cX4_followRules 152 = .ok (.iload_n 3, 1) := by decide +kernel
theorem dX4_followRules_153 : decode cX4_followRules 153 = .ok (.ifCond .ne 34, 3) := by decide +kernel
theorem dX4_followRules_156 : decode cX4_followRules 156 = .ok (.aload_n 0, 1) := by decide +kernel
theorem dX4_followRules_157 : decode cX4_followRules 157 = .ok (.getfield 9, 3) := by decide +kernel
theorem dX4_followRules_160 : decode cX4_followRules 160 = .ok (.iload_n 1, 1) := by decide +kernel
theorem dX4_followRules_161 : decode cX4_followRules 161 = .ok (.aload_n 0, 1) := by decide +kernel
theorem dX4_followRules_162 : decode cX4_followRules 162 = .ok (.getfield 9, 3) := by decide +kernel
theorem dX4_followRules_165 : decode cX4_followRules 165 = .ok (.iload_n 1, 1) := by decide +kernel
theorem dX4_followRules_166 : decode cX4_followRules 166 = .ok (.bipush 86, 2) := by decide +kernel
theorem dX4_followRules_168 : decode cX4_followRules 168 = .ok (.invokevirtual 85, 3) := by decide +kernel
theorem dX4_followRules_171 : decode cX4_followRules 171 = .ok (.iconst 0, 1) := by decide +kernel
theorem dX4_followRules_172 : decode cX4_followRules 172 = .ok (.iconst 0, 1) := by decide +kernel
theorem dX4_followRules_173 : decode cX4_followRules 173 = .ok (.invokevirtual 118, 3) := by decide +kernel
theorem dX4_followRules_176 : decode cX4_followRules 176 = .ok (.aload_n 0, 1) := by decide +kernel
theorem dX4_followRules_177 : decode cX4_followRules 177 = .ok (.getfield 9, 3) := by decide +kernel
theorem dX4_followRules_180 : decode cX4_followRules 180 = .ok (.iload_n 1, 1) := by decide +kernel
theorem dX4_followRules_181 : decode cX4_followRules 181 = .ok (.bipush 92, 2) := by decide +kernel
theorem dX4_followRules_183 : decode cX4_followRules 183 = .ok (.iconst 1, 1) := by decide +kernel
theorem dX4_followRules_184 : decode cX4_followRules 184 = .ok (.invokevirtual 28, 3) := by decide +kernel
theorem dX4_followRules_187 : decode cX4_followRules 187 = .ok (.return_, 1) := by decide +kernel
theorem dX5_init_0 : decode cX5_init 0 = .ok (.aload_n 0, 1) := by decide +kernel
theorem dX5_init_1 : decode cX5_init 1 = .ok (.invokespecial 1, 3) := by decide +kernel
theorem dX5_init_4 : decode cX5_init 4 = .ok (.aload_n 0, 1) := by decide +kernel
theorem dX5_init_5 : decode cX5_init 5 = .ok (.new 7, 3) := by decide +kernel
theorem dX5_init_8 : decode cX5_init 8 = .ok (.dup, 1) := by decide +kernel
theorem dX5_init_9 : decode cX5_init 9 = .ok (.invokespecial 9, 3) := by decide +kernel
theorem dX5_init_12 : decode cX5_init 12 = .ok (.putfield 10, 3) := by decide +kernel
theorem dX5_init_15 : decode cX5_init 15 = .ok (.aload_n 0, 1) := by decide +kernel
theorem dX5_init_16 : decode cX5_init 16 = .ok (.new 16, 3) := by decide +kernel
theorem dX5_init_19 : decode cX5_init 19 = .ok (.dup, 1) := by decide +kernel
theorem dX5_init_20 : decode cX5_init 20 = .ok (.invokespecial 18, 3) := by decide +kernel
theorem dX5_init_23 : decode cX5_init 23 = .ok (.putfield 19, 3) := by decide +kernel
theorem dX5_init_26 : decode cX5_init 26 = .ok (.aload_n 0, 1) := by decide +kernel
theorem dX5_init_27 : decode cX5_init 27 = .ok (.new 23, 3) := by decide +kernel
theorem dX5_init_30 : decode cX5_init 30 = .ok (.dup, 1) := by decide +kernel
theorem dX5_init_31 : decode cX5_init 31 = .ok (.aload_n 0, 1) := by decide +kernel
theorem dX5_init_32 : decode cX5_init 32 = .ok (.getfield 10, 3) := by decide +kernel
theorem dX5_init_35 : decode cX5_init 35 = .ok (.aload_n 0, 1) := by decide +kernel
theorem dX5_init_36 : decode cX5_init 36 = .ok (.getfield 19, 3) := by decide +kernel
theorem dX5_init_39 : decode cX5_init 39 = .ok (.invokespecial 25, 3) := by decide +kernel
theorem dX5_init_42 : decode cX5_init 42 = .ok (.putfield 28, 3) := by decide +kernel
theorem dX5_init_45 : decode cX5_init 45 = .ok (.aload_n 0, 1) := by decide +kernel
theorem dX5_init_46 : decode cX5_init 46 = .ok (.new 32, 3) := by decide +kernel
theorem dX5_init_49 : decode cX5_init 49 = .ok (.dup, 1) := by decide +kernel
theorem dX5_init_50 : decode cX5_init 50 = .ok (.aload_n 0, 1) := by decide +kernel
theorem dX5_init_51 : decode cX5_init 51 = .ok (.getfield 10, 3) := by decide +kernel
theorem dX5_init_54 : decode cX5_init 54 = .ok (.invokespecial 34, 3) := by decide +kernel
theorem dX5_init_57 : decode cX5_init 57 = .ok (.putfield 37, 3) := by decide +kernel
theorem dX5_init_60 : decode cX5_init 60 = .ok (.aload_n 0, 1) := by decide +kernel
theorem dX5_init_61 : decode cX5_init 61 = .ok (.new 41, 3) := by decide +kernel
theorem dX5_init_64 : decode cX5_init 64 = .ok (.dup, 1) := by decide +kernel
theorem dX5_init_65 : decode cX5_init 65 = .ok (.aload_n 0, 1) := by decide +kernel
theorem dX5_init_66 : decode cX5_init 66 = .ok (.getfield 10, 3) := by decide +kernel
theorem dX5_init_69 : decode cX5_init 69 = .ok (.aload_n 0, 1) := by decide +kernel
theorem dX5_init_70 : decode cX5_init 70 = .ok (.getfield 28, 3) := by decide +kernel
theorem dX5_init_73 : decode cX5_init 73 = .ok (.invokespecial 43, 3) := by decide +kernel
theorem dX5_init_76 : decode cX5_init 76 = .ok (.putfield 46, 3) := by decide +kernel
theorem dX5_init_79 : decode cX5_init 79 = .ok (.aload_n 0, 1) := by decide +kernel
theorem dX5_init_80 : decode cX5_init 80 = .ok (.getfield 10, 3) := by decide +kernel
theorem dX5_init_83 : decode cX5_init 83 = .ok (.iconst 0, 1) := by decide +kernel
theorem dX5_init_84 : decode cX5_init 84 = .ok (.iconst 2, 1) := by decide +kernel
theorem dX5_init_85 : decode cX5_init 85 = .ok (.invokevirtual 50, 3) := by decide +kernel
theorem dX5_init_88 : decode cX5_init 88 = .ok (.return_, 1) := by decide +kernel
theorem dX5_begin_0 : decode cX5_begin 0 = .ok (.iload_n 1, 1) := by decide +kernel
theorem dX5_begin_1 : decode cX5_begin 1 = .ok (.ifCond .lt 19, 3) := by decide +kernel
theorem dX5_begin_4 : decode cX5_begin 4 = .ok (.iload_n 1, 1) := by decide +kernel
theorem dX5_begin_5 : decode cX5_begin 5 = .ok (.iconst 2, 1) := by decide +kernel
theorem dX5_begin_6 : decode cX5_begin 6 = .ok (.if_icmp .gt 14, 3) := by decide +kernel
theorem dX5_begin_9 : decode cX5_begin 9 = .ok (.iload_n 2, 1) := by decide +kernel
theorem dX5_begin_10 : decode cX5_begin 10 = .ok (.iconst 2, 1) := by decide +kernel
theorem dX5_begin_11 : decode cX5_begin 11 = .ok (.if_icmp .lt 9, 3) := by decide +kernel
theorem dX5_begin_14 : decode cX5_begin 14 = .ok (.iload_n 2, 1) := by decide +kernel
theorem dX5_begin_15 : decode cX5_begin 15 = .ok (.bipush 6, 2) := by decide +kernel
theorem dX5_begin_17 : decode cX5_begin 17 = .ok (.if_icmp .le 5, 3) := by decide +kernel
theorem dX5_begin_20 : decode cX5_begin 20 = .ok (.iconst (-1), 1) := by decide +kernel
theorem dX5_begin_21 : decode cX5_begin 21 = .ok (.ireturn, 1) := by decide +kernel
theorem dX5_begin_22 : decode cX5_begin 22 = .ok (.aload_n 0, 1) := by decide +kernel
theorem dX5_begin_23 : decode cX5_begin 23 = .ok (.getfield 54, 3) := by decide +kernel
theorem dX5_begin_26 : decode cX5_begin 26 = .ok (.bipush 10, 2) := by decide +kernel
theorem dX5_begin_28 : decode cX5_begin 28 = .ok (.if_icmp .lt 6, 3) := by decide +kernel
theorem dX5_begin_31 : decode cX5_begin 31 = .ok (.bipush (-3), 2) := by decide +kernel
theorem dX5_begin_33 : decode cX5_begin 33 = .ok (.ireturn, 1) := by decide +kernel
theorem dX5_begin_34 : decode cX5_begin 34 = .ok (.aload_n 0, 1) := by decide +kernel
theorem dX5_begin_35 : decode cX5_begin 35 = .ok (.dup, 1) := by decide +kernel
theorem dX5_begin_36 : decode cX5_begin 36 = .ok (.getfield 54, 3) := by decide +kernel
theorem dX5_begin_39 : decode cX5_begin 39 = .ok (.iconst 1, 1) := by decide +kernel
theorem dX5_begin_40 : decode cX5_begin 40 = .ok (.iadd, 1) := by decide +kernel
theorem dX5_begin_41 : decode cX5_begin 41 = .ok (.putfield 54, 3) := by decide +kernel
theorem dX5_begin_44 : decode cX5_begin 44 = .ok (.aload_n 0, 1) := by decide +kernel
theorem dX5_begin_45 : decode cX5_begin 45 = .ok (.iconst 0, 1) := by decide +kernel
theorem dX5_begin_46 : decode cX5_begin 46 = .ok (.putfield 58, 3) := by decide +kernel
theorem dX5_begin_49 : decode cX5_begin 49 = .ok (.aload_n 0, 1) := by decide +kernel
theorem dX5_begin_50 : decode cX5_begin 50 = .ok (.iconst 0, 1) := by decide +kernel
theorem dX5_begin_51 : decode cX5_begin 51 = .ok (.putfield 61, 3) := by decide +kernel
theorem dX5_begin_54 : decode cX5_begin 54 = .ok (.aload_n 0, 1) := by decide +kernel
theorem dX5_begin_55 : decode cX5_begin 55 = .ok (.getfield 37, 3) := by decide +kernel
theorem dX5_begin_58 : decode cX5_begin 58 = .ok (.invokevirtual 65, 3) := by decide +kernel
theorem dX5_begin_61 : decode cX5_begin 61 = .ok (.aload_n 0, 1) := by decide +kernel
theorem dX5_begin_62 : decode cX5_begin 62 = .ok (.getfield 10, 3) := by decide +kernel
theorem dX5_begin_65 : decode cX5_begin 65 = .ok (.iload_n 1, 1) := by decide +kernel
theorem dX5_begin_66 : decode cX5_begin 66 = .ok (.iload_n 2, 1) := by decide +kernel
theorem dX5_begin_67 : decode cX5_begin 67 = .ok (.invokevirtual 50, 3) := by decide +kernel
theorem dX5_begin_70 : decode cX5_begin 70 = .ok (.iload_n 2, 1) := by decide +kernel
theorem dX5_begin_71 : decode cX5_begin 71 = .ok (.ireturn, 1) := by decide +kernel
theorem dX5_parent_0 : decode cX5_parent 0 = .ok (.iload_n 1, 1) := by decide +kernel
theorem dX5_parent_1 : decode cX5_parent 1 = .ok (.iconst 1, 1) := by decide +kernel
theorem dX5_parent_2 : decode cX5_parent 2 = .ok (.if_icmp .lt 23, 3) := by decide +kernel
theorem dX5_parent_5 : decode cX5_parent 5 = .ok (.iload_n 1, 1) := by decide +kernel
theorem dX5_parent_6 : decode cX5_parent 6 = .ok (.aload_n 0, 1) := by decide +kernel
theorem dX5_parent_7 : decode cX5_parent 7 = .ok (.getfield 10, 3) := by decide +kernel
theorem dX5_parent_10 : decode cX5_parent 10 = .ok (.getfield 68, 3) := by decide +kernel
theorem dX5_parent_13 : decode cX5_parent 13 = .ok (.if_icmp .ge 12, 3) := by decide +kernel
theorem dX5_parent_16 : decode cX5_parent 16 = .ok (.iload_n 2, 1) := by decide +kernel
theorem dX5_parent_17 : decode cX5_parent 17 = .ok (.ifCond .lt 8, 3) := by decide +kernel
theorem dX5_parent_20 : decode cX5_parent 20 = .ok (.iload_n 2, 1) := by decide +kernel
theorem dX5_parent_21 : decode cX5_parent 21 = .ok (.iload_n 1, 1) := by decide +kernel
theorem dX5_parent_22 : decode cX5_parent 22 = .ok (.if_icmp .lt 5, 3) := by decide +kernel
theorem dX5_parent_25 : decode cX5_parent 25 = .ok (.iconst (-1), 1) := by decide +kernel
theorem dX5_parent_26 : decode cX5_parent 26 = .ok (.ireturn, 1) := by decide +kernel
theorem dX5_parent_27 : decode cX5_parent 27 = .ok (.aload_n 0, 1) := by decide +kernel
theorem dX5_parent_28 : decode cX5_parent 28 = .ok (.getfield 10, 3) := by decide +kernel
theorem dX5_parent_31 : decode cX5_parent 31 = .ok (.getfield 71, 3) := by decide +kernel
theorem dX5_parent_34 : decode cX5_parent 34 = .ok (.iconst 2, 1) := by decide +kernel
theorem dX5_parent_35 : decode cX5_parent 35 = .ok (.if_icmp .ne 10, 3) := by decide +kernel
theorem dX5_parent_38 : decode cX5_parent 38 = .ok (.aload_n 0, 1) := by decide +kernel
theorem dX5_parent_39 : decode cX5_parent 39 = .ok (.getfield 61, 3) := by decide +kernel
theorem dX5_parent_42 : decode cX5_parent 42 = .ok (.ifCond .eq 6, 3) := by decide +kernel
theorem dX5_parent_45 : decode cX5_parent 45 = .ok (.bipush (-2), 2) := by decide +kernel
theorem dX5_parent_47 : decode cX5_parent 47 = .ok (.ireturn, 1) := by decide +kernel
theorem dX5_parent_48 : decode cX5_parent 48 = .ok (.aload_n 0, 1) := by decide +kernel
theorem dX5_parent_49 : decode cX5_parent 49 = .ok (.getfield 10, 3) := by decide +kernel
theorem dX5_parent_52 : decode cX5_parent 52 = .ok (.iload_n 1, 1) := by decide +kernel
theorem dX5_parent_53 : decode cX5_parent 53 = .ok (.bipush 80, 2) := by decide +kernel
theorem dX5_parent_55 : decode cX5_parent 55 = .ok (.invokevirtual 74, 3) := by decide +kernel
theorem dX5_parent_58 : decode cX5_parent 58 = .ok (.istore_n 3, 1) := by decide +kernel
theorem dX5_parent_59 : decode cX5_parent 59 = .ok (.aload_n 0, 1) := by decide +kernel
theorem dX5_parent_60 : decode cX5_parent 60 = .ok (.getfield 10, 3) := by decide +kernel
theorem dX5_parent_63 : decode cX5_parent 63 = .ok (.iload_n 1, 1) := by decide +kernel
theorem dX5_parent_64 : decode cX5_parent 64 = .ok (.bipush 80, 2) := by decide +kernel
theorem dX5_parent_66 : decode cX5_parent 66 = .ok (.iload_n 2, 1) := by decide +kernel
theorem dX5_parent_67 : decode cX5_parent 67 = .ok (.invokevirtual 78, 3) := by decide +kernel
theorem dX5_parent_70 : decode cX5_parent 70 = .ok (.aload_n 0, 1) := by decide +kernel
theorem dX5_parent_71 : decode cX5_parent 71 = .ok (.getfield 10, 3) := by decide +kernel
theorem dX5_parent_74 : decode cX5_parent 74 = .ok (.iload_n 1, 1) := by decide +kernel
theorem dX5_parent_75 : decode cX5_parent 75 = .ok (.bipush 86, 2) := by decide +kernel
theorem dX5_parent_77 : decode cX5_parent 77 = .ok (.iload_n 2, 1) := by decide +kernel
theorem dX5_parent_78 : decode cX5_parent 78 = .ok (.invokevirtual 78, 3) := by decide +kernel
theorem dX5_parent_81 : decode cX5_parent 81 = .ok (.iload_n 3, 1) := by decide +kernel
theorem dX5_parent_82 : decode cX5_parent 82 = .ok (.ireturn, 1) := by decide +kernel
theorem dX5_want_0 : decode cX5_want 0 = .ok (.aload_n 0, 1) := by decide +kernel
theorem dX5_want_1 : decode cX5_want 1 = .ok (.getfield 10, 3) := by decide +kernel
theorem dX5_want_4 : decode cX5_want 4 = .ok (.iload_n 1, 1) := by decide +kernel
theorem dX5_want_5 : decode cX5_want 5 = .ok (.invokevirtual 82, 3) := by decide +kernel
theorem dX5_want_8 : decode cX5_want 8 = .ok (.ifCond .ne 5, 3) := by decide +kernel
theorem dX5_want_11 : decode cX5_want 11 = .ok (.iconst (-1), 1) := by decide +kernel
theorem dX5_want_12 : decode cX5_want 12 = .ok (.ireturn, 1) := by decide +kernel
theorem dX5_want_13 : decode cX5_want 13 = .ok (.aload_n 0, 1) := by decide +kernel
theorem dX5_want_14 : decode cX5_want 14 = .ok (.getfield 10, 3) := by decide +kernel
theorem dX5_want_17 : decode cX5_want 17 = .ok (.iload_n 1, 1) := by decide +kernel
theorem dX5_want_18 : decode cX5_want 18 = .ok (.iconst 0, 1) := by decide +kernel
theorem dX5_want_19 : decode cX5_want 19 = .ok (.invokevirtual 74, 3) := by decide +kernel
theorem dX5_want_22 : decode cX5_want 22 = .ok (.ifCond .eq 6, 3) := by decide +kernel
theorem dX5_want_25 : decode cX5_want 25 = .ok (.bipush (-2), 2) := by decide +kernel
theorem dX5_want_27 : decode cX5_want 27 = .ok (.ireturn, 1) := by decide +kernel
theorem dX5_want_28 : decode cX5_want 28 = .ok (.aload_n 0, 1) := by decide +kernel
theorem dX5_want_29 : decode cX5_want 29 = .ok (.getfield 37, 3) := by decide +kernel
theorem dX5_want_32 : decode cX5_want 32 = .ok (.invokevirtual 86, 3) := by decide +kernel
theorem dX5_want_35 : decode cX5_want 35 = .ok (.aload_n 0, 1) := by decide +kernel
theorem dX5_want_36 : decode cX5_want 36 = .ok (.getfield 28, 3) := by decide +kernel
theorem dX5_want_39 : decode cX5_want 39 = .ok (.iload_n 1, 1) := by decide +kernel
theorem dX5_want_40 : decode cX5_want 40 = .ok (.invokevirtual 89, 3) := by decide +kernel
theorem dX5_want_43 : decode cX5_want 43 = .ok (.aload_n 0, 1) := by decide +kernel
theorem dX5_want_44 : decode cX5_want 44 = .ok (.invokevirtual 93, 3) := by decide +kernel
theorem dX5_want_47 : decode cX5_want 47 = .ok (.ifCond .ne 6, 3) := by decide +kernel
theorem dX5_want_50 : decode cX5_want 50 = .ok (.bipush (-3), 2) := by decide +kernel
theorem dX5_want_52 : decode cX5_want 52 = .ok (.ireturn, 1) := by decide +kernel
theorem dX5_want_53 : decode cX5_want 53 = .ok (.aload_n 0, 1) := by decide +kernel
theorem dX5_want_54 : decode cX5_want 54 = .ok (.getfield 10, 3) := by decide +kernel
theorem dX5_want_57 : decode cX5_want 57 = .ok (.iload_n 1, 1) := by decide +kernel
theorem dX5_want_58 : decode cX5_want 58 = .ok (.iconst 0, 1) := by decide +kernel
theorem dX5_want_59 : decode cX5_want 59 = .ok (.invokevirtual 74, 3) := by decide +kernel
theorem dX5_want_62 : decode cX5_want 62 = .ok (.iconst 2, 1) := by decide +kernel
theorem dX5_want_63 : decode cX5_want 63 = .ok (.if_icmp .ne 7, 3) := by decide +kernel
theorem dX5_want_66 : decode cX5_want 66 = .ok (.iconst 1, 1) := by decide +kernel
theorem dX5_want_67 : decode cX5_want 67 = .ok (.goto 4, 3) := by decide +kernel
theorem dX5_want_70 : decode cX5_want 70 = .ok (.iconst 0, 1) := by decide +kernel
theorem dX5_want_71 : decode cX5_want 71 = .ok (.ireturn, 1) := by decide +kernel
theorem dX5_leave_0 : decode cX5_leave 0 = .ok (.aload_n 0, 1) := by decide +kernel
theorem dX5_leave_1 : decode cX5_leave 1 = .ok (.getfield 10, 3) := by decide +kernel
theorem dX5_leave_4 : decode cX5_leave 4 = .ok (.iload_n 1, 1) := by decide +kernel
theorem dX5_leave_5 : decode cX5_leave 5 = .ok (.invokevirtual 82, 3) := by decide +kernel
theorem dX5_leave_8 : decode cX5_leave 8 = .ok (.ifCond .ne 5, 3) := by decide +kernel
theorem dX5_leave_11 : decode cX5_leave 11 = .ok (.iconst (-1), 1) := by decide +kernel
theorem dX5_leave_12 : decode cX5_leave 12 = .ok (.ireturn, 1) := by decide +kernel
theorem dX5_leave_13 : decode cX5_leave 13 = .ok (.aload_n 0, 1) := by decide +kernel
theorem dX5_leave_14 : decode cX5_leave 14 = .ok (.getfield 10, 3) := by decide +kernel
theorem dX5_leave_17 : decode cX5_leave 17 = .ok (.iload_n 1, 1) := by decide +kernel
theorem dX5_leave_18 : decode cX5_leave 18 = .ok (.iconst 0, 1) := by decide +kernel
theorem dX5_leave_19 : decode cX5_leave 19 = .ok (.invokevirtual 74, 3) := by decide +kernel
theorem dX5_leave_22 : decode cX5_leave 22 = .ok (.iconst 2, 1) := by decide +kernel
theorem dX5_leave_23 : decode cX5_leave 23 = .ok (.if_icmp .eq 6, 3) := by decide +kernel
theorem dX5_leave_26 : decode cX5_leave 26 = .ok (.bipush (-2), 2) := by decide +kernel
theorem dX5_leave_28 : decode cX5_leave 28 = .ok (.ireturn, 1) := by decide +kernel
theorem dX5_leave_29 : decode cX5_leave 29 = .ok (.aload_n 0, 1) := by decide +kernel
theorem dX5_leave_30 : decode cX5_leave 30 = .ok (.getfield 10, 3) := by decide +kernel
theorem dX5_leave_33 : decode cX5_leave 33 = .ok (.invokevirtual 97, 3) := by decide +kernel
theorem dX5_leave_36 : decode cX5_leave 36 = .ok (.istore_n 2, 1) := by decide +kernel
theorem dX5_leave_37 : decode cX5_leave 37 = .ok (.aload_n 0, 1) := by decide +kernel
theorem dX5_leave_38 : decode cX5_leave 38 = .ok (.getfield 37, 3) := by decide +kernel
theorem dX5_leave_41 : decode cX5_leave 41 = .ok (.invokevirtual 86, 3) := by decide +kernel
theorem dX5_leave_44 : decode cX5_leave 44 = .ok (.aload_n 0, 1) := by decide +kernel
theorem dX5_leave_45 : decode cX5_leave 45 = .ok (.getfield 28, 3) := by decide +kernel
theorem dX5_leave_48 : decode cX5_leave 48 = .ok (.iload_n 1, 1) := by decide +kernel
theorem dX5_leave_49 : decode cX5_leave 49 = .ok (.invokevirtual 101, 3) := by decide +kernel
theorem dX5_leave_52 : decode cX5_leave 52 = .ok (.aload_n 0, 1) := by decide +kernel
theorem dX5_leave_53 : decode cX5_leave 53 = .ok (.invokevirtual 93, 3) := by decide +kernel
theorem dX5_leave_56 : decode cX5_leave 56 = .ok (.ifCond .ne 6, 3) := by decide +kernel
theorem dX5_leave_59 : decode cX5_leave 59 = .ok (.bipush (-3), 2) := by decide +kernel
theorem dX5_leave_61 : decode cX5_leave 61 = .ok (.ireturn, 1) := by decide +kernel
theorem dX5_leave_62 : decode cX5_leave 62 = .ok (.aload_n 0, 1) := by decide +kernel
theorem dX5_leave_63 : decode cX5_leave 63 = .ok (.getfield 10, 3) := by decide +kernel
theorem dX5_leave_66 : decode cX5_leave 66 = .ok (.invokevirtual 97, 3) := by decide +kernel
theorem dX5_leave_69 : decode cX5_leave 69 = .ok (.iload_n 2, 1) := by decide +kernel
theorem dX5_leave_70 : decode cX5_leave 70 = .ok (.isub, 1) := by decide +kernel
theorem dX5_leave_71 : decode cX5_leave 71 = .ok (.ireturn, 1) := by decide +kernel
theorem dX5_come_0 : decode cX5_come 0 = .ok (.aload_n 0, 1) := by decide +kernel
theorem dX5_come_1 : decode cX5_come 1 = .ok (.getfield 10, 3) := by decide +kernel
theorem dX5_come_4 : decode cX5_come 4 = .ok (.iload_n 1, 1) := by decide +kernel
theorem dX5_come_5 : decode cX5_come 5 = .ok (.iload_n 2, 1) := by decide +kernel
theorem dX5_come_6 : decode cX5_come 6 = .ok (.invokevirtual 104, 3) := by decide +kernel
theorem dX5_come_9 : decode cX5_come 9 = .ok (.ifCond .ne 5, 3) := by decide +kernel
theorem dX5_come_12 : decode cX5_come 12 = .ok (.iconst (-1), 1) := by decide +kernel
theorem dX5_come_13 : decode cX5_come 13 = .ok (.ireturn, 1) := by decide +kernel
theorem dX5_come_14 : decode cX5_come 14 = .ok (.aload_n 0, 1) := by decide +kernel
theorem dX5_come_15 : decode cX5_come 15 = .ok (.getfield 10, 3) := by decide +kernel
theorem dX5_come_18 : decode cX5_come 18 = .ok (.iload_n 1, 1) := by decide +kernel
theorem dX5_come_19 : decode cX5_come 19 = .ok (.iload_n 2, 1) := by decide +kernel
theorem dX5_come_20 : decode cX5_come 20 = .ok (.invokevirtual 108, 3) := by decide +kernel
theorem dX5_come_23 : decode cX5_come 23 = .ok (.ifCond .ne 6, 3) := by decide +kernel
theorem dX5_come_26 : decode cX5_come 26 = .ok (.bipush (-2), 2) := by decide +kernel
theorem dX5_come_28 : decode cX5_come 28 = .ok (.ireturn, 1) := by decide +kernel
theorem dX5_come_29 : decode cX5_come 29 = .ok (.aload_n 0, 1) := by decide +kernel
theorem dX5_come_30 : decode cX5_come 30 = .ok (.iload_n 1, 1) := by decide +kernel
theorem dX5_come_31 : decode cX5_come 31 = .ok (.iload_n 2, 1) := by decide +kernel
theorem dX5_come_32 : decode cX5_come 32 = .ok (.invokevirtual 111, 3) := by decide +kernel
theorem dX5_come_35 : decode cX5_come 35 = .ok (.ireturn, 1) := by decide +kernel
theorem dX5_run_0 : decode cX5_run 0 = .ok (.iload_n 1, 1) := by decide +kernel
theorem dX5_run_1 : decode cX5_run 1 = .ok (.iconst 1, 1) := by decide +kernel
theorem dX5_run_2 : decode cX5_run 2 = .ok (.if_icmp .lt 13, 3) := by decide +kernel
theorem dX5_run_5 : decode cX5_run 5 = .ok (.iload_n 1, 1) := by decide +kernel
theorem dX5_run_6 : decode cX5_run 6 = .ok (.bipush 100, 2) := by decide +kernel
theorem dX5_run_8 : decode cX5_run 8 = .ok (.if_icmp .gt 7, 3) := by decide +kernel
theorem dX5_run_11 : decode cX5_run 11 = .ok (.iload_n 2, 1) := by decide +kernel
theorem dX5_run_12 : decode cX5_run 12 = .ok (.ifCond .ge 5, 3) := by decide +kernel
theorem dX5_run_15 : decode cX5_run 15 = .ok (.iconst (-1), 1) := by decide +kernel
theorem dX5_run_16 : decode cX5_run 16 = .ok (.ireturn, 1) := by decide +kernel
theorem dX5_run_17 : decode cX5_run 17 = .ok (.iload_n 2, 1) := by decide +kernel
theorem dX5_run_18 : decode cX5_run 18 = .ok (.i2l, 1) := by decide +kernel
theorem dX5_run_19 : decode cX5_run 19 = .ok (.lstore_n 3, 1) := by decide +kernel
theorem dX5_run_20 : decode cX5_run 20 = .ok (.iconst 0, 1) := by decide +kernel
theorem dX5_run_21 : decode cX5_run 21 = .ok (.istore 5, 2) := by decide +kernel
theorem dX5_run_23 : decode cX5_run 23 = .ok (.iload 5, 2) := by decide +kernel
theorem dX5_run_25 : decode cX5_run 25 = .ok (.iload_n 1, 1) := by decide +kernel
theorem dX5_run_26 : decode cX5_run 26 = .ok (.if_icmp .ge 81, 3) := by decide +kernel
theorem dX5_run_29 : decode cX5_run 29 = .ok (.aload_n 0, 1) := by decide +kernel
theorem dX5_run_30 : decode cX5_run 30 = .ok (.getfield 10, 3) := by decide +kernel
theorem dX5_run_33 : decode cX5_run 33 = .ok (.invokevirtual 114, 3) := by decide +kernel
theorem dX5_run_36 : decode cX5_run 36 = .ok (.istore 6, 2) := by decide +kernel
theorem dX5_run_38 : decode cX5_run 38 = .ok (.iload 6, 2) := by decide +kernel
theorem dX5_run_40 : decode cX5_run 40 = .ok (.ifCond .gt 6, 3) := by decide +kernel
theorem dX5_run_43 : decode cX5_run 43 = .ok (.iload 5, 2) := by decide +kernel
theorem dX5_run_45 : decode cX5_run 45 = .ok (.ireturn, 1) := by decide +kernel
theorem dX5_run_46 : decode cX5_run 46 = .ok (.aload_n 0, 1) := by decide +kernel
theorem dX5_run_47 : decode cX5_run 47 = .ok (.getfield 10, 3) := by decide +kernel
theorem dX5_run_50 : decode cX5_run 50 = .ok (.lload_n 3, 1) := by decide +kernel
theorem dX5_run_51 : decode cX5_run 51 = .ok (.iload 6, 2) := by decide +kernel
theorem dX5_run_53 : decode cX5_run 53 = .ok (.i2l, 1) := by decide +kernel
theorem dX5_run_54 : decode cX5_run 54 = .ok (.lrem, 1) := by decide +kernel
theorem dX5_run_55 : decode cX5_run 55 = .ok (.l2i, 1) := by decide +kernel
theorem dX5_run_56 : decode cX5_run 56 = .ok (.invokevirtual 117, 3) := by decide +kernel
theorem dX5_run_59 : decode cX5_run 59 = .ok (.istore 7, 2) := by decide +kernel
theorem dX5_run_61 : decode cX5_run 61 = .ok (.aload_n 0, 1) := by decide +kernel
theorem dX5_run_62 : decode cX5_run 62 = .ok (.iload 7, 2) := by decide +kernel
theorem dX5_run_64 : decode cX5_run 64 = .ok (.bipush 6, 2) := by decide +kernel
theorem dX5_run_66 : decode cX5_run 66 = .ok (.idiv, 1) := by decide +kernel
theorem dX5_run_67 : decode cX5_run 67 = .ok (.iload 7, 2) := by decide +kernel
theorem dX5_run_69 : decode cX5_run 69 = .ok (.bipush 6, 2) := by decide +kernel
theorem dX5_run_71 : decode cX5_run 71 = .ok (.irem, 1) := by decide +kernel
theorem dX5_run_72 : decode cX5_run 72 = .ok (.invokevirtual 111, 3) := by decide +kernel
theorem dX5_run_75 : decode cX5_run 75 = .ok (.bipush (-3), 2) := by decide +kernel
theorem dX5_run_77 : decode cX5_run 77 = .ok (.if_icmp .ne 6, 3) := by decide +kernel
theorem dX5_run_80 : decode cX5_run 80 = .ok (.iload 5, 2) := by decide +kernel
theorem dX5_run_82 : decode cX5_run 82 = .ok (.ireturn, 1) := by decide +kernel
theorem dX5_run_83 : decode cX5_run 83 = .ok (.lload_n 3, 1) := by decide +kernel
theorem dX5_run_84 : decode cX5_run 84 = .ok (.ldc2_w 121, 3) := by decide +kernel
theorem dX5_run_87 : decode cX5_run 87 = .ok (.lmul, 1) := by decide +kernel
theorem dX5_run_88 : decode cX5_run 88 = .ok (.ldc2_w 123, 3) := by decide +kernel
theorem dX5_run_91 : decode cX5_run 91 = .ok (.ladd, 1) := by decide +kernel
theorem dX5_run_92 : decode cX5_run 92 = .ok (.ldc2_w 125, 3) := by decide +kernel
theorem dX5_run_95 : decode cX5_run 95 = .ok (.lrem, 1) := by decide +kernel
theorem dX5_run_96 : decode cX5_run 96 = .ok (.ldc2_w 127, 3) := by decide +kernel
theorem dX5_run_99 : decode cX5_run 99 = .ok (.ldiv, 1) := by decide +kernel
theorem dX5_run_100 : decode cX5_run 100 = .ok (.lstore_n 3, 1) := by decide +kernel
theorem dX5_run_101 : decode cX5_run 101 = .ok (.iinc 5 1, 3) := by decide +kernel
theorem dX5_run_104 : decode cX5_run 104 = .ok (.goto (-81), 3) := by decide +kernel
theorem dX5_run_107 : decode cX5_run 107 = .ok (.iload_n 1, 1) := by decide +kernel
theorem dX5_run_108 : decode cX5_run 108 = .ok (.ireturn, 1) := by decide +kernel
theorem dX5_keeper_0 : decode cX5_keeper 0 = .ok (.aload_n 0, 1) := by decide +kernel
theorem dX5_keeper_1 : decode cX5_keeper 1 = .ok (.getfield 10, 3) := by decide +kernel
theorem dX5_keeper_4 : decode cX5_keeper 4 = .ok (.iload_n 1, 1) := by decide +kernel
theorem dX5_keeper_5 : decode cX5_keeper 5 = .ok (.invokevirtual 82, 3) := by decide +kernel
theorem dX5_keeper_8 : decode cX5_keeper 8 = .ok (.ifCond .ne 5, 3) := by decide +kernel
theorem dX5_keeper_11 : decode cX5_keeper 11 = .ok (.iconst (-1), 1) := by decide +kernel
theorem dX5_keeper_12 : decode cX5_keeper 12 = .ok (.ireturn, 1) := by decide +kernel
theorem dX5_keeper_13 : decode cX5_keeper 13 = .ok (.aload_n 0, 1) := by decide +kernel
theorem dX5_keeper_14 : decode cX5_keeper 14 = .ok (.getfield 10, 3) := by decide +kernel
theorem dX5_keeper_17 : decode cX5_keeper 17 = .ok (.getfield 71, 3) := by decide +kernel
theorem dX5_keeper_20 : decode cX5_keeper 20 = .ok (.ifCond .ne 7, 3) := by decide +kernel
theorem dX5_keeper_23 : decode cX5_keeper 23 = .ok (.iconst 1, 1) := by decide +kernel
theorem dX5_keeper_24 : decode cX5_keeper 24 = .ok (.goto 4, 3) := by decide +kernel
theorem dX5_keeper_27 : decode cX5_keeper 27 = .ok (.iconst 0, 1) := by decide +kernel
theorem dX5_keeper_28 : decode cX5_keeper 28 = .ok (.istore_n 3, 1) := by decide +kernel
theorem dX5_keeper_29 : decode cX5_keeper 29 = .ok (.aload_n 0, 1) := by decide +kernel
theorem dX5_keeper_30 : decode cX5_keeper 30 = .ok (.getfield 10, 3) := by decide +kernel
theorem dX5_keeper_33 : decode cX5_keeper 33 = .ok (.getfield 71, 3) := by decide +kernel
theorem dX5_keeper_36 : decode cX5_keeper 36 = .ok (.iconst 2, 1) := by decide +kernel
theorem dX5_keeper_37 : decode cX5_keeper 37 = .ok (.if_icmp .ne 7, 3) := by decide +kernel
theorem dX5_keeper_40 : decode cX5_keeper 40 = .ok (.iconst 1, 1) := by decide +kernel
theorem dX5_keeper_41 : decode cX5_keeper 41 = .ok (.goto 4, 3) := by decide +kernel
theorem dX5_keeper_44 : decode cX5_keeper 44 = .ok (.iconst 0, 1) := by decide +kernel
theorem dX5_keeper_45 : decode cX5_keeper 45 = .ok (.istore 4, 2) := by decide +kernel
theorem dX5_keeper_47 : decode cX5_keeper 47 = .ok (.iload_n 2, 1) := by decide +kernel
theorem dX5_keeper_48 : decode cX5_keeper 48 = .ok (.tableswitch 231 0 9 #[56, 66, 85, 91, 108, 127, 144, 165, 185, 206], 56) := by decide +kernel
theorem dX5_keeper_104 : decode cX5_keeper 104 = .ok (.aload_n 0, 1) := by decide +kernel
theorem dX5_keeper_105 : decode cX5_keeper 105 = .ok (.getfield 10, 3) := by decide +kernel
theorem dX5_keeper_108 : decode cX5_keeper 108 = .ok (.iload_n 1, 1) := by decide +kernel
theorem dX5_keeper_109 : decode cX5_keeper 109 = .ok (.iconst 0, 1) := by decide +kernel
theorem dX5_keeper_110 : decode cX5_keeper 110 = .ok (.invokevirtual 74, 3) := by decide +kernel
theorem dX5_keeper_113 : decode cX5_keeper 113 = .ok (.ireturn, 1) := by decide +kernel
theorem dX5_keeper_114 : decode cX5_keeper 114 = .ok (.iload_n 3, 1) := by decide +kernel
theorem dX5_keeper_115 : decode cX5_keeper 115 = .ok (.ifCond .eq 16, 3) := by decide +kernel
theorem dX5_keeper_118 : decode cX5_keeper 118 = .ok (.aload_n 0, 1) := by decide +kernel
theorem dX5_keeper_119 : decode cX5_keeper 119 = .ok (.getfield 10, 3) := by decide +kernel
theorem dX5_keeper_122 : decode cX5_keeper 122 = .ok (.iload_n 1, 1) := by decide +kernel
theorem dX5_keeper_123 : decode cX5_keeper 123 = .ok (.bipush 6, 2) := by decide +kernel
theorem dX5_keeper_125 : decode cX5_keeper 125 = .ok (.invokevirtual 74, 3) := by decide +kernel
theorem dX5_keeper_128 : decode cX5_keeper 128 = .ok (.goto 4, 3) := by decide +kernel
theorem dX5_keeper_131 : decode cX5_keeper 131 = .ok (.iconst 0, 1) := by decide +kernel
theorem dX5_keeper_132 : decode cX5_keeper 132 = .ok (.ireturn, 1) := by decide +kernel
theorem dX5_keeper_133 : decode cX5_keeper 133 = .ok (.aload_n 0, 1) := by decide +kernel
theorem dX5_keeper_134 : decode cX5_keeper 134 = .ok (.iload_n 1, 1) := by decide +kernel
theorem dX5_keeper_135 : decode cX5_keeper 135 = .ok (.invokevirtual 129, 3) := by decide +kernel
theorem dX5_keeper_138 : decode cX5_keeper 138 = .ok (.ireturn, 1) := by decide +kernel
theorem dX5_keeper_139 : decode cX5_keeper 139 = .ok (.iload_n 3, 1) := by decide +kernel
theorem dX5_keeper_140 : decode cX5_keeper 140 = .ok (.ifCond .eq 14, 3) := by decide +kernel
theorem dX5_keeper_143 : decode cX5_keeper 143 = .ok (.aload_n 0, 1) := by decide +kernel
theorem dX5_keeper_144 : decode cX5_keeper 144 = .ok (.getfield 28, 3) := by decide +kernel
theorem dX5_keeper_147 : decode cX5_keeper 147 = .ok (.iload_n 1, 1) := by decide +kernel
theorem dX5_keeper_148 : decode cX5_keeper 148 = .ok (.invokevirtual 132, 3) := by decide +kernel
theorem dX5_keeper_151 : decode cX5_keeper 151 = .ok (.goto 4, 3) := by decide +kernel
theorem dX5_keeper_154 : decode cX5_keeper 154 = .ok (.iconst 0, 1) := by decide +kernel
theorem dX5_keeper_155 : decode cX5_keeper 155 = .ok (.ireturn, 1) := by decide +kernel
theorem dX5_keeper_156 : decode cX5_keeper 156 = .ok (.iload_n 3, 1) := by decide +kernel
theorem dX5_keeper_157 : decode cX5_keeper 157 = .ok (.ifCond .eq 16, 3) := by decide +kernel
theorem dX5_keeper_160 : decode cX5_keeper 160 = .ok (.aload_n 0, 1) := by decide +kernel
theorem dX5_keeper_161 : decode cX5_keeper 161 = .ok (.getfield 10, 3) := by decide +kernel
theorem dX5_keeper_164 : decode cX5_keeper 164 = .ok (.iload_n 1, 1) := by decide +kernel
theorem dX5_keeper_165 : decode cX5_keeper 165 = .ok (.bipush 24, 2) := by decide +kernel
theorem dX5_keeper_167 : decode cX5_keeper 167 = .ok (.invokevirtual 74, 3) := by decide +kernel
theorem dX5_keeper_170 : decode cX5_keeper 170 = .ok (.goto 4, 3) := by decide +kernel
theorem dX5_keeper_173 : decode cX5_keeper 173 = .ok (.iconst 0, 1) := by decide +kernel
theorem dX5_keeper_174 : decode cX5_keeper 174 = .ok (.ireturn, 1) := by decide +kernel
theorem dX5_keeper_175 : decode cX5_keeper 175 = .ok (.aload_n 0, 1) := by decide +kernel
theorem dX5_keeper_176 : decode cX5_keeper 176 = .ok (.getfield 10, 3) := by decide +kernel
theorem dX5_keeper_179 : decode cX5_keeper 179 = .ok (.iload_n 1, 1) := by decide +kernel
theorem dX5_keeper_180 : decode cX5_keeper 180 = .ok (.invokevirtual 135, 3) := by decide +kernel
theorem dX5_keeper_183 : decode cX5_keeper 183 = .ok (.ifCond .eq 7, 3) := by decide +kernel
theorem dX5_keeper_186 : decode cX5_keeper 186 = .ok (.iconst 1, 1) := by decide +kernel
theorem dX5_keeper_187 : decode cX5_keeper 187 = .ok (.goto 4, 3) := by decide +kernel
theorem dX5_keeper_190 : decode cX5_keeper 190 = .ok (.iconst 0, 1) := by decide +kernel
theorem dX5_keeper_191 : decode cX5_keeper 191 = .ok (.ireturn, 1) := by decide +kernel
theorem dX5_keeper_192 : decode cX5_keeper 192 = .ok (.iload 4, 2) := by decide +kernel
theorem dX5_keeper_194 : decode cX5_keeper 194 = .ok (.ifCond .eq 16, 3) := by decide +kernel
theorem dX5_keeper_197 : decode cX5_keeper 197 = .ok (.aload_n 0, 1) := by decide +kernel
theorem dX5_keeper_198 : decode cX5_keeper 198 = .ok (.getfield 10, 3) := by decide +kernel
theorem dX5_keeper_201 : decode cX5_keeper 201 = .ok (.iload_n 1, 1) := by decide +kernel
theorem dX5_keeper_202 : decode cX5_keeper 202 = .ok (.bipush 86, 2) := by decide +kernel
theorem dX5_keeper_204 : decode cX5_keeper 204 = .ok (.invokevirtual 74, 3) := by decide +kernel
theorem dX5_keeper_207 : decode cX5_keeper 207 = .ok (.goto 5, 3) := by decide +kernel
theorem dX5_keeper_210 : decode cX5_keeper 210 = .ok (.bipush (-4), 2) := by decide +kernel
theorem dX5_keeper_212 : decode cX5_keeper 212 = .ok (.ireturn, 1) := by decide +kernel
theorem dX5_keeper_213 : decode cX5_keeper 213 = .ok (.iload 4, 2) := by decide +kernel
theorem dX5_keeper_215 : decode cX5_keeper 215 = .ok (.ifCond .eq 16, 3) := by decide +kernel
theorem dX5_keeper_218 : decode cX5_keeper 218 = .ok (.aload_n 0, 1) := by decide +kernel
theorem dX5_keeper_219 : decode cX5_keeper 219 = .ok (.getfield 10, 3) := by decide +kernel
theorem dX5_keeper_222 : decode cX5_keeper 222 = .ok (.iload_n 1, 1) := by decide +kernel
theorem dX5_keeper_223 : decode cX5_keeper 223 = .ok (.bipush 92, 2) := by decide +kernel
theorem dX5_keeper_225 : decode cX5_keeper 225 = .ok (.invokevirtual 74, 3) := by decide +kernel
theorem dX5_keeper_228 : decode cX5_keeper 228 = .ok (.goto 4, 3) := by decide +kernel
theorem dX5_keeper_231 : decode cX5_keeper 231 = .ok (.iconst 0, 1) := by decide +kernel
theorem dX5_keeper_232 : decode cX5_keeper 232 = .ok (.ireturn, 1) := by decide +kernel
theorem dX5_keeper_233 : decode cX5_keeper 233 = .ok (.iload 4, 2) := by decide +kernel
theorem dX5_keeper_235 : decode cX5_keeper 235 = .ok (.ifCond .eq 17, 3) := by decide +kernel
theorem dX5_keeper_238 : decode cX5_keeper 238 = .ok (.aload_n 0, 1) := by decide +kernel
theorem dX5_keeper_239 : decode cX5_keeper 239 = .ok (.getfield 10, 3) := by decide +kernel
theorem dX5_keeper_242 : decode cX5_keeper 242 = .ok (.iload_n 1, 1) := by decide +kernel
theorem dX5_keeper_243 : decode cX5_keeper 243 = .ok (.invokestatic 138, 3) := by decide +kernel
theorem dX5_keeper_246 : decode cX5_keeper 246 = .ok (.invokevirtual 141, 3) := by decide +kernel
theorem dX5_keeper_249 : decode cX5_keeper 249 = .ok (.goto 4, 3) := by decide +kernel
theorem dX5_keeper_252 : decode cX5_keeper 252 = .ok (.iconst 0, 1) := by decide +kernel
theorem dX5_keeper_253 : decode cX5_keeper 253 = .ok (.ireturn, 1) := by decide +kernel
theorem dX5_keeper_254 : decode cX5_keeper 254 = .ok (.iload 4, 2) := by decide +kernel
theorem dX5_keeper_256 : decode cX5_keeper 256 = .ok (.ifCond .eq 20, 3) := by decide +kernel
theorem dX5_keeper_259 : decode cX5_keeper 259 = .ok (.iload_n 1, 1) := by decide +kernel
theorem dX5_keeper_260 : decode cX5_keeper 260 = .ok (.ifCond .le 16, 3) := by decide +kernel
theorem dX5_keeper_263 : decode cX5_keeper 263 = .ok (.aload_n 0, 1) := by decide +kernel
theorem dX5_keeper_264 : decode cX5_keeper 264 = .ok (.getfield 10, 3) := by decide +kernel
theorem dX5_keeper_267 : decode cX5_keeper 267 = .ok (.iload_n 1, 1) := by decide +kernel
theorem dX5_keeper_268 : decode cX5_keeper 268 = .ok (.bipush 80, 2) := by decide +kernel
theorem dX5_keeper_270 : decode cX5_keeper 270 = .ok (.invokevirtual 74, 3) := by decide +kernel
theorem dX5_keeper_273 : decode cX5_keeper 273 = .ok (.goto 5, 3) := by decide +kernel
theorem dX5_keeper_276 : decode cX5_keeper 276 = .ok (.bipush (-4), 2) := by decide +kernel
theorem dX5_keeper_278 : decode cX5_keeper 278 = .ok (.ireturn, 1) := by decide +kernel
theorem dX5_keeper_279 : decode cX5_keeper 279 = .ok (.iconst (-1), 1) := by decide +kernel
theorem dX5_keeper_280 : decode cX5_keeper 280 = .ok (.ireturn, 1) := by decide +kernel
theorem dX5_knows_0 : decode cX5_knows 0 = .ok (.aload_n 0, 1) := by decide +kernel
theorem dX5_knows_1 : decode cX5_knows 1 = .ok (.getfield 10, 3) := by decide +kernel
theorem dX5_knows_4 : decode cX5_knows 4 = .ok (.getfield 71, 3) := by decide +kernel
theorem dX5_knows_7 : decode cX5_knows 7 = .ok (.ifCond .eq 14, 3) := by decide +kernel
theorem dX5_knows_10 : decode cX5_knows 10 = .ok (.aload_n 0, 1) := by decide +kernel
theorem dX5_knows_11 : decode cX5_knows 11 = .ok (.getfield 10, 3) := by decide +kernel
theorem dX5_knows_14 : decode cX5_knows 14 = .ok (.iload_n 1, 1) := by decide +kernel
theorem dX5_knows_15 : decode cX5_knows 15 = .ok (.invokevirtual 82, 3) := by decide +kernel
theorem dX5_knows_18 : decode cX5_knows 18 = .ok (.ifCond .ne 6, 3) := by decide +kernel
theorem dX5_knows_21 : decode cX5_knows 21 = .ok (.bipush (-4), 2) := by decide +kernel
theorem dX5_knows_23 : decode cX5_knows 23 = .ok (.ireturn, 1) := by decide +kernel
theorem dX5_knows_24 : decode cX5_knows 24 = .ok (.aload_n 0, 1) := by decide +kernel
theorem dX5_knows_25 : decode cX5_knows 25 = .ok (.getfield 10, 3) := by decide +kernel
theorem dX5_knows_28 : decode cX5_knows 28 = .ok (.getfield 71, 3) := by decide +kernel
theorem dX5_knows_31 : decode cX5_knows 31 = .ok (.iconst 1, 1) := by decide +kernel
theorem dX5_knows_32 : decode cX5_knows 32 = .ok (.if_icmp .ne 29, 3) := by decide +kernel
theorem dX5_knows_35 : decode cX5_knows 35 = .ok (.aload_n 0, 1) := by decide +kernel
theorem dX5_knows_36 : decode cX5_knows 36 = .ok (.getfield 10, 3) := by decide +kernel
theorem dX5_knows_39 : decode cX5_knows 39 = .ok (.iload_n 2, 1) := by decide +kernel
theorem dX5_knows_40 : decode cX5_knows 40 = .ok (.invokevirtual 82, 3) := by decide +kernel
theorem dX5_knows_43 : decode cX5_knows 43 = .ok (.ifCond .eq 15, 3) := by decide +kernel
theorem dX5_knows_46 : decode cX5_knows 46 = .ok (.aload_n 0, 1) := by decide +kernel
theorem dX5_knows_47 : decode cX5_knows 47 = .ok (.getfield 10, 3) := by decide +kernel
theorem dX5_knows_50 : decode cX5_knows 50 = .ok (.iload_n 1, 1) := by decide +kernel
theorem dX5_knows_51 : decode cX5_knows 51 = .ok (.iload_n 2, 1) := by decide +kernel
theorem dX5_knows_52 : decode cX5_knows 52 = .ok (.invokevirtual 144, 3) := by decide +kernel
theorem dX5_knows_55 : decode cX5_knows 55 = .ok (.goto 5, 3) := by decide +kernel
theorem dX5_knows_58 : decode cX5_knows 58 = .ok (.bipush (-4), 2) := by decide +kernel
theorem dX5_knows_60 : decode cX5_knows 60 = .ok (.ireturn, 1) := by decide +kernel
theorem dX5_knows_61 : decode cX5_knows 61 = .ok (.iload_n 1, 1) := by decide +kernel
theorem dX5_knows_62 : decode cX5_knows 62 = .ok (.invokestatic 138, 3) := by decide +kernel
theorem dX5_knows_65 : decode cX5_knows 65 = .ok (.istore_n 3, 1) := by decide +kernel
theorem dX5_knows_66 : decode cX5_knows 66 = .ok (.iload_n 2, 1) := by decide +kernel
theorem dX5_knows_67 : decode cX5_knows 67 = .ok (.ifCond .lt 30, 3) := by decide +kernel
theorem dX5_knows_70 : decode cX5_knows 70 = .ok (.iload_n 2, 1) := by decide +kernel
theorem dX5_knows_71 : decode cX5_knows 71 = .ok (.aload_n 0, 1) := by decide +kernel
theorem dX5_knows_72 : decode cX5_knows 72 = .ok (.getfield 10, 3) := by decide +kernel
theorem dX5_knows_75 : decode cX5_knows 75 = .ok (.iload_n 3, 1) := by decide +kernel
theorem dX5_knows_76 : decode cX5_knows 76 = .ok (.invokevirtual 141, 3) := by decide +kernel
theorem dX5_knows_79 : decode cX5_knows 79 = .ok (.if_icmp .ge 18, 3) := by decide +kernel
theorem dX5_knows_82 : decode cX5_knows 82 = .ok (.aload_n 0, 1) := by decide +kernel
theorem dX5_knows_83 : decode cX5_knows 83 = .ok (.getfield 10, 3) := by decide +kernel
theorem dX5_knows_86 : decode cX5_knows 86 = .ok (.iload_n 3, 1) := by decide +kernel
theorem dX5_knows_87 : decode cX5_knows 87 = .ok (.iconst 1, 1) := by decide +kernel
theorem dX5_knows_88 : decode cX5_knows 88 = .ok (.iadd, 1) := by decide +kernel
theorem dX5_knows_89 : decode cX5_knows 89 = .ok (.iload_n 2, 1) := by decide +kernel
theorem dX5_knows_90 : decode cX5_knows 90 = .ok (.iadd, 1) := by decide +kernel
theorem dX5_knows_91 : decode cX5_knows 91 = .ok (.invokevirtual 141, 3) := by decide +kernel
theorem dX5_knows_94 : decode cX5_knows 94 = .ok (.goto 5, 3) := by decide +kernel
theorem dX5_knows_97 : decode cX5_knows 97 = .ok (.bipush (-4), 2) := by decide +kernel
theorem dX5_knows_99 : decode cX5_knows 99 = .ok (.ireturn, 1) := by decide +kernel
theorem dX5_token_0 : decode cX5_token 0 = .ok (.iload_n 1, 1) := by decide +kernel
theorem dX5_token_1 : decode cX5_token 1 = .ok (.ifCond .lt 19, 3) := by decide +kernel
theorem dX5_token_4 : decode cX5_token 4 = .ok (.iload_n 1, 1) := by decide +kernel
theorem dX5_token_5 : decode cX5_token 5 = .ok (.iconst 1, 1) := by decide +kernel
theorem dX5_token_6 : decode cX5_token 6 = .ok (.if_icmp .gt 14, 3) := by decide +kernel
theorem dX5_token_9 : decode cX5_token 9 = .ok (.aload_n 0, 1) := by decide +kernel
theorem dX5_token_10 : decode cX5_token 10 = .ok (.getfield 10, 3) := by decide +kernel
theorem dX5_token_13 : decode cX5_token 13 = .ok (.iload_n 2, 1) := by decide +kernel
theorem dX5_token_14 : decode cX5_token 14 = .ok (.invokevirtual 82, 3) := by decide +kernel
theorem dX5_token_17 : decode cX5_token 17 = .ok (.ifCond .ne 5, 3) := by decide +kernel
theorem dX5_token_20 : decode cX5_token 20 = .ok (.iconst (-1), 1) := by decide +kernel
theorem dX5_token_21 : decode cX5_token 21 = .ok (.ireturn, 1) := by decide +kernel
theorem dX5_token_22 : decode cX5_token 22 = .ok (.aload_n 0, 1) := by decide +kernel
theorem dX5_token_23 : decode cX5_token 23 = .ok (.getfield 10, 3) := by decide +kernel
theorem dX5_token_26 : decode cX5_token 26 = .ok (.getfield 71, 3) := by decide +kernel
theorem dX5_token_29 : decode cX5_token 29 = .ok (.iconst 1, 1) := by decide +kernel
theorem dX5_token_30 : decode cX5_token 30 = .ok (.if_icmp .eq 6, 3) := by decide +kernel
theorem dX5_token_33 : decode cX5_token 33 = .ok (.bipush (-2), 2) := by decide +kernel
theorem dX5_token_35 : decode cX5_token 35 = .ok (.ireturn, 1) := by decide +kernel
theorem dX5_token_36 : decode cX5_token 36 = .ok (.iload_n 1, 1) := by decide +kernel
theorem dX5_token_37 : decode cX5_token 37 = .ok (.ifCond .ne 15, 3) := by decide +kernel
theorem dX5_token_40 : decode cX5_token 40 = .ok (.aload_n 0, 1) := by decide +kernel
theorem dX5_token_41 : decode cX5_token 41 = .ok (.getfield 10, 3) := by decide +kernel
theorem dX5_token_44 : decode cX5_token 44 = .ok (.bipush 31, 2) := by decide +kernel
theorem dX5_token_46 : decode cX5_token 46 = .ok (.iload_n 2, 1) := by decide +kernel
theorem dX5_token_47 : decode cX5_token 47 = .ok (.iadd, 1) := by decide +kernel
theorem dX5_token_48 : decode cX5_token 48 = .ok (.invokevirtual 141, 3) := by decide +kernel
theorem dX5_token_51 : decode cX5_token 51 = .ok (.ireturn, 1) := by decide +kernel
theorem dX5_token_52 : decode cX5_token 52 = .ok (.iload_n 2, 1) := by decide +kernel
theorem dX5_token_53 : decode cX5_token 53 = .ok (.aload_n 0, 1) := by decide +kernel
theorem dX5_token_54 : decode cX5_token 54 = .ok (.getfield 10, 3) := by decide +kernel
theorem dX5_token_57 : decode cX5_token 57 = .ok (.bipush 37, 2) := by decide +kernel
theorem dX5_token_59 : decode cX5_token 59 = .ok (.invokevirtual 141, 3) := by decide +kernel
theorem dX5_token_62 : decode cX5_token 62 = .ok (.if_icmp .ge 17, 3) := by decide +kernel
theorem dX5_token_65 : decode cX5_token 65 = .ok (.aload_n 0, 1) := by decide +kernel
theorem dX5_token_66 : decode cX5_token 66 = .ok (.getfield 10, 3) := by decide +kernel
theorem dX5_token_69 : decode cX5_token 69 = .ok (.bipush 38, 2) := by decide +kernel
theorem dX5_token_71 : decode cX5_token 71 = .ok (.iload_n 2, 1) := by decide +kernel
theorem dX5_token_72 : decode cX5_token 72 = .ok (.iadd, 1) := by decide +kernel
theorem dX5_token_73 : decode cX5_token 73 = .ok (.invokevirtual 141, 3) := by decide +kernel
theorem dX5_token_76 : decode cX5_token 76 = .ok (.goto 5, 3) := by decide +kernel
theorem dX5_token_79 : decode cX5_token 79 = .ok (.bipush (-4), 2) := by decide +kernel
theorem dX5_token_81 : decode cX5_token 81 = .ok (.ireturn, 1) := by decide +kernel
theorem dX5_letter_0 : decode cX5_letter 0 = .ok (.aload_n 0, 1) := by decide +kernel
theorem dX5_letter_1 : decode cX5_letter 1 = .ok (.getfield 10, 3) := by decide +kernel
theorem dX5_letter_4 : decode cX5_letter 4 = .ok (.iload_n 1, 1) := by decide +kernel
theorem dX5_letter_5 : decode cX5_letter 5 = .ok (.iload_n 2, 1) := by decide +kernel
theorem dX5_letter_6 : decode cX5_letter 6 = .ok (.invokevirtual 104, 3) := by decide +kernel
theorem dX5_letter_9 : decode cX5_letter 9 = .ok (.ifCond .eq 19, 3) := by decide +kernel
theorem dX5_letter_12 : decode cX5_letter 12 = .ok (.iload_n 3, 1) := by decide +kernel
theorem dX5_letter_13 : decode cX5_letter 13 = .ok (.iconst (-1), 1) := by decide +kernel
theorem dX5_letter_14 : decode cX5_letter 14 = .ok (.if_icmp .lt 14, 3) := by decide +kernel
theorem dX5_letter_17 : decode cX5_letter 17 = .ok (.iload 4, 2) := by decide +kernel
theorem dX5_letter_19 : decode cX5_letter 19 = .ok (.ifCond .lt 9, 3) := by decide +kernel
theorem dX5_letter_22 : decode cX5_letter 22 = .ok (.iload 4, 2) := by decide +kernel
theorem dX5_letter_24 : decode cX5_letter 24 = .ok (.iconst 1, 1) := by decide +kernel
theorem dX5_letter_25 : decode cX5_letter 25 = .ok (.if_icmp .le 5, 3) := by decide +kernel
theorem dX5_letter_28 : decode cX5_letter 28 = .ok (.iconst (-1), 1) := by decide +kernel
theorem dX5_letter_29 : decode cX5_letter 29 = .ok (.ireturn, 1) := by decide +kernel
theorem dX5_letter_30 : decode cX5_letter 30 = .ok (.aload_n 0, 1) := by decide +kernel
theorem dX5_letter_31 : decode cX5_letter 31 = .ok (.getfield 10, 3) := by decide +kernel
theorem dX5_letter_34 : decode cX5_letter 34 = .ok (.iload_n 1, 1) := by decide +kernel
theorem dX5_letter_35 : decode cX5_letter 35 = .ok (.iload_n 2, 1) := by decide +kernel
theorem dX5_letter_36 : decode cX5_letter 36 = .ok (.invokevirtual 108, 3) := by decide +kernel
theorem dX5_letter_39 : decode cX5_letter 39 = .ok (.istore 5, 2) := by decide +kernel
theorem dX5_letter_41 : decode cX5_letter 41 = .ok (.iload_n 3, 1) := by decide +kernel
theorem dX5_letter_42 : decode cX5_letter 42 = .ok (.iconst (-1), 1) := by decide +kernel
theorem dX5_letter_43 : decode cX5_letter 43 = .ok (.if_icmp .ne 6, 3) := by decide +kernel
theorem dX5_letter_46 : decode cX5_letter 46 = .ok (.iload 5, 2) := by decide +kernel
theorem dX5_letter_48 : decode cX5_letter 48 = .ok (.ireturn, 1) := by decide +kernel
theorem dX5_letter_49 : decode cX5_letter 49 = .ok (.iload_n 3, 1) := by decide +kernel
theorem dX5_letter_50 : decode cX5_letter 50 = .ok (.iload 5, 2) := by decide +kernel
theorem dX5_letter_52 : decode cX5_letter 52 = .ok (.if_icmp .lt 6, 3) := by decide +kernel
theorem dX5_letter_55 : decode cX5_letter 55 = .ok (.bipush (-4), 2) := by decide +kernel
theorem dX5_letter_57 : decode cX5_letter 57 = .ok (.ireturn, 1) := by decide +kernel
theorem dX5_letter_58 : decode cX5_letter 58 = .ok (.aload_n 0, 1) := by decide +kernel
theorem dX5_letter_59 : decode cX5_letter 59 = .ok (.getfield 10, 3) := by decide +kernel
theorem dX5_letter_62 : decode cX5_letter 62 = .ok (.iload_n 1, 1) := by decide +kernel
theorem dX5_letter_63 : decode cX5_letter 63 = .ok (.iload_n 2, 1) := by decide +kernel
theorem dX5_letter_64 : decode cX5_letter 64 = .ok (.iload_n 3, 1) := by decide +kernel
theorem dX5_letter_65 : decode cX5_letter 65 = .ok (.invokevirtual 147, 3) := by decide +kernel
theorem dX5_letter_68 : decode cX5_letter 68 = .ok (.istore 6, 2) := by decide +kernel
theorem dX5_letter_70 : decode cX5_letter 70 = .ok (.iload 4, 2) := by decide +kernel
theorem dX5_letter_72 : decode cX5_letter 72 = .ok (.ifCond .ne 11, 3) := by decide +kernel
theorem dX5_letter_75 : decode cX5_letter 75 = .ok (.iload 6, 2) := by decide +kernel
theorem dX5_letter_77 : decode cX5_letter 77 = .ok (.invokestatic 151, 3) := by decide +kernel
theorem dX5_letter_80 : decode cX5_letter 80 = .ok (.goto 8, 3) := by decide +kernel
theorem dX5_letter_83 : decode cX5_letter 83 = .ok (.iload 6, 2) := by decide +kernel
theorem dX5_letter_85 : decode cX5_letter 85 = .ok (.invokestatic 154, 3) := by decide +kernel
theorem dX5_letter_88 : decode cX5_letter 88 = .ok (.ireturn, 1) := by decide +kernel
theorem dX5_entry_0 : decode cX5_entry 0 = .ok (.iload_n 1, 1) := by decide +kernel
theorem dX5_entry_1 : decode cX5_entry 1 = .ok (.ifCond .lt 12, 3) := by decide +kernel
theorem dX5_entry_4 : decode cX5_entry 4 = .ok (.iload_n 2, 1) := by decide +kernel
theorem dX5_entry_5 : decode cX5_entry 5 = .ok (.ifCond .lt 8, 3) := by decide +kernel
theorem dX5_entry_8 : decode cX5_entry 8 = .ok (.iload_n 2, 1) := by decide +kernel
theorem dX5_entry_9 : decode cX5_entry 9 = .ok (.iconst 3, 1) := by decide +kernel
theorem dX5_entry_10 : decode cX5_entry 10 = .ok (.if_icmp .lt 5, 3) := by decide +kernel
theorem dX5_entry_13 : decode cX5_entry 13 = .ok (.iconst (-1), 1) := by decide +kernel
theorem dX5_entry_14 : decode cX5_entry 14 = .ok (.ireturn, 1) := by decide +kernel
theorem dX5_entry_15 : decode cX5_entry 15 = .ok (.aload_n 0, 1) := by decide +kernel
theorem dX5_entry_16 : decode cX5_entry 16 = .ok (.getfield 10, 3) := by decide +kernel
theorem dX5_entry_19 : decode cX5_entry 19 = .ok (.sipush 611, 3) := by decide +kernel
theorem dX5_entry_22 : decode cX5_entry 22 = .ok (.invokevirtual 141, 3) := by decide +kernel
theorem dX5_entry_25 : decode cX5_entry 25 = .ok (.istore_n 3, 1) := by decide +kernel
theorem dX5_entry_26 : decode cX5_entry 26 = .ok (.iload_n 1, 1) := by decide +kernel
theorem dX5_entry_27 : decode cX5_entry 27 = .ok (.iload_n 3, 1) := by decide +kernel
theorem dX5_entry_28 : decode cX5_entry 28 = .ok (.if_icmp .ge 9, 3) := by decide +kernel
theorem dX5_entry_31 : decode cX5_entry 31 = .ok (.iload_n 1, 1) := by decide +kernel
theorem dX5_entry_32 : decode cX5_entry 32 = .ok (.bipush 60, 2) := by decide +kernel
theorem dX5_entry_34 : decode cX5_entry 34 = .ok (.if_icmp .lt 6, 3) := by decide +kernel
theorem dX5_entry_37 : decode cX5_entry 37 = .ok (.bipush (-4), 2) := by decide +kernel
theorem dX5_entry_39 : decode cX5_entry 39 = .ok (.ireturn, 1) := by decide +kernel
theorem dX5_entry_40 : decode cX5_entry 40 = .ok (.aload_n 0, 1) := by decide +kernel
theorem dX5_entry_41 : decode cX5_entry 41 = .ok (.getfield 19, 3) := by decide +kernel
theorem dX5_entry_44 : decode cX5_entry 44 = .ok (.iload_n 3, 1) := by decide +kernel
theorem dX5_entry_45 : decode cX5_entry 45 = .ok (.iconst 1, 1) := by decide +kernel
theorem dX5_entry_46 : decode cX5_entry 46 = .ok (.isub, 1) := by decide +kernel
theorem dX5_entry_47 : decode cX5_entry 47 = .ok (.iload_n 1, 1) := by decide +kernel
theorem dX5_entry_48 : decode cX5_entry 48 = .ok (.isub, 1) := by decide +kernel
theorem dX5_entry_49 : decode cX5_entry 49 = .ok (.iload_n 2, 1) := by decide +kernel
theorem dX5_entry_50 : decode cX5_entry 50 = .ok (.invokevirtual 157, 3) := by decide +kernel
theorem dX5_entry_53 : decode cX5_entry 53 = .ok (.ireturn, 1) := by decide +kernel
theorem dX5_undo_0 : decode cX5_undo 0 = .ok (.aload_n 0, 1) := by decide +kernel
theorem dX5_undo_1 : decode cX5_undo 1 = .ok (.getfield 37, 3) := by decide +kernel
theorem dX5_undo_4 : decode cX5_undo 4 = .ok (.invokevirtual 160, 3) := by decide +kernel
theorem dX5_undo_7 : decode cX5_undo 7 = .ok (.ifCond .eq 7, 3) := by decide +kernel
theorem dX5_undo_10 : decode cX5_undo 10 = .ok (.iconst 1, 1) := by decide +kernel
theorem dX5_undo_11 : decode cX5_undo 11 = .ok (.goto 5, 3) := by decide +kernel
theorem dX5_undo_14 : decode cX5_undo 14 = .ok (.bipush (-2), 2) := by decide +kernel
theorem dX5_undo_16 : decode cX5_undo 16 = .ok (.ireturn, 1) := by decide +kernel
theorem dX5_pass_0 : decode cX5_pass 0 = .ok (.aload_n 0, 1) := by decide +kernel
theorem dX5_pass_1 : decode cX5_pass 1 = .ok (.getfield 58, 3) := by decide +kernel
theorem dX5_pass_4 : decode cX5_pass 4 = .ok (.bipush 15, 2) := by decide +kernel
theorem dX5_pass_6 : decode cX5_pass 6 = .ok (.if_icmp .lt 6, 3) := by decide +kernel
theorem dX5_pass_9 : decode cX5_pass 9 = .ok (.bipush (-3), 2) := by decide +kernel
theorem dX5_pass_11 : decode cX5_pass 11 = .ok (.ireturn, 1) := by decide +kernel
theorem dX5_pass_12 : decode cX5_pass 12 = .ok (.aload_n 0, 1) := by decide +kernel
theorem dX5_pass_13 : decode cX5_pass 13 = .ok (.dup, 1) := by decide +kernel
theorem dX5_pass_14 : decode cX5_pass 14 = .ok (.getfield 58, 3) := by decide +kernel
theorem dX5_pass_17 : decode cX5_pass 17 = .ok (.iconst 1, 1) := by decide +kernel
theorem dX5_pass_18 : decode cX5_pass 18 = .ok (.iadd, 1) := by decide +kernel
theorem dX5_pass_19 : decode cX5_pass 19 = .ok (.putfield 58, 3) := by decide +kernel
theorem dX5_pass_22 : decode cX5_pass 22 = .ok (.aload_n 0, 1) := by decide +kernel
theorem dX5_pass_23 : decode cX5_pass 23 = .ok (.getfield 46, 3) := by decide +kernel
theorem dX5_pass_26 : decode cX5_pass 26 = .ok (.invokevirtual 163, 3) := by decide +kernel
theorem dX5_pass_29 : decode cX5_pass 29 = .ok (.ireturn, 1) := by decide +kernel
theorem dX5_passed_0 : decode cX5_passed 0 = .ok (.iload_n 1, 1) := by decide +kernel
theorem dX5_passed_1 : decode cX5_passed 1 = .ok (.ifCond .lt 15, 3) := by decide +kernel
theorem dX5_passed_4 : decode cX5_passed 4 = .ok (.iload_n 1, 1) := by decide +kernel
theorem dX5_passed_5 : decode cX5_passed 5 = .ok (.aload_n 0, 1) := by decide +kernel
theorem dX5_passed_6 : decode cX5_passed 6 = .ok (.getfield 46, 3) := by decide +kernel
theorem dX5_passed_9 : decode cX5_passed 9 = .ok (.getfield 166, 3) := by decide +kernel
theorem dX5_passed_12 : decode cX5_passed 12 = .ok (.arraylength, 1) := by decide +kernel
theorem dX5_passed_13 : decode cX5_passed 13 = .ok (.if_icmp .lt 5, 3) := by decide +kernel
theorem dX5_passed_16 : decode cX5_passed 16 = .ok (.iconst (-1), 1) := by decide +kernel
theorem dX5_passed_17 : decode cX5_passed 17 = .ok (.ireturn, 1) := by decide +kernel
theorem dX5_passed_18 : decode cX5_passed 18 = .ok (.aload_n 0, 1) := by decide +kernel
theorem dX5_passed_19 : decode cX5_passed 19 = .ok (.getfield 46, 3) := by decide +kernel
theorem dX5_passed_22 : decode cX5_passed 22 = .ok (.getfield 166, 3) := by decide +kernel
theorem dX5_passed_25 : decode cX5_passed 25 = .ok (.iload_n 1, 1) := by decide +kernel
theorem dX5_passed_26 : decode cX5_passed 26 = .ok (.iaload, 1) := by decide +kernel
theorem dX5_passed_27 : decode cX5_passed 27 = .ok (.ireturn, 1) := by decide +kernel
theorem dX5_count_0 : decode cX5_count 0 = .ok (.iload_n 1, 1) := by decide +kernel
theorem dX5_count_1 : decode cX5_count 1 = .ok (.tableswitch 149 0 9 #[55, 63, 71, 82, 93, 104, 115, 123, 132, 141], 55) := by decide +kernel
theorem dX5_count_56 : decode cX5_count 56 = .ok (.aload_n 0, 1) := by decide +kernel
theorem dX5_count_57 : decode cX5_count 57 = .ok (.getfield 10, 3) := by decide +kernel
theorem dX5_count_60 : decode cX5_count 60 = .ok (.getfield 68, 3) := by decide +kernel
theorem dX5_count_63 : decode cX5_count 63 = .ok (.ireturn, 1) := by decide +kernel
theorem dX5_count_64 : decode cX5_count 64 = .ok (.aload_n 0, 1) := by decide +kernel
theorem dX5_count_65 : decode cX5_count 65 = .ok (.getfield 10, 3) := by decide +kernel
theorem dX5_count_68 : decode cX5_count 68 = .ok (.getfield 71, 3) := by decide +kernel
theorem dX5_count_71 : decode cX5_count 71 = .ok (.ireturn, 1) := by decide +kernel
theorem dX5_count_72 : decode cX5_count 72 = .ok (.aload_n 0, 1) := by decide +kernel
theorem dX5_count_73 : decode cX5_count 73 = .ok (.getfield 10, 3) := by decide +kernel
theorem dX5_count_76 : decode cX5_count 76 = .ok (.sipush 611, 3) := by decide +kernel
theorem dX5_count_79 : decode cX5_count 79 = .ok (.invokevirtual 141, 3) := by decide +kernel
theorem dX5_count_82 : decode cX5_count 82 = .ok (.ireturn, 1) := by decide +kernel
theorem dX5_count_83 : decode cX5_count 83 = .ok (.aload_n 0, 1) := by decide +kernel
theorem dX5_count_84 : decode cX5_count 84 = .ok (.getfield 10, 3) := by decide +kernel
theorem dX5_count_87 : decode cX5_count 87 = .ok (.sipush 608, 3) := by decide +kernel
theorem dX5_count_90 : decode cX5_count 90 = .ok (.invokevirtual 141, 3) := by decide +kernel
theorem dX5_count_93 : decode cX5_count 93 = .ok (.ireturn, 1) := by decide +kernel
theorem dX5_count_94 : decode cX5_count 94 = .ok (.aload_n 0, 1) := by decide +kernel
theorem dX5_count_95 : decode cX5_count 95 = .ok (.getfield 10, 3) := by decide +kernel
theorem dX5_count_98 : decode cX5_count 98 = .ok (.sipush 609, 3) := by decide +kernel
theorem dX5_count_101 : decode cX5_count 101 = .ok (.invokevirtual 141, 3) := by decide +kernel
theorem dX5_count_104 : decode cX5_count 104 = .ok (.ireturn, 1) := by decide +kernel
theorem dX5_count_105 : decode cX5_count 105 = .ok (.aload_n 0, 1) := by decide +kernel
theorem dX5_count_106 : decode cX5_count 106 = .ok (.getfield 10, 3) := by decide +kernel
theorem dX5_count_109 : decode cX5_count 109 = .ok (.sipush 610, 3) := by decide +kernel
theorem dX5_count_112 : decode cX5_count 112 = .ok (.invokevirtual 141, 3) := by decide +kernel
theorem dX5_count_115 : decode cX5_count 115 = .ok (.ireturn, 1) := by decide +kernel
theorem dX5_count_116 : decode cX5_count 116 = .ok (.aload_n 0, 1) := by decide +kernel
theorem dX5_count_117 : decode cX5_count 117 = .ok (.getfield 10, 3) := by decide +kernel
theorem dX5_count_120 : decode cX5_count 120 = .ok (.invokevirtual 170, 3) := by decide +kernel
theorem dX5_count_123 : decode cX5_count 123 = .ok (.ireturn, 1) := by decide +kernel
theorem dX5_count_124 : decode cX5_count 124 = .ok (.aload_n 0, 1) := by decide +kernel
theorem dX5_count_125 : decode cX5_count 125 = .ok (.getfield 10, 3) := by decide +kernel
theorem dX5_count_128 : decode cX5_count 128 = .ok (.iconst 2, 1) := by decide +kernel
theorem dX5_count_129 : decode cX5_count 129 = .ok (.invokevirtual 173, 3) := by decide +kernel
theorem dX5_count_132 : decode cX5_count 132 = .ok (.ireturn, 1) := by decide +kernel
theorem dX5_count_133 : decode cX5_count 133 = .ok (.aload_n 0, 1) := by decide +kernel
theorem dX5_count_134 : decode cX5_count 134 = .ok (.getfield 10, 3) := by decide +kernel
theorem dX5_count_137 : decode cX5_count 137 = .ok (.iconst 1, 1) := by decide +kernel
theorem dX5_count_138 : decode cX5_count 138 = .ok (.invokevirtual 173, 3) := by decide +kernel
theorem dX5_count_141 : decode cX5_count 141 = .ok (.ireturn, 1) := by decide +kernel
theorem dX5_count_142 : decode cX5_count 142 = .ok (.aload_n 0, 1) := by decide +kernel
theorem dX5_count_143 : decode cX5_count 143 = .ok (.getfield 37, 3) := by decide +kernel
theorem dX5_count_146 : decode cX5_count 146 = .ok (.getfield 176, 3) := by decide +kernel
theorem dX5_count_149 : decode cX5_count 149 = .ok (.ireturn, 1) := by decide +kernel
theorem dX5_count_150 : decode cX5_count 150 = .ok (.iconst (-1), 1) := by decide +kernel
theorem dX5_count_151 : decode cX5_count 151 = .ok (.ireturn, 1) := by decide +kernel
theorem dX5_timeOf_0 : decode cX5_timeOf 0 = .ok (.aload_n 0, 1) := by decide +kernel
theorem dX5_timeOf_1 : decode cX5_timeOf 1 = .ok (.getfield 10, 3) := by decide +kernel
theorem dX5_timeOf_4 : decode cX5_timeOf 4 = .ok (.getfield 71, 3) := by decide +kernel
theorem dX5_timeOf_7 : decode cX5_timeOf 7 = .ok (.ifCond .ne 14, 3) := by decide +kernel
theorem dX5_timeOf_10 : decode cX5_timeOf 10 = .ok (.aload_n 0, 1) := by decide +kernel
theorem dX5_timeOf_11 : decode cX5_timeOf 11 = .ok (.getfield 10, 3) := by decide +kernel
theorem dX5_timeOf_14 : decode cX5_timeOf 14 = .ok (.iload_n 1, 1) := by decide +kernel
theorem dX5_timeOf_15 : decode cX5_timeOf 15 = .ok (.bipush 12, 2) := by decide +kernel
theorem dX5_timeOf_17 : decode cX5_timeOf 17 = .ok (.invokevirtual 74, 3) := by decide +kernel
theorem dX5_timeOf_20 : decode cX5_timeOf 20 = .ok (.ireturn, 1) := by decide +kernel
theorem dX5_timeOf_21 : decode cX5_timeOf 21 = .ok (.aload_n 0, 1) := by decide +kernel
theorem dX5_timeOf_22 : decode cX5_timeOf 22 = .ok (.getfield 10, 3) := by decide +kernel
theorem dX5_timeOf_25 : decode cX5_timeOf 25 = .ok (.getfield 71, 3) := by decide +kernel
theorem dX5_timeOf_28 : decode cX5_timeOf 28 = .ok (.iconst 1, 1) := by decide +kernel
theorem dX5_timeOf_29 : decode cX5_timeOf 29 = .ok (.if_icmp .ne 15, 3) := by decide +kernel
theorem dX5_timeOf_32 : decode cX5_timeOf 32 = .ok (.aload_n 0, 1) := by decide +kernel
theorem dX5_timeOf_33 : decode cX5_timeOf 33 = .ok (.getfield 10, 3) := by decide +kernel
theorem dX5_timeOf_36 : decode cX5_timeOf 36 = .ok (.iload_n 1, 1) := by decide +kernel
theorem dX5_timeOf_37 : decode cX5_timeOf 37 = .ok (.iload_n 1, 1) := by decide +kernel
theorem dX5_timeOf_38 : decode cX5_timeOf 38 = .ok (.invokevirtual 144, 3) := by decide +kernel
theorem dX5_timeOf_41 : decode cX5_timeOf 41 = .ok (.goto 4, 3) := by decide +kernel
theorem dX5_timeOf_44 : decode cX5_timeOf 44 = .ok (.iconst 0, 1) := by decide +kernel
theorem dX5_timeOf_45 : decode cX5_timeOf 45 = .ok (.ireturn, 1) := by decide +kernel
theorem dX5_bring_0 : decode cX5_bring 0 = .ok (.aload_n 0, 1) := by decide +kernel
theorem dX5_bring_1 : decode cX5_bring 1 = .ok (.getfield 10, 3) := by decide +kernel
theorem dX5_bring_4 : decode cX5_bring 4 = .ok (.iload_n 1, 1) := by decide +kernel
theorem dX5_bring_5 : decode cX5_bring 5 = .ok (.iload_n 2, 1) := by decide +kernel
theorem dX5_bring_6 : decode cX5_bring 6 = .ok (.iconst 0, 1) := by decide +kernel
theorem dX5_bring_7 : decode cX5_bring 7 = .ok (.invokevirtual 147, 3) := by decide +kernel
theorem dX5_bring_10 : decode cX5_bring 10 = .ok (.invokestatic 151, 3) := by decide +kernel
theorem dX5_bring_13 : decode cX5_bring 13 = .ok (.istore_n 3, 1) := by decide +kernel
theorem dX5_bring_14 : decode cX5_bring 14 = .ok (.aload_n 0, 1) := by decide +kernel
theorem dX5_bring_15 : decode cX5_bring 15 = .ok (.getfield 37, 3) := by decide +kernel
theorem dX5_bring_18 : decode cX5_bring 18 = .ok (.invokevirtual 86, 3) := by decide +kernel
theorem dX5_bring_21 : decode cX5_bring 21 = .ok (.aload_n 0, 1) := by decide +kernel
theorem dX5_bring_22 : decode cX5_bring 22 = .ok (.getfield 28, 3) := by decide +kernel
theorem dX5_bring_25 : decode cX5_bring 25 = .ok (.iload_n 1, 1) := by decide +kernel
theorem dX5_bring_26 : decode cX5_bring 26 = .ok (.iload_n 2, 1) := by decide +kernel
theorem dX5_bring_27 : decode cX5_bring 27 = .ok (.invokevirtual 179, 3) := by decide +kernel
theorem dX5_bring_30 : decode cX5_bring 30 = .ok (.aload_n 0, 1) := by decide +kernel
theorem dX5_bring_31 : decode cX5_bring 31 = .ok (.invokevirtual 93, 3) := by decide +kernel
theorem dX5_bring_34 : decode cX5_bring 34 = .ok (.ifCond .eq 7, 3) := by decide +kernel
theorem dX5_bring_37 : decode cX5_bring 37 = .ok (.iload_n 3, 1) := by decide +kernel
theorem dX5_bring_38 : decode cX5_bring 38 = .ok (.goto 5, 3) := by decide +kernel
theorem dX5_bring_41 : decode cX5_bring 41 = .ok (.bipush (-3), 2) := by decide +kernel
theorem dX5_bring_43 : decode cX5_bring 43 = .ok (.ireturn, 1) := by decide +kernel
theorem dX5_settled_0 : decode cX5_settled 0 = .ok (.aload_n 0, 1) := by decide +kernel
theorem dX5_settled_1 : decode cX5_settled 1 = .ok (.getfield 10, 3) := by decide +kernel
theorem dX5_settled_4 : decode cX5_settled 4 = .ok (.getfield 182, 3) := by decide +kernel
theorem dX5_settled_7 : decode cX5_settled 7 = .ok (.ifCond .eq 12, 3) := by decide +kernel
theorem dX5_settled_10 : decode cX5_settled 10 = .ok (.aload_n 0, 1) := by decide +kernel
theorem dX5_settled_11 : decode cX5_settled 11 = .ok (.getfield 37, 3) := by decide +kernel
theorem dX5_settled_14 : decode cX5_settled 14 = .ok (.invokevirtual 185, 3) := by decide +kernel
theorem dX5_settled_17 : decode cX5_settled 17 = .ok (.iconst 0, 1) := by decide +kernel
theorem dX5_settled_18 : decode cX5_settled 18 = .ok (.ireturn, 1) := by decide +kernel
theorem dX5_settled_19 : decode cX5_settled 19 = .ok (.aload_n 0, 1) := by decide +kernel
theorem dX5_settled_20 : decode cX5_settled 20 = .ok (.getfield 37, 3) := by decide +kernel
theorem dX5_settled_23 : decode cX5_settled 23 = .ok (.invokevirtual 188, 3) := by decide +kernel
theorem dX5_settled_26 : decode cX5_settled 26 = .ok (.aload_n 0, 1) := by decide +kernel
theorem dX5_settled_27 : decode cX5_settled 27 = .ok (.iconst 1, 1) := by decide +kernel
theorem dX5_settled_28 : decode cX5_settled 28 = .ok (.putfield 61, 3) := by decide +kernel
theorem dX5_settled_31 : decode cX5_settled 31 = .ok (.iconst 1, 1) := by decide +kernel
theorem dX5_settled_32 : decode cX5_settled 32 = .ok (.ireturn, 1) := by decide +kernel
theorem dX6_init_0 : decode cX6_init 0 = .ok (.aload_n 0, 1) := by decide +kernel
theorem dX6_init_1 : decode cX6_init 1 = .ok (.invokespecial 1, 3) := by decide +kernel
theorem dX6_init_4 : decode cX6_init 4 = .ok (.aload_n 0, 1) := by decide +kernel
theorem dX6_init_5 : decode cX6_init 5 = .ok (.iconst 2, 1) := by decide +kernel
theorem dX6_init_6 : decode cX6_init 6 = .ok (.putfield 7, 3) := by decide +kernel
theorem dX6_init_9 : decode cX6_init 9 = .ok (.aload_n 0, 1) := by decide +kernel
theorem dX6_init_10 : decode cX6_init 10 = .ok (.bipush 6, 2) := by decide +kernel
theorem dX6_init_12 : decode cX6_init 12 = .ok (.newarray .int, 2) := by decide +kernel
theorem dX6_init_14 : decode cX6_init 14 = .ok (.putfield 13, 3) := by decide +kernel
theorem dX6_init_17 : decode cX6_init 17 = .ok (.aload_n 0, 1) := by decide +kernel
theorem dX6_init_18 : decode cX6_init 18 = .ok (.sipush 1040, 3) := by decide +kernel
theorem dX6_init_21 : decode cX6_init 21 = .ok (.newarray .int, 2) := by decide +kernel
theorem dX6_init_23 : decode cX6_init 23 = .ok (.putfield 17, 3) := by decide +kernel
theorem dX6_init_26 : decode cX6_init 26 = .ok (.aload_n 0, 1) := by decide +kernel
theorem dX6_init_27 : decode cX6_init 27 = .ok (.sipush 190, 3) := by decide +kernel
theorem dX6_init_30 : decode cX6_init 30 = .ok (.newarray .int, 2) := by decide +kernel
theorem dX6_init_32 : decode cX6_init 32 = .ok (.putfield 20, 3) := by decide +kernel
theorem dX6_init_35 : decode cX6_init 35 = .ok (.aload_n 0, 1) := by decide +kernel
theorem dX6_init_36 : decode cX6_init 36 = .ok (.iconst 1, 1) := by decide +kernel
theorem dX6_init_37 : decode cX6_init 37 = .ok (.putfield 23, 3) := by decide +kernel
theorem dX6_init_40 : decode cX6_init 40 = .ok (.aload_n 0, 1) := by decide +kernel
theorem dX6_init_41 : decode cX6_init 41 = .ok (.ldc 27, 2) := by decide +kernel
theorem dX6_init_43 : decode cX6_init 43 = .ok (.newarray .int, 2) := by decide +kernel
theorem dX6_init_45 : decode cX6_init 45 = .ok (.putfield 28, 3) := by decide +kernel
theorem dX6_init_48 : decode cX6_init 48 = .ok (.aload_n 0, 1) := by decide +kernel
theorem dX6_init_49 : decode cX6_init 49 = .ok (.sipush 1230, 3) := by decide +kernel
theorem dX6_init_52 : decode cX6_init 52 = .ok (.newarray .int, 2) := by decide +kernel
theorem dX6_init_54 : decode cX6_init 54 = .ok (.putfield 31, 3) := by decide +kernel
theorem dX6_init_57 : decode cX6_init 57 = .ok (.aload_n 0, 1) := by decide +kernel
theorem dX6_init_58 : decode cX6_init 58 = .ok (.ldc 34, 2) := by decide +kernel
theorem dX6_init_60 : decode cX6_init 60 = .ok (.newarray .int, 2) := by decide +kernel
theorem dX6_init_62 : decode cX6_init 62 = .ok (.putfield 35, 3) := by decide +kernel
theorem dX6_init_65 : decode cX6_init 65 = .ok (.aload_n 0, 1) := by decide +kernel
theorem dX6_init_66 : decode cX6_init 66 = .ok (.sipush 1024, 3) := by decide +kernel
theorem dX6_init_69 : decode cX6_init 69 = .ok (.newarray .int, 2) := by decide +kernel
theorem dX6_init_71 : decode cX6_init 71 = .ok (.putfield 38, 3) := by decide +kernel
theorem dX6_init_74 : decode cX6_init 74 = .ok (.aload_n 0, 1) := by decide +kernel
theorem dX6_init_75 : decode cX6_init 75 = .ok (.bipush 7, 2) := by decide +kernel
theorem dX6_init_77 : decode cX6_init 77 = .ok (.newarray .int, 2) := by decide +kernel
theorem dX6_init_79 : decode cX6_init 79 = .ok (.putfield 41, 3) := by decide +kernel
theorem dX6_init_82 : decode cX6_init 82 = .ok (.aload_n 0, 1) := by decide +kernel
theorem dX6_init_83 : decode cX6_init 83 = .ok (.invokevirtual 44, 3) := by decide +kernel
theorem dX6_init_86 : decode cX6_init 86 = .ok (.return_, 1) := by decide +kernel
theorem dX6_in_0 : decode cX6_in 0 = .ok (.iload_n 0, 1) := by decide +kernel
theorem dX6_in_1 : decode cX6_in 1 = .ok (.iload_n 1, 1) := by decide +kernel
theorem dX6_in_2 : decode cX6_in 2 = .ok (.if_icmp .lt 12, 3) := by decide +kernel
theorem dX6_in_5 : decode cX6_in 5 = .ok (.iload_n 0, 1) := by decide +kernel
theorem dX6_in_6 : decode cX6_in 6 = .ok (.iload_n 2, 1) := by decide +kernel
theorem dX6_in_7 : decode cX6_in 7 = .ok (.if_icmp .gt 7, 3) := by decide +kernel
theorem dX6_in_10 : decode cX6_in 10 = .ok (.iconst 1, 1) := by decide +kernel
theorem dX6_in_11 : decode cX6_in 11 = .ok (.goto 4, 3) := by decide +kernel
theorem dX6_in_14 : decode cX6_in 14 = .ok (.iconst 0, 1) := by decide +kernel
theorem dX6_in_15 : decode cX6_in 15 = .ok (.ireturn, 1) := by decide +kernel
theorem dX6_isKeeper_0 : decode cX6_isKeeper 0 = .ok (.iload_n 1, 1) := by decide +kernel
theorem dX6_isKeeper_1 : decode cX6_isKeeper 1 = .ok (.iconst 0, 1) := by decide +kernel
theorem dX6_isKeeper_2 : decode cX6_isKeeper 2 = .ok (.aload_n 0, 1) := by decide +kernel
theorem dX6_isKeeper_3 : decode cX6_isKeeper 3 = .ok (.getfield 7, 3) := by decide +kernel
theorem dX6_isKeeper_6 : decode cX6_isKeeper 6 = .ok (.iconst 1, 1) := by decide +kernel
theorem dX6_isKeeper_7 : decode cX6_isKeeper 7 = .ok (.isub, 1) := by decide +kernel
theorem dX6_isKeeper_8 : decode cX6_isKeeper 8 = .ok (.invokestatic 47, 3) := by decide +kernel
theorem dX6_isKeeper_11 : decode cX6_isKeeper 11 = .ok (.ireturn, 1) := by decide +kernel
theorem dX6_clear_0 : decode cX6_clear 0 = .ok (.iconst 0, 1) := by decide +kernel
theorem dX6_clear_1 : decode cX6_clear 1 = .ok (.istore_n 1, 1) := by decide +kernel
theorem dX6_clear_2 : decode cX6_clear 2 = .ok (.iload_n 1, 1) := by decide +kernel
theorem dX6_clear_3 : decode cX6_clear 3 = .ok (.sipush 1040, 3) := by decide +kernel
theorem dX6_clear_6 : decode cX6_clear 6 = .ok (.if_icmp .ge 16, 3) := by decide +kernel
theorem dX6_clear_9 : decode cX6_clear 9 = .ok (.aload_n 0, 1) := by decide +kernel
theorem dX6_clear_10 : decode cX6_clear 10 = .ok (.getfield 17, 3) := by decide +kernel
theorem dX6_clear_13 : decode cX6_clear 13 = .ok (.iload_n 1, 1) := by decide +kernel
theorem dX6_clear_14 : decode cX6_clear 14 = .ok (.iconst 0, 1) := by decide +kernel
theorem dX6_clear_15 : decode cX6_clear 15 = .ok (.iastore, 1) := by decide +kernel
theorem dX6_clear_16 : decode cX6_clear 16 = .ok (.iinc 1 1, 3) := by decide +kernel
theorem dX6_clear_19 : decode cX6_clear 19 = .ok (.goto (-17), 3) := by decide +kernel
theorem dX6_clear_22 : decode cX6_clear 22 = .ok (.iconst 0, 1) := by decide +kernel
theorem dX6_clear_23 : decode cX6_clear 23 = .ok (.istore_n 1, 1) := by decide +kernel
theorem dX6_clear_24 : decode cX6_clear 24 = .ok (.iload_n 1, 1) := by decide +kernel
theorem dX6_clear_25 : decode cX6_clear 25 = .ok (.sipush 190, 3) := by decide +kernel
theorem dX6_clear_28 : decode cX6_clear 28 = .ok (.if_icmp .ge 16, 3) := by decide +kernel
theorem dX6_clear_31 : decode cX6_clear 31 = .ok (.aload_n 0, 1) := by decide +kernel
theorem dX6_clear_32 : decode cX6_clear 32 = .ok (.getfield 20, 3) := by decide +kernel
theorem dX6_clear_35 : decode cX6_clear 35 = .ok (.iload_n 1, 1) := by decide +kernel
theorem dX6_clear_36 : decode cX6_clear 36 = .ok (.iconst 0, 1) := by decide +kernel
theorem dX6_clear_37 : decode cX6_clear 37 = .ok (.iastore, 1) := by decide +kernel
theorem dX6_clear_38 : decode cX6_clear 38 = .ok (.iinc 1 1, 3) := by decide +kernel
theorem dX6_clear_41 : decode cX6_clear 41 = .ok (.goto (-17), 3) := by decide +kernel
theorem dX6_clear_44 : decode cX6_clear 44 = .ok (.iconst 0, 1) := by decide +kernel
theorem dX6_clear_45 : decode cX6_clear 45 = .ok (.istore_n 1, 1) := by decide +kernel
theorem dX6_clear_46 : decode cX6_clear 46 = .ok (.iload_n 1, 1) := by decide +kernel
theorem dX6_clear_47 : decode cX6_clear 47 = .ok (.bipush 6, 2) := by decide +kernel
theorem dX6_clear_49 : decode cX6_clear 49 = .ok (.if_icmp .ge 29, 3) := by decide +kernel
theorem dX6_clear_52 : decode cX6_clear 52 = .ok (.aload_n 0, 1) := by decide +kernel
theorem dX6_clear_53 : decode cX6_clear 53 = .ok (.getfield 13, 3) := by decide +kernel
theorem dX6_clear_56 : decode cX6_clear 56 = .ok (.iload_n 1, 1) := by decide +kernel
theorem dX6_clear_57 : decode cX6_clear 57 = .ok (.iload_n 1, 1) := by decide +kernel
theorem dX6_clear_58 : decode cX6_clear 58 = .ok (.ifCond .ne 8, 3) := by decide +kernel
theorem dX6_clear_61 : decode cX6_clear 61 = .ok (.bipush (-4), 2) := by decide +kernel
theorem dX6_clear_63 : decode cX6_clear 63 = .ok (.goto 8, 3) := by decide +kernel
theorem dX6_clear_66 : decode cX6_clear 66 = .ok (.iload_n 1, 1) := by decide +kernel
theorem dX6_clear_67 : decode cX6_clear 67 = .ok (.iconst 1, 1) := by decide +kernel
theorem dX6_clear_68 : decode cX6_clear 68 = .ok (.isub, 1) := by decide +kernel
theorem dX6_clear_69 : decode cX6_clear 69 = .ok (.iconst 2, 1) := by decide +kernel
theorem dX6_clear_70 : decode cX6_clear 70 = .ok (.idiv, 1) := by decide +kernel
theorem dX6_clear_71 : decode cX6_clear 71 = .ok (.iastore, 1) := by decide +kernel
theorem dX6_clear_72 : decode cX6_clear 72 = .ok (.iinc 1 1, 3) := by decide +kernel
theorem dX6_clear_75 : decode cX6_clear 75 = .ok (.goto (-29), 3) := by decide +kernel
theorem dX6_clear_78 : decode cX6_clear 78 = .ok (.aload_n 0, 1) := by decide +kernel
theorem dX6_clear_79 : decode cX6_clear 79 = .ok (.invokevirtual 51, 3) := by decide +kernel
theorem dX6_clear_82 : decode cX6_clear 82 = .ok (.aload_n 0, 1) := by decide +kernel
theorem dX6_clear_83 : decode cX6_clear 83 = .ok (.iconst 0, 1) := by decide +kernel
theorem dX6_clear_84 : decode cX6_clear 84 = .ok (.putfield 54, 3) := by decide +kernel
theorem dX6_clear_87 : decode cX6_clear 87 = .ok (.aload_n 0, 1) := by decide +kernel
theorem dX6_clear_88 : decode cX6_clear 88 = .ok (.iconst 0, 1) := by decide +kernel
theorem dX6_clear_89 : decode cX6_clear 89 = .ok (.putfield 57, 3) := by decide +kernel
theorem dX6_clear_92 : decode cX6_clear 92 = .ok (.aload_n 0, 1) := by decide +kernel
theorem dX6_clear_93 : decode cX6_clear 93 = .ok (.iconst 0, 1) := by decide +kernel
theorem dX6_clear_94 : decode cX6_clear 94 = .ok (.putfield 60, 3) := by decide +kernel
theorem dX6_clear_97 : decode cX6_clear 97 = .ok (.return_, 1) := by decide +kernel
theorem dX6_layHolders_0 : decode cX6_layHolders 0 = .ok (.iconst 0, 1) := by decide +kernel
theorem dX6_layHolders_1 : decode cX6_layHolders 1 = .ok (.istore_n 1, 1) := by decide +kernel
theorem dX6_layHolders_2 : decode cX6_layHolders 2 = .ok (.iload_n 1, 1) := by decide +kernel
