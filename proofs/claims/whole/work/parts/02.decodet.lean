theorem dX6_layHolders_3 : decode cX6_layHolders 3 = .ok (.aload_n 0, 1) := by decide +kernel
theorem dX6_layHolders_4 : decode cX6_layHolders 4 = .ok (.getfield 7, 3) := by decide +kernel
theorem dX6_layHolders_7 : decode cX6_layHolders 7 = .ok (.if_icmp .ge 34, 3) := by decide +kernel
theorem dX6_layHolders_10 : decode cX6_layHolders 10 = .ok (.aload_n 0, 1) := by decide +kernel
theorem dX6_layHolders_11 : decode cX6_layHolders 11 = .ok (.getfield 17, 3) := by decide +kernel
theorem dX6_layHolders_14 : decode cX6_layHolders 14 = .ok (.bipush 21, 2) := by decide +kernel
theorem dX6_layHolders_16 : decode cX6_layHolders 16 = .ok (.iload_n 1, 1) := by decide +kernel
theorem dX6_layHolders_17 : decode cX6_layHolders 17 = .ok (.imul, 1) := by decide +kernel
theorem dX6_layHolders_18 : decode cX6_layHolders 18 = .ok (.iconst 5, 1) := by decide +kernel
theorem dX6_layHolders_19 : decode cX6_layHolders 19 = .ok (.iadd, 1) := by decide +kernel
theorem dX6_layHolders_20 : decode cX6_layHolders 20 = .ok (.iload_n 1, 1) := by decide +kernel
theorem dX6_layHolders_21 : decode cX6_layHolders 21 = .ok (.ifCond .ne 7, 3) := by decide +kernel
theorem dX6_layHolders_24 : decode cX6_layHolders 24 = .ok (.iconst 0, 1) := by decide +kernel
theorem dX6_layHolders_25 : decode cX6_layHolders 25 = .ok (.goto 9, 3) := by decide +kernel
theorem dX6_layHolders_28 : decode cX6_layHolders 28 = .ok (.aload_n 0, 1) := by decide +kernel
theorem dX6_layHolders_29 : decode cX6_layHolders 29 = .ok (.getfield 13, 3) := by decide +kernel
theorem dX6_layHolders_32 : decode cX6_layHolders 32 = .ok (.iload_n 1, 1) := by decide +kernel
theorem dX6_layHolders_33 : decode cX6_layHolders 33 = .ok (.iaload, 1) := by decide +kernel
theorem dX6_layHolders_34 : decode cX6_layHolders 34 = .ok (.iastore, 1) := by decide +kernel
theorem dX6_layHolders_35 : decode cX6_layHolders 35 = .ok (.iinc 1 1, 3) := by decide +kernel
theorem dX6_layHolders_38 : decode cX6_layHolders 38 = .ok (.goto (-36), 3) := by decide +kernel
theorem dX6_layHolders_41 : decode cX6_layHolders 41 = .ok (.return_, 1) := by decide +kernel
theorem dX6_begin_0 : decode cX6_begin 0 = .ok (.iload_n 1, 1) := by decide +kernel
theorem dX6_begin_1 : decode cX6_begin 1 = .ok (.iconst 0, 1) := by decide +kernel
theorem dX6_begin_2 : decode cX6_begin 2 = .ok (.iconst 2, 1) := by decide +kernel
theorem dX6_begin_3 : decode cX6_begin 3 = .ok (.invokestatic 47, 3) := by decide +kernel
theorem dX6_begin_6 : decode cX6_begin 6 = .ok (.ifCond .eq 13, 3) := by decide +kernel
theorem dX6_begin_9 : decode cX6_begin 9 = .ok (.iload_n 2, 1) := by decide +kernel
theorem dX6_begin_10 : decode cX6_begin 10 = .ok (.iconst 2, 1) := by decide +kernel
theorem dX6_begin_11 : decode cX6_begin 11 = .ok (.bipush 6, 2) := by decide +kernel
theorem dX6_begin_13 : decode cX6_begin 13 = .ok (.invokestatic 47, 3) := by decide +kernel
theorem dX6_begin_16 : decode cX6_begin 16 = .ok (.ifCond .ne 5, 3) := by decide +kernel
theorem dX6_begin_19 : decode cX6_begin 19 = .ok (.iconst (-1), 1) := by decide +kernel
theorem dX6_begin_20 : decode cX6_begin 20 = .ok (.ireturn, 1) := by decide +kernel
theorem dX6_begin_21 : decode cX6_begin 21 = .ok (.aload_n 0, 1) := by decide +kernel
theorem dX6_begin_22 : decode cX6_begin 22 = .ok (.getfield 63, 3) := by decide +kernel
theorem dX6_begin_25 : decode cX6_begin 25 = .ok (.bipush 10, 2) := by decide +kernel
theorem dX6_begin_27 : decode cX6_begin 27 = .ok (.if_icmp .ne 6, 3) := by decide +kernel
theorem dX6_begin_30 : decode cX6_begin 30 = .ok (.bipush (-3), 2) := by decide +kernel
theorem dX6_begin_32 : decode cX6_begin 32 = .ok (.ireturn, 1) := by decide +kernel
theorem dX6_begin_33 : decode cX6_begin 33 = .ok (.aload_n 0, 1) := by decide +kernel
theorem dX6_begin_34 : decode cX6_begin 34 = .ok (.dup, 1) := by decide +kernel
theorem dX6_begin_35 : decode cX6_begin 35 = .ok (.getfield 63, 3) := by decide +kernel
theorem dX6_begin_38 : decode cX6_begin 38 = .ok (.iconst 1, 1) := by decide +kernel
theorem dX6_begin_39 : decode cX6_begin 39 = .ok (.iadd, 1) := by decide +kernel
theorem dX6_begin_40 : decode cX6_begin 40 = .ok (.putfield 63, 3) := by decide +kernel
theorem dX6_begin_43 : decode cX6_begin 43 = .ok (.aload_n 0, 1) := by decide +kernel
theorem dX6_begin_44 : decode cX6_begin 44 = .ok (.iload_n 1, 1) := by decide +kernel
theorem dX6_begin_45 : decode cX6_begin 45 = .ok (.putfield 66, 3) := by decide +kernel
theorem dX6_begin_48 : decode cX6_begin 48 = .ok (.aload_n 0, 1) := by decide +kernel
theorem dX6_begin_49 : decode cX6_begin 49 = .ok (.iload_n 2, 1) := by decide +kernel
theorem dX6_begin_50 : decode cX6_begin 50 = .ok (.putfield 7, 3) := by decide +kernel
theorem dX6_begin_53 : decode cX6_begin 53 = .ok (.aload_n 0, 1) := by decide +kernel
theorem dX6_begin_54 : decode cX6_begin 54 = .ok (.invokevirtual 44, 3) := by decide +kernel
theorem dX6_begin_57 : decode cX6_begin 57 = .ok (.aload_n 0, 1) := by decide +kernel
theorem dX6_begin_58 : decode cX6_begin 58 = .ok (.getfield 7, 3) := by decide +kernel
theorem dX6_begin_61 : decode cX6_begin 61 = .ok (.ireturn, 1) := by decide +kernel
theorem dX6_parent_0 : decode cX6_parent 0 = .ok (.iload_n 1, 1) := by decide +kernel
theorem dX6_parent_1 : decode cX6_parent 1 = .ok (.iconst 1, 1) := by decide +kernel
theorem dX6_parent_2 : decode cX6_parent 2 = .ok (.aload_n 0, 1) := by decide +kernel
theorem dX6_parent_3 : decode cX6_parent 3 = .ok (.getfield 7, 3) := by decide +kernel
theorem dX6_parent_6 : decode cX6_parent 6 = .ok (.iconst 1, 1) := by decide +kernel
theorem dX6_parent_7 : decode cX6_parent 7 = .ok (.isub, 1) := by decide +kernel
theorem dX6_parent_8 : decode cX6_parent 8 = .ok (.invokestatic 47, 3) := by decide +kernel
theorem dX6_parent_11 : decode cX6_parent 11 = .ok (.ifCond .eq 14, 3) := by decide +kernel
theorem dX6_parent_14 : decode cX6_parent 14 = .ok (.iload_n 2, 1) := by decide +kernel
theorem dX6_parent_15 : decode cX6_parent 15 = .ok (.iconst 0, 1) := by decide +kernel
theorem dX6_parent_16 : decode cX6_parent 16 = .ok (.iload_n 1, 1) := by decide +kernel
theorem dX6_parent_17 : decode cX6_parent 17 = .ok (.iconst 1, 1) := by decide +kernel
theorem dX6_parent_18 : decode cX6_parent 18 = .ok (.isub, 1) := by decide +kernel
theorem dX6_parent_19 : decode cX6_parent 19 = .ok (.invokestatic 47, 3) := by decide +kernel
theorem dX6_parent_22 : decode cX6_parent 22 = .ok (.ifCond .ne 5, 3) := by decide +kernel
theorem dX6_parent_25 : decode cX6_parent 25 = .ok (.iconst (-1), 1) := by decide +kernel
theorem dX6_parent_26 : decode cX6_parent 26 = .ok (.ireturn, 1) := by decide +kernel
theorem dX6_parent_27 : decode cX6_parent 27 = .ok (.aload_n 0, 1) := by decide +kernel
theorem dX6_parent_28 : decode cX6_parent 28 = .ok (.getfield 66, 3) := by decide +kernel
theorem dX6_parent_31 : decode cX6_parent 31 = .ok (.iconst 2, 1) := by decide +kernel
theorem dX6_parent_32 : decode cX6_parent 32 = .ok (.if_icmp .ne 10, 3) := by decide +kernel
theorem dX6_parent_35 : decode cX6_parent 35 = .ok (.aload_n 0, 1) := by decide +kernel
theorem dX6_parent_36 : decode cX6_parent 36 = .ok (.getfield 57, 3) := by decide +kernel
theorem dX6_parent_39 : decode cX6_parent 39 = .ok (.ifCond .eq 6, 3) := by decide +kernel
theorem dX6_parent_42 : decode cX6_parent 42 = .ok (.bipush (-2), 2) := by decide +kernel
theorem dX6_parent_44 : decode cX6_parent 44 = .ok (.ireturn, 1) := by decide +kernel
theorem dX6_parent_45 : decode cX6_parent 45 = .ok (.aload_n 0, 1) := by decide +kernel
theorem dX6_parent_46 : decode cX6_parent 46 = .ok (.getfield 13, 3) := by decide +kernel
theorem dX6_parent_49 : decode cX6_parent 49 = .ok (.iload_n 1, 1) := by decide +kernel
theorem dX6_parent_50 : decode cX6_parent 50 = .ok (.iaload, 1) := by decide +kernel
theorem dX6_parent_51 : decode cX6_parent 51 = .ok (.istore_n 3, 1) := by decide +kernel
theorem dX6_parent_52 : decode cX6_parent 52 = .ok (.aload_n 0, 1) := by decide +kernel
theorem dX6_parent_53 : decode cX6_parent 53 = .ok (.getfield 13, 3) := by decide +kernel
theorem dX6_parent_56 : decode cX6_parent 56 = .ok (.iload_n 1, 1) := by decide +kernel
theorem dX6_parent_57 : decode cX6_parent 57 = .ok (.iload_n 2, 1) := by decide +kernel
theorem dX6_parent_58 : decode cX6_parent 58 = .ok (.iastore, 1) := by decide +kernel
theorem dX6_parent_59 : decode cX6_parent 59 = .ok (.aload_n 0, 1) := by decide +kernel
theorem dX6_parent_60 : decode cX6_parent 60 = .ok (.invokevirtual 51, 3) := by decide +kernel
theorem dX6_parent_63 : decode cX6_parent 63 = .ok (.iload_n 3, 1) := by decide +kernel
theorem dX6_parent_64 : decode cX6_parent 64 = .ok (.ireturn, 1) := by decide +kernel
theorem dX6_pairAt_0 : decode cX6_pairAt 0 = .ok (.sipush 140, 3) := by decide +kernel
theorem dX6_pairAt_3 : decode cX6_pairAt 3 = .ok (.bipush 25, 2) := by decide +kernel
theorem dX6_pairAt_5 : decode cX6_pairAt 5 = .ok (.bipush 6, 2) := by decide +kernel
theorem dX6_pairAt_7 : decode cX6_pairAt 7 = .ok (.iload_n 1, 1) := by decide +kernel
theorem dX6_pairAt_8 : decode cX6_pairAt 8 = .ok (.imul, 1) := by decide +kernel
theorem dX6_pairAt_9 : decode cX6_pairAt 9 = .ok (.iload_n 2, 1) := by decide +kernel
theorem dX6_pairAt_10 : decode cX6_pairAt 10 = .ok (.iadd, 1) := by decide +kernel
theorem dX6_pairAt_11 : decode cX6_pairAt 11 = .ok (.imul, 1) := by decide +kernel
theorem dX6_pairAt_12 : decode cX6_pairAt 12 = .ok (.iadd, 1) := by decide +kernel
theorem dX6_pairAt_13 : decode cX6_pairAt 13 = .ok (.ireturn, 1) := by decide +kernel
theorem dX6_send_0 : decode cX6_send 0 = .ok (.aload_n 0, 1) := by decide +kernel
theorem dX6_send_1 : decode cX6_send 1 = .ok (.iload_n 1, 1) := by decide +kernel
theorem dX6_send_2 : decode cX6_send 2 = .ok (.iload_n 2, 1) := by decide +kernel
theorem dX6_send_3 : decode cX6_send 3 = .ok (.invokevirtual 69, 3) := by decide +kernel
theorem dX6_send_6 : decode cX6_send 6 = .ok (.istore 5, 2) := by decide +kernel
theorem dX6_send_8 : decode cX6_send 8 = .ok (.aload_n 0, 1) := by decide +kernel
theorem dX6_send_9 : decode cX6_send 9 = .ok (.getfield 17, 3) := by decide +kernel
theorem dX6_send_12 : decode cX6_send 12 = .ok (.iload 5, 2) := by decide +kernel
theorem dX6_send_14 : decode cX6_send 14 = .ok (.iaload, 1) := by decide +kernel
theorem dX6_send_15 : decode cX6_send 15 = .ok (.istore 6, 2) := by decide +kernel
theorem dX6_send_17 : decode cX6_send 17 = .ok (.iload 6, 2) := by decide +kernel
theorem dX6_send_19 : decode cX6_send 19 = .ok (.bipush 12, 2) := by decide +kernel
theorem dX6_send_21 : decode cX6_send 21 = .ok (.if_icmp .ne 9, 3) := by decide +kernel
theorem dX6_send_24 : decode cX6_send 24 = .ok (.aload_n 0, 1) := by decide +kernel
theorem dX6_send_25 : decode cX6_send 25 = .ok (.iconst 1, 1) := by decide +kernel
theorem dX6_send_26 : decode cX6_send 26 = .ok (.putfield 73, 3) := by decide +kernel
theorem dX6_send_29 : decode cX6_send 29 = .ok (.return_, 1) := by decide +kernel
theorem dX6_send_30 : decode cX6_send 30 = .ok (.aload_n 0, 1) := by decide +kernel
theorem dX6_send_31 : decode cX6_send 31 = .ok (.getfield 17, 3) := by decide +kernel
theorem dX6_send_34 : decode cX6_send 34 = .ok (.iload 5, 2) := by decide +kernel
theorem dX6_send_36 : decode cX6_send 36 = .ok (.iconst 1, 1) := by decide +kernel
theorem dX6_send_37 : decode cX6_send 37 = .ok (.iadd, 1) := by decide +kernel
theorem dX6_send_38 : decode cX6_send 38 = .ok (.iconst 2, 1) := by decide +kernel
theorem dX6_send_39 : decode cX6_send 39 = .ok (.iload 6, 2) := by decide +kernel
theorem dX6_send_41 : decode cX6_send 41 = .ok (.imul, 1) := by decide +kernel
theorem dX6_send_42 : decode cX6_send 42 = .ok (.iadd, 1) := by decide +kernel
theorem dX6_send_43 : decode cX6_send 43 = .ok (.iload_n 3, 1) := by decide +kernel
theorem dX6_send_44 : decode cX6_send 44 = .ok (.iastore, 1) := by decide +kernel
theorem dX6_send_45 : decode cX6_send 45 = .ok (.aload_n 0, 1) := by decide +kernel
theorem dX6_send_46 : decode cX6_send 46 = .ok (.getfield 17, 3) := by decide +kernel
theorem dX6_send_49 : decode cX6_send 49 = .ok (.iload 5, 2) := by decide +kernel
theorem dX6_send_51 : decode cX6_send 51 = .ok (.iconst 2, 1) := by decide +kernel
theorem dX6_send_52 : decode cX6_send 52 = .ok (.iadd, 1) := by decide +kernel
theorem dX6_send_53 : decode cX6_send 53 = .ok (.iconst 2, 1) := by decide +kernel
theorem dX6_send_54 : decode cX6_send 54 = .ok (.iload 6, 2) := by decide +kernel
theorem dX6_send_56 : decode cX6_send 56 = .ok (.imul, 1) := by decide +kernel
theorem dX6_send_57 : decode cX6_send 57 = .ok (.iadd, 1) := by decide +kernel
theorem dX6_send_58 : decode cX6_send 58 = .ok (.iload 4, 2) := by decide +kernel
theorem dX6_send_60 : decode cX6_send 60 = .ok (.iastore, 1) := by decide +kernel
theorem dX6_send_61 : decode cX6_send 61 = .ok (.aload_n 0, 1) := by decide +kernel
theorem dX6_send_62 : decode cX6_send 62 = .ok (.getfield 17, 3) := by decide +kernel
theorem dX6_send_65 : decode cX6_send 65 = .ok (.iload 5, 2) := by decide +kernel
theorem dX6_send_67 : decode cX6_send 67 = .ok (.dup2, 1) := by decide +kernel
theorem dX6_send_68 : decode cX6_send 68 = .ok (.iaload, 1) := by decide +kernel
theorem dX6_send_69 : decode cX6_send 69 = .ok (.iconst 1, 1) := by decide +kernel
theorem dX6_send_70 : decode cX6_send 70 = .ok (.iadd, 1) := by decide +kernel
theorem dX6_send_71 : decode cX6_send 71 = .ok (.iastore, 1) := by decide +kernel
theorem dX6_send_72 : decode cX6_send 72 = .ok (.aload_n 0, 1) := by decide +kernel
theorem dX6_send_73 : decode cX6_send 73 = .ok (.getfield 23, 3) := by decide +kernel
theorem dX6_send_76 : decode cX6_send 76 = .ok (.ifCond .eq 16, 3) := by decide +kernel
theorem dX6_send_79 : decode cX6_send 79 = .ok (.aload_n 0, 1) := by decide +kernel
theorem dX6_send_80 : decode cX6_send 80 = .ok (.getfield 20, 3) := by decide +kernel
theorem dX6_send_83 : decode cX6_send 83 = .ok (.bipush 7, 2) := by decide +kernel
theorem dX6_send_85 : decode cX6_send 85 = .ok (.iload_n 3, 1) := by decide +kernel
theorem dX6_send_86 : decode cX6_send 86 = .ok (.iadd, 1) := by decide +kernel
theorem dX6_send_87 : decode cX6_send 87 = .ok (.dup2, 1) := by decide +kernel
theorem dX6_send_88 : decode cX6_send 88 = .ok (.iaload, 1) := by decide +kernel
theorem dX6_send_89 : decode cX6_send 89 = .ok (.iconst 1, 1) := by decide +kernel
theorem dX6_send_90 : decode cX6_send 90 = .ok (.iadd, 1) := by decide +kernel
theorem dX6_send_91 : decode cX6_send 91 = .ok (.iastore, 1) := by decide +kernel
theorem dX6_send_92 : decode cX6_send 92 = .ok (.return_, 1) := by decide +kernel
theorem dX6_dropEldest_0 : decode cX6_dropEldest 0 = .ok (.iconst 1, 1) := by decide +kernel
theorem dX6_dropEldest_1 : decode cX6_dropEldest 1 = .ok (.istore_n 2, 1) := by decide +kernel
theorem dX6_dropEldest_2 : decode cX6_dropEldest 2 = .ok (.iload_n 2, 1) := by decide +kernel
theorem dX6_dropEldest_3 : decode cX6_dropEldest 3 = .ok (.bipush 23, 2) := by decide +kernel
theorem dX6_dropEldest_5 : decode cX6_dropEldest 5 = .ok (.if_icmp .ge 27, 3) := by decide +kernel
theorem dX6_dropEldest_8 : decode cX6_dropEldest 8 = .ok (.aload_n 0, 1) := by decide +kernel
theorem dX6_dropEldest_9 : decode cX6_dropEldest 9 = .ok (.getfield 17, 3) := by decide +kernel
theorem dX6_dropEldest_12 : decode cX6_dropEldest 12 = .ok (.iload_n 1, 1) := by decide +kernel
theorem dX6_dropEldest_13 : decode cX6_dropEldest 13 = .ok (.iload_n 2, 1) := by decide +kernel
theorem dX6_dropEldest_14 : decode cX6_dropEldest 14 = .ok (.iadd, 1) := by decide +kernel
theorem dX6_dropEldest_15 : decode cX6_dropEldest 15 = .ok (.aload_n 0, 1) := by decide +kernel
theorem dX6_dropEldest_16 : decode cX6_dropEldest 16 = .ok (.getfield 17, 3) := by decide +kernel
theorem dX6_dropEldest_19 : decode cX6_dropEldest 19 = .ok (.iload_n 1, 1) := by decide +kernel
theorem dX6_dropEldest_20 : decode cX6_dropEldest 20 = .ok (.iload_n 2, 1) := by decide +kernel
theorem dX6_dropEldest_21 : decode cX6_dropEldest 21 = .ok (.iadd, 1) := by decide +kernel
theorem dX6_dropEldest_22 : decode cX6_dropEldest 22 = .ok (.iconst 2, 1) := by decide +kernel
theorem dX6_dropEldest_23 : decode cX6_dropEldest 23 = .ok (.iadd, 1) := by decide +kernel
theorem dX6_dropEldest_24 : decode cX6_dropEldest 24 = .ok (.iaload, 1) := by decide +kernel
theorem dX6_dropEldest_25 : decode cX6_dropEldest 25 = .ok (.iastore, 1) := by decide +kernel
theorem dX6_dropEldest_26 : decode cX6_dropEldest 26 = .ok (.iinc 2 1, 3) := by decide +kernel
theorem dX6_dropEldest_29 : decode cX6_dropEldest 29 = .ok (.goto (-27), 3) := by decide +kernel
theorem dX6_dropEldest_32 : decode cX6_dropEldest 32 = .ok (.aload_n 0, 1) := by decide +kernel
theorem dX6_dropEldest_33 : decode cX6_dropEldest 33 = .ok (.getfield 17, 3) := by decide +kernel
theorem dX6_dropEldest_36 : decode cX6_dropEldest 36 = .ok (.iload_n 1, 1) := by decide +kernel
theorem dX6_dropEldest_37 : decode cX6_dropEldest 37 = .ok (.bipush 23, 2) := by decide +kernel
theorem dX6_dropEldest_39 : decode cX6_dropEldest 39 = .ok (.iadd, 1) := by decide +kernel
theorem dX6_dropEldest_40 : decode cX6_dropEldest 40 = .ok (.iconst 0, 1) := by decide +kernel
theorem dX6_dropEldest_41 : decode cX6_dropEldest 41 = .ok (.iastore, 1) := by decide +kernel
theorem dX6_dropEldest_42 : decode cX6_dropEldest 42 = .ok (.aload_n 0, 1) := by decide +kernel
theorem dX6_dropEldest_43 : decode cX6_dropEldest 43 = .ok (.getfield 17, 3) := by decide +kernel
theorem dX6_dropEldest_46 : decode cX6_dropEldest 46 = .ok (.iload_n 1, 1) := by decide +kernel
theorem dX6_dropEldest_47 : decode cX6_dropEldest 47 = .ok (.bipush 24, 2) := by decide +kernel
theorem dX6_dropEldest_49 : decode cX6_dropEldest 49 = .ok (.iadd, 1) := by decide +kernel
theorem dX6_dropEldest_50 : decode cX6_dropEldest 50 = .ok (.iconst 0, 1) := by decide +kernel
theorem dX6_dropEldest_51 : decode cX6_dropEldest 51 = .ok (.iastore, 1) := by decide +kernel
theorem dX6_dropEldest_52 : decode cX6_dropEldest 52 = .ok (.aload_n 0, 1) := by decide +kernel
theorem dX6_dropEldest_53 : decode cX6_dropEldest 53 = .ok (.getfield 17, 3) := by decide +kernel
theorem dX6_dropEldest_56 : decode cX6_dropEldest 56 = .ok (.iload_n 1, 1) := by decide +kernel
theorem dX6_dropEldest_57 : decode cX6_dropEldest 57 = .ok (.dup2, 1) := by decide +kernel
theorem dX6_dropEldest_58 : decode cX6_dropEldest 58 = .ok (.iaload, 1) := by decide +kernel
theorem dX6_dropEldest_59 : decode cX6_dropEldest 59 = .ok (.iconst 1, 1) := by decide +kernel
theorem dX6_dropEldest_60 : decode cX6_dropEldest 60 = .ok (.isub, 1) := by decide +kernel
theorem dX6_dropEldest_61 : decode cX6_dropEldest 61 = .ok (.iastore, 1) := by decide +kernel
theorem dX6_dropEldest_62 : decode cX6_dropEldest 62 = .ok (.return_, 1) := by decide +kernel
theorem dX6_askAll_0 : decode cX6_askAll 0 = .ok (.iconst 0, 1) := by decide +kernel
theorem dX6_askAll_1 : decode cX6_askAll 1 = .ok (.istore_n 3, 1) := by decide +kernel
theorem dX6_askAll_2 : decode cX6_askAll 2 = .ok (.iload_n 3, 1) := by decide +kernel
theorem dX6_askAll_3 : decode cX6_askAll 3 = .ok (.aload_n 0, 1) := by decide +kernel
theorem dX6_askAll_4 : decode cX6_askAll 4 = .ok (.getfield 7, 3) := by decide +kernel
theorem dX6_askAll_7 : decode cX6_askAll 7 = .ok (.if_icmp .ge 22, 3) := by decide +kernel
theorem dX6_askAll_10 : decode cX6_askAll 10 = .ok (.iload_n 3, 1) := by decide +kernel
theorem dX6_askAll_11 : decode cX6_askAll 11 = .ok (.iload_n 1, 1) := by decide +kernel
theorem dX6_askAll_12 : decode cX6_askAll 12 = .ok (.if_icmp .eq 11, 3) := by decide +kernel
theorem dX6_askAll_15 : decode cX6_askAll 15 = .ok (.aload_n 0, 1) := by decide +kernel
theorem dX6_askAll_16 : decode cX6_askAll 16 = .ok (.iload_n 1, 1) := by decide +kernel
theorem dX6_askAll_17 : decode cX6_askAll 17 = .ok (.iload_n 3, 1) := by decide +kernel
theorem dX6_askAll_18 : decode cX6_askAll 18 = .ok (.iconst 0, 1) := by decide +kernel
theorem dX6_askAll_19 : decode cX6_askAll 19 = .ok (.iload_n 2, 1) := by decide +kernel
theorem dX6_askAll_20 : decode cX6_askAll 20 = .ok (.invokevirtual 76, 3) := by decide +kernel
theorem dX6_askAll_23 : decode cX6_askAll 23 = .ok (.iinc 3 1, 3) := by decide +kernel
theorem dX6_askAll_26 : decode cX6_askAll 26 = .ok (.goto (-24), 3) := by decide +kernel
theorem dX6_askAll_29 : decode cX6_askAll 29 = .ok (.return_, 1) := by decide +kernel
theorem dX6_sent_0 : decode cX6_sent 0 = .ok (.aload_n 0, 1) := by decide +kernel
theorem dX6_sent_1 : decode cX6_sent 1 = .ok (.getfield 20, 3) := by decide +kernel
theorem dX6_sent_4 : decode cX6_sent 4 = .ok (.bipush 7, 2) := by decide +kernel
theorem dX6_sent_6 : decode cX6_sent 6 = .ok (.iaload, 1) := by decide +kernel
theorem dX6_sent_7 : decode cX6_sent 7 = .ok (.aload_n 0, 1) := by decide +kernel
theorem dX6_sent_8 : decode cX6_sent 8 = .ok (.getfield 20, 3) := by decide +kernel
theorem dX6_sent_11 : decode cX6_sent 11 = .ok (.bipush 8, 2) := by decide +kernel
theorem dX6_sent_13 : decode cX6_sent 13 = .ok (.iaload, 1) := by decide +kernel
theorem dX6_sent_14 : decode cX6_sent 14 = .ok (.iadd, 1) := by decide +kernel
theorem dX6_sent_15 : decode cX6_sent 15 = .ok (.aload_n 0, 1) := by decide +kernel
theorem dX6_sent_16 : decode cX6_sent 16 = .ok (.getfield 20, 3) := by decide +kernel
theorem dX6_sent_19 : decode cX6_sent 19 = .ok (.bipush 9, 2) := by decide +kernel
theorem dX6_sent_21 : decode cX6_sent 21 = .ok (.iaload, 1) := by decide +kernel
theorem dX6_sent_22 : decode cX6_sent 22 = .ok (.iadd, 1) := by decide +kernel
theorem dX6_sent_23 : decode cX6_sent 23 = .ok (.ireturn, 1) := by decide +kernel
theorem dX6_comesIn_0 : decode cX6_comesIn 0 = .ok (.aload_n 0, 1) := by decide +kernel
theorem dX6_comesIn_1 : decode cX6_comesIn 1 = .ok (.getfield 17, 3) := by decide +kernel
theorem dX6_comesIn_4 : decode cX6_comesIn 4 = .ok (.bipush 21, 2) := by decide +kernel
theorem dX6_comesIn_6 : decode cX6_comesIn 6 = .ok (.iload_n 1, 1) := by decide +kernel
theorem dX6_comesIn_7 : decode cX6_comesIn 7 = .ok (.imul, 1) := by decide +kernel
theorem dX6_comesIn_8 : decode cX6_comesIn 8 = .ok (.iconst 0, 1) := by decide +kernel
theorem dX6_comesIn_9 : decode cX6_comesIn 9 = .ok (.iadd, 1) := by decide +kernel
theorem dX6_comesIn_10 : decode cX6_comesIn 10 = .ok (.iconst 2, 1) := by decide +kernel
theorem dX6_comesIn_11 : decode cX6_comesIn 11 = .ok (.iastore, 1) := by decide +kernel
theorem dX6_comesIn_12 : decode cX6_comesIn 12 = .ok (.aload_n 0, 1) := by decide +kernel
theorem dX6_comesIn_13 : decode cX6_comesIn 13 = .ok (.getfield 23, 3) := by decide +kernel
theorem dX6_comesIn_16 : decode cX6_comesIn 16 = .ok (.ifCond .ne 4, 3) := by decide +kernel
theorem dX6_comesIn_19 : decode cX6_comesIn 19 = .ok (.return_, 1) := by decide +kernel
theorem dX6_comesIn_20 : decode cX6_comesIn 20 = .ok (.bipush 59, 2) := by decide +kernel
theorem dX6_comesIn_22 : decode cX6_comesIn 22 = .ok (.istore_n 2, 1) := by decide +kernel
theorem dX6_comesIn_23 : decode cX6_comesIn 23 = .ok (.iload_n 2, 1) := by decide +kernel
theorem dX6_comesIn_24 : decode cX6_comesIn 24 = .ok (.ifCond .le 50, 3) := by decide +kernel
theorem dX6_comesIn_27 : decode cX6_comesIn 27 = .ok (.iconst 0, 1) := by decide +kernel
theorem dX6_comesIn_28 : decode cX6_comesIn 28 = .ok (.istore_n 3, 1) := by decide +kernel
theorem dX6_comesIn_29 : decode cX6_comesIn 29 = .ok (.iload_n 3, 1) := by decide +kernel
theorem dX6_comesIn_30 : decode cX6_comesIn 30 = .ok (.iconst 3, 1) := by decide +kernel
theorem dX6_comesIn_31 : decode cX6_comesIn 31 = .ok (.if_icmp .ge 37, 3) := by decide +kernel
theorem dX6_comesIn_34 : decode cX6_comesIn 34 = .ok (.aload_n 0, 1) := by decide +kernel
theorem dX6_comesIn_35 : decode cX6_comesIn 35 = .ok (.getfield 20, 3) := by decide +kernel
theorem dX6_comesIn_38 : decode cX6_comesIn 38 = .ok (.bipush 10, 2) := by decide +kernel
theorem dX6_comesIn_40 : decode cX6_comesIn 40 = .ok (.iconst 3, 1) := by decide +kernel
theorem dX6_comesIn_41 : decode cX6_comesIn 41 = .ok (.iload_n 2, 1) := by decide +kernel
theorem dX6_comesIn_42 : decode cX6_comesIn 42 = .ok (.imul, 1) := by decide +kernel
theorem dX6_comesIn_43 : decode cX6_comesIn 43 = .ok (.iadd, 1) := by decide +kernel
theorem dX6_comesIn_44 : decode cX6_comesIn 44 = .ok (.iload_n 3, 1) := by decide +kernel
theorem dX6_comesIn_45 : decode cX6_comesIn 45 = .ok (.iadd, 1) := by decide +kernel
theorem dX6_comesIn_46 : decode cX6_comesIn 46 = .ok (.aload_n 0, 1) := by decide +kernel
theorem dX6_comesIn_47 : decode cX6_comesIn 47 = .ok (.getfield 20, 3) := by decide +kernel
theorem dX6_comesIn_50 : decode cX6_comesIn 50 = .ok (.bipush 10, 2) := by decide +kernel
theorem dX6_comesIn_52 : decode cX6_comesIn 52 = .ok (.iconst 3, 1) := by decide +kernel
theorem dX6_comesIn_53 : decode cX6_comesIn 53 = .ok (.iload_n 2, 1) := by decide +kernel
theorem dX6_comesIn_54 : decode cX6_comesIn 54 = .ok (.imul, 1) := by decide +kernel
theorem dX6_comesIn_55 : decode cX6_comesIn 55 = .ok (.iadd, 1) := by decide +kernel
theorem dX6_comesIn_56 : decode cX6_comesIn 56 = .ok (.iconst 3, 1) := by decide +kernel
theorem dX6_comesIn_57 : decode cX6_comesIn 57 = .ok (.isub, 1) := by decide +kernel
theorem dX6_comesIn_58 : decode cX6_comesIn 58 = .ok (.iload_n 3, 1) := by decide +kernel
theorem dX6_comesIn_59 : decode cX6_comesIn 59 = .ok (.iadd, 1) := by decide +kernel
theorem dX6_comesIn_60 : decode cX6_comesIn 60 = .ok (.iaload, 1) := by decide +kernel
theorem dX6_comesIn_61 : decode cX6_comesIn 61 = .ok (.iastore, 1) := by decide +kernel
theorem dX6_comesIn_62 : decode cX6_comesIn 62 = .ok (.iinc 3 1, 3) := by decide +kernel
theorem dX6_comesIn_65 : decode cX6_comesIn 65 = .ok (.goto (-36), 3) := by decide +kernel
theorem dX6_comesIn_68 : decode cX6_comesIn 68 = .ok (.iinc 2 (-1), 3) := by decide +kernel
theorem dX6_comesIn_71 : decode cX6_comesIn 71 = .ok (.goto (-48), 3) := by decide +kernel
theorem dX6_comesIn_74 : decode cX6_comesIn 74 = .ok (.aload_n 0, 1) := by decide +kernel
theorem dX6_comesIn_75 : decode cX6_comesIn 75 = .ok (.getfield 20, 3) := by decide +kernel
theorem dX6_comesIn_78 : decode cX6_comesIn 78 = .ok (.bipush 10, 2) := by decide +kernel
theorem dX6_comesIn_80 : decode cX6_comesIn 80 = .ok (.iload_n 1, 1) := by decide +kernel
theorem dX6_comesIn_81 : decode cX6_comesIn 81 = .ok (.iastore, 1) := by decide +kernel
theorem dX6_comesIn_82 : decode cX6_comesIn 82 = .ok (.aload_n 0, 1) := by decide +kernel
theorem dX6_comesIn_83 : decode cX6_comesIn 83 = .ok (.getfield 20, 3) := by decide +kernel
theorem dX6_comesIn_86 : decode cX6_comesIn 86 = .ok (.bipush 11, 2) := by decide +kernel
theorem dX6_comesIn_88 : decode cX6_comesIn 88 = .ok (.aload_n 0, 1) := by decide +kernel
theorem dX6_comesIn_89 : decode cX6_comesIn 89 = .ok (.getfield 20, 3) := by decide +kernel
theorem dX6_comesIn_92 : decode cX6_comesIn 92 = .ok (.iconst 0, 1) := by decide +kernel
theorem dX6_comesIn_93 : decode cX6_comesIn 93 = .ok (.iaload, 1) := by decide +kernel
theorem dX6_comesIn_94 : decode cX6_comesIn 94 = .ok (.aload_n 0, 1) := by decide +kernel
theorem dX6_comesIn_95 : decode cX6_comesIn 95 = .ok (.getfield 20, 3) := by decide +kernel
theorem dX6_comesIn_98 : decode cX6_comesIn 98 = .ok (.iconst 1, 1) := by decide +kernel
theorem dX6_comesIn_99 : decode cX6_comesIn 99 = .ok (.iload_n 1, 1) := by decide +kernel
theorem dX6_comesIn_100 : decode cX6_comesIn 100 = .ok (.iadd, 1) := by decide +kernel
theorem dX6_comesIn_101 : decode cX6_comesIn 101 = .ok (.iaload, 1) := by decide +kernel
theorem dX6_comesIn_102 : decode cX6_comesIn 102 = .ok (.isub, 1) := by decide +kernel
theorem dX6_comesIn_103 : decode cX6_comesIn 103 = .ok (.iastore, 1) := by decide +kernel
theorem dX6_comesIn_104 : decode cX6_comesIn 104 = .ok (.aload_n 0, 1) := by decide +kernel
theorem dX6_comesIn_105 : decode cX6_comesIn 105 = .ok (.getfield 20, 3) := by decide +kernel
theorem dX6_comesIn_108 : decode cX6_comesIn 108 = .ok (.bipush 12, 2) := by decide +kernel
theorem dX6_comesIn_110 : decode cX6_comesIn 110 = .ok (.aload_n 0, 1) := by decide +kernel
theorem dX6_comesIn_111 : decode cX6_comesIn 111 = .ok (.invokevirtual 80, 3) := by decide +kernel
theorem dX6_comesIn_114 : decode cX6_comesIn 114 = .ok (.iastore, 1) := by decide +kernel
theorem dX6_comesIn_115 : decode cX6_comesIn 115 = .ok (.aload_n 0, 1) := by decide +kernel
theorem dX6_comesIn_116 : decode cX6_comesIn 116 = .ok (.getfield 20, 3) := by decide +kernel
theorem dX6_comesIn_119 : decode cX6_comesIn 119 = .ok (.iconst 0, 1) := by decide +kernel
theorem dX6_comesIn_120 : decode cX6_comesIn 120 = .ok (.dup2, 1) := by decide +kernel
theorem dX6_comesIn_121 : decode cX6_comesIn 121 = .ok (.iaload, 1) := by decide +kernel
theorem dX6_comesIn_122 : decode cX6_comesIn 122 = .ok (.iconst 1, 1) := by decide +kernel
theorem dX6_comesIn_123 : decode cX6_comesIn 123 = .ok (.iadd, 1) := by decide +kernel
theorem dX6_comesIn_124 : decode cX6_comesIn 124 = .ok (.iastore, 1) := by decide +kernel
theorem dX6_comesIn_125 : decode cX6_comesIn 125 = .ok (.return_, 1) := by decide +kernel
theorem dX6_rules_0 : decode cX6_rules 0 = .ok (.bipush 21, 2) := by decide +kernel
theorem dX6_rules_2 : decode cX6_rules 2 = .ok (.iload_n 1, 1) := by decide +kernel
theorem dX6_rules_3 : decode cX6_rules 3 = .ok (.imul, 1) := by decide +kernel
theorem dX6_rules_4 : decode cX6_rules 4 = .ok (.istore_n 2, 1) := by decide +kernel
theorem dX6_rules_5 : decode cX6_rules 5 = .ok (.aload_n 0, 1) := by decide +kernel
theorem dX6_rules_6 : decode cX6_rules 6 = .ok (.getfield 17, 3) := by decide +kernel
theorem dX6_rules_9 : decode cX6_rules 9 = .ok (.iload_n 2, 1) := by decide +kernel
theorem dX6_rules_10 : decode cX6_rules 10 = .ok (.iconst 5, 1) := by decide +kernel
theorem dX6_rules_11 : decode cX6_rules 11 = .ok (.iadd, 1) := by decide +kernel
theorem dX6_rules_12 : decode cX6_rules 12 = .ok (.iaload, 1) := by decide +kernel
theorem dX6_rules_13 : decode cX6_rules 13 = .ok (.iload_n 1, 1) := by decide +kernel
theorem dX6_rules_14 : decode cX6_rules 14 = .ok (.if_icmp .ne 143, 3) := by decide +kernel
theorem dX6_rules_17 : decode cX6_rules 17 = .ok (.aload_n 0, 1) := by decide +kernel
theorem dX6_rules_18 : decode cX6_rules 18 = .ok (.getfield 17, 3) := by decide +kernel
theorem dX6_rules_21 : decode cX6_rules 21 = .ok (.iload_n 2, 1) := by decide +kernel
theorem dX6_rules_22 : decode cX6_rules 22 = .ok (.iconst 0, 1) := by decide +kernel
theorem dX6_rules_23 : decode cX6_rules 23 = .ok (.iadd, 1) := by decide +kernel
theorem dX6_rules_24 : decode cX6_rules 24 = .ok (.iaload, 1) := by decide +kernel
theorem dX6_rules_25 : decode cX6_rules 25 = .ok (.iconst 2, 1) := by decide +kernel
theorem dX6_rules_26 : decode cX6_rules 26 = .ok (.if_icmp .eq 131, 3) := by decide +kernel
theorem dX6_rules_29 : decode cX6_rules 29 = .ok (.aload_n 0, 1) := by decide +kernel
theorem dX6_rules_30 : decode cX6_rules 30 = .ok (.getfield 17, 3) := by decide +kernel
theorem dX6_rules_33 : decode cX6_rules 33 = .ok (.iload_n 2, 1) := by decide +kernel
theorem dX6_rules_34 : decode cX6_rules 34 = .ok (.bipush 7, 2) := by decide +kernel
theorem dX6_rules_36 : decode cX6_rules 36 = .ok (.iadd, 1) := by decide +kernel
theorem dX6_rules_37 : decode cX6_rules 37 = .ok (.iaload, 1) := by decide +kernel
theorem dX6_rules_38 : decode cX6_rules 38 = .ok (.ifCond .le 119, 3) := by decide +kernel
theorem dX6_rules_41 : decode cX6_rules 41 = .ok (.aload_n 0, 1) := by decide +kernel
theorem dX6_rules_42 : decode cX6_rules 42 = .ok (.getfield 17, 3) := by decide +kernel
theorem dX6_rules_45 : decode cX6_rules 45 = .ok (.iload_n 2, 1) := by decide +kernel
theorem dX6_rules_46 : decode cX6_rules 46 = .ok (.bipush 8, 2) := by decide +kernel
theorem dX6_rules_48 : decode cX6_rules 48 = .ok (.iadd, 1) := by decide +kernel
theorem dX6_rules_49 : decode cX6_rules 49 = .ok (.iaload, 1) := by decide +kernel
theorem dX6_rules_50 : decode cX6_rules 50 = .ok (.istore_n 3, 1) := by decide +kernel
theorem dX6_rules_51 : decode cX6_rules 51 = .ok (.iconst 0, 1) := by decide +kernel
theorem dX6_rules_52 : decode cX6_rules 52 = .ok (.istore 4, 2) := by decide +kernel
theorem dX6_rules_54 : decode cX6_rules 54 = .ok (.iload 4, 2) := by decide +kernel
theorem dX6_rules_56 : decode cX6_rules 56 = .ok (.iconst 5, 1) := by decide +kernel
theorem dX6_rules_57 : decode cX6_rules 57 = .ok (.if_icmp .ge 35, 3) := by decide +kernel
theorem dX6_rules_60 : decode cX6_rules 60 = .ok (.aload_n 0, 1) := by decide +kernel
theorem dX6_rules_61 : decode cX6_rules 61 = .ok (.getfield 17, 3) := by decide +kernel
theorem dX6_rules_64 : decode cX6_rules 64 = .ok (.iload_n 2, 1) := by decide +kernel
theorem dX6_rules_65 : decode cX6_rules 65 = .ok (.bipush 8, 2) := by decide +kernel
theorem dX6_rules_67 : decode cX6_rules 67 = .ok (.iadd, 1) := by decide +kernel
theorem dX6_rules_68 : decode cX6_rules 68 = .ok (.iload 4, 2) := by decide +kernel
theorem dX6_rules_70 : decode cX6_rules 70 = .ok (.iadd, 1) := by decide +kernel
theorem dX6_rules_71 : decode cX6_rules 71 = .ok (.aload_n 0, 1) := by decide +kernel
theorem dX6_rules_72 : decode cX6_rules 72 = .ok (.getfield 17, 3) := by decide +kernel
theorem dX6_rules_75 : decode cX6_rules 75 = .ok (.iload_n 2, 1) := by decide +kernel
theorem dX6_rules_76 : decode cX6_rules 76 = .ok (.bipush 8, 2) := by decide +kernel
theorem dX6_rules_78 : decode cX6_rules 78 = .ok (.iadd, 1) := by decide +kernel
theorem dX6_rules_79 : decode cX6_rules 79 = .ok (.iload 4, 2) := by decide +kernel
theorem dX6_rules_81 : decode cX6_rules 81 = .ok (.iadd, 1) := by decide +kernel
theorem dX6_rules_82 : decode cX6_rules 82 = .ok (.iconst 1, 1) := by decide +kernel
theorem dX6_rules_83 : decode cX6_rules 83 = .ok (.iadd, 1) := by decide +kernel
theorem dX6_rules_84 : decode cX6_rules 84 = .ok (.iaload, 1) := by decide +kernel
theorem dX6_rules_85 : decode cX6_rules 85 = .ok (.iastore, 1) := by decide +kernel
theorem dX6_rules_86 : decode cX6_rules 86 = .ok (.iinc 4 1, 3) := by decide +kernel
theorem dX6_rules_89 : decode cX6_rules 89 = .ok (.goto (-35), 3) := by decide +kernel
theorem dX6_rules_92 : decode cX6_rules 92 = .ok (.aload_n 0, 1) := by decide +kernel
theorem dX6_rules_93 : decode cX6_rules 93 = .ok (.getfield 17, 3) := by decide +kernel
theorem dX6_rules_96 : decode cX6_rules 96 = .ok (.iload_n 2, 1) := by decide +kernel
theorem dX6_rules_97 : decode cX6_rules 97 = .ok (.bipush 8, 2) := by decide +kernel
theorem dX6_rules_99 : decode cX6_rules 99 = .ok (.iadd, 1) := by decide +kernel
theorem dX6_rules_100 : decode cX6_rules 100 = .ok (.iconst 5, 1) := by decide +kernel
theorem dX6_rules_101 : decode cX6_rules 101 = .ok (.iadd, 1) := by decide +kernel
theorem dX6_rules_102 : decode cX6_rules 102 = .ok (.iconst 0, 1) := by decide +kernel
theorem dX6_rules_103 : decode cX6_rules 103 = .ok (.iastore, 1) := by decide +kernel
theorem dX6_rules_104 : decode cX6_rules 104 = .ok (.aload_n 0, 1) := by decide +kernel
theorem dX6_rules_105 : decode cX6_rules 105 = .ok (.getfield 17, 3) := by decide +kernel
theorem dX6_rules_108 : decode cX6_rules 108 = .ok (.iload_n 2, 1) := by decide +kernel
theorem dX6_rules_109 : decode cX6_rules 109 = .ok (.bipush 7, 2) := by decide +kernel
theorem dX6_rules_111 : decode cX6_rules 111 = .ok (.iadd, 1) := by decide +kernel
theorem dX6_rules_112 : decode cX6_rules 112 = .ok (.dup2, 1) := by decide +kernel
theorem dX6_rules_113 : decode cX6_rules 113 = .ok (.iaload, 1) := by decide +kernel
theorem dX6_rules_114 : decode cX6_rules 114 = .ok (.iconst 1, 1) := by decide +kernel
theorem dX6_rules_115 : decode cX6_rules 115 = .ok (.isub, 1) := by decide +kernel
theorem dX6_rules_116 : decode cX6_rules 116 = .ok (.iastore, 1) := by decide +kernel
theorem dX6_rules_117 : decode cX6_rules 117 = .ok (.aload_n 0, 1) := by decide +kernel
theorem dX6_rules_118 : decode cX6_rules 118 = .ok (.getfield 17, 3) := by decide +kernel
theorem dX6_rules_121 : decode cX6_rules 121 = .ok (.iload_n 2, 1) := by decide +kernel
theorem dX6_rules_122 : decode cX6_rules 122 = .ok (.iconst 5, 1) := by decide +kernel
theorem dX6_rules_123 : decode cX6_rules 123 = .ok (.iadd, 1) := by decide +kernel
theorem dX6_rules_124 : decode cX6_rules 124 = .ok (.iload_n 3, 1) := by decide +kernel
theorem dX6_rules_125 : decode cX6_rules 125 = .ok (.iastore, 1) := by decide +kernel
theorem dX6_rules_126 : decode cX6_rules 126 = .ok (.aload_n 0, 1) := by decide +kernel
theorem dX6_rules_127 : decode cX6_rules 127 = .ok (.getfield 17, 3) := by decide +kernel
theorem dX6_rules_130 : decode cX6_rules 130 = .ok (.iload_n 2, 1) := by decide +kernel
theorem dX6_rules_131 : decode cX6_rules 131 = .ok (.bipush 6, 2) := by decide +kernel
theorem dX6_rules_133 : decode cX6_rules 133 = .ok (.iadd, 1) := by decide +kernel
theorem dX6_rules_134 : decode cX6_rules 134 = .ok (.iconst 0, 1) := by decide +kernel
theorem dX6_rules_135 : decode cX6_rules 135 = .ok (.iastore, 1) := by decide +kernel
theorem dX6_rules_136 : decode cX6_rules 136 = .ok (.iload_n 3, 1) := by decide +kernel
theorem dX6_rules_137 : decode cX6_rules 137 = .ok (.iload_n 1, 1) := by decide +kernel
theorem dX6_rules_138 : decode cX6_rules 138 = .ok (.if_icmp .ne 11, 3) := by decide +kernel
theorem dX6_rules_141 : decode cX6_rules 141 = .ok (.aload_n 0, 1) := by decide +kernel
theorem dX6_rules_142 : decode cX6_rules 142 = .ok (.iload_n 1, 1) := by decide +kernel
theorem dX6_rules_143 : decode cX6_rules 143 = .ok (.invokevirtual 84, 3) := by decide +kernel
theorem dX6_rules_146 : decode cX6_rules 146 = .ok (.goto 11, 3) := by decide +kernel
theorem dX6_rules_149 : decode cX6_rules 149 = .ok (.aload_n 0, 1) := by decide +kernel
theorem dX6_rules_150 : decode cX6_rules 150 = .ok (.iload_n 1, 1) := by decide +kernel
theorem dX6_rules_151 : decode cX6_rules 151 = .ok (.iload_n 3, 1) := by decide +kernel
theorem dX6_rules_152 : decode cX6_rules 152 = .ok (.iconst 2, 1) := by decide +kernel
theorem dX6_rules_153 : decode cX6_rules 153 = .ok (.iconst 0, 1) := by decide +kernel
theorem dX6_rules_154 : decode cX6_rules 154 = .ok (.invokevirtual 76, 3) := by decide +kernel
theorem dX6_rules_157 : decode cX6_rules 157 = .ok (.aload_n 0, 1) := by decide +kernel
theorem dX6_rules_158 : decode cX6_rules 158 = .ok (.getfield 17, 3) := by decide +kernel
theorem dX6_rules_161 : decode cX6_rules 161 = .ok (.iload_n 2, 1) := by decide +kernel
theorem dX6_rules_162 : decode cX6_rules 162 = .ok (.iconst 5, 1) := by decide +kernel
theorem dX6_rules_163 : decode cX6_rules 163 = .ok (.iadd, 1) := by decide +kernel
theorem dX6_rules_164 : decode cX6_rules 164 = .ok (.iaload, 1) := by decide +kernel
theorem dX6_rules_165 : decode cX6_rules 165 = .ok (.iload_n 1, 1) := by decide +kernel
theorem dX6_rules_166 : decode cX6_rules 166 = .ok (.if_icmp .eq 52, 3) := by decide +kernel
theorem dX6_rules_169 : decode cX6_rules 169 = .ok (.aload_n 0, 1) := by decide +kernel
theorem dX6_rules_170 : decode cX6_rules 170 = .ok (.getfield 17, 3) := by decide +kernel
theorem dX6_rules_173 : decode cX6_rules 173 = .ok (.iload_n 2, 1) := by decide +kernel
theorem dX6_rules_174 : decode cX6_rules 174 = .ok (.bipush 7, 2) := by decide +kernel
theorem dX6_rules_176 : decode cX6_rules 176 = .ok (.iadd, 1) := by decide +kernel
theorem dX6_rules_177 : decode cX6_rules 177 = .ok (.iaload, 1) := by decide +kernel
theorem dX6_rules_178 : decode cX6_rules 178 = .ok (.ifCond .le 40, 3) := by decide +kernel
theorem dX6_rules_181 : decode cX6_rules 181 = .ok (.aload_n 0, 1) := by decide +kernel
theorem dX6_rules_182 : decode cX6_rules 182 = .ok (.getfield 17, 3) := by decide +kernel
theorem dX6_rules_185 : decode cX6_rules 185 = .ok (.iload_n 2, 1) := by decide +kernel
theorem dX6_rules_186 : decode cX6_rules 186 = .ok (.bipush 6, 2) := by decide +kernel
theorem dX6_rules_188 : decode cX6_rules 188 = .ok (.iadd, 1) := by decide +kernel
theorem dX6_rules_189 : decode cX6_rules 189 = .ok (.iaload, 1) := by decide +kernel
theorem dX6_rules_190 : decode cX6_rules 190 = .ok (.ifCond .ne 28, 3) := by decide +kernel
theorem dX6_rules_193 : decode cX6_rules 193 = .ok (.aload_n 0, 1) := by decide +kernel
theorem dX6_rules_194 : decode cX6_rules 194 = .ok (.iload_n 1, 1) := by decide +kernel
theorem dX6_rules_195 : decode cX6_rules 195 = .ok (.aload_n 0, 1) := by decide +kernel
theorem dX6_rules_196 : decode cX6_rules 196 = .ok (.getfield 17, 3) := by decide +kernel
theorem dX6_rules_199 : decode cX6_rules 199 = .ok (.iload_n 2, 1) := by decide +kernel
theorem dX6_rules_200 : decode cX6_rules 200 = .ok (.iconst 5, 1) := by decide +kernel
theorem dX6_rules_201 : decode cX6_rules 201 = .ok (.iadd, 1) := by decide +kernel
theorem dX6_rules_202 : decode cX6_rules 202 = .ok (.iaload, 1) := by decide +kernel
theorem dX6_rules_203 : decode cX6_rules 203 = .ok (.iconst 0, 1) := by decide +kernel
theorem dX6_rules_204 : decode cX6_rules 204 = .ok (.iconst 0, 1) := by decide +kernel
theorem dX6_rules_205 : decode cX6_rules 205 = .ok (.invokevirtual 76, 3) := by decide +kernel
theorem dX6_rules_208 : decode cX6_rules 208 = .ok (.aload_n 0, 1) := by decide +kernel
theorem dX6_rules_209 : decode cX6_rules 209 = .ok (.getfield 17, 3) := by decide +kernel
theorem dX6_rules_212 : decode cX6_rules 212 = .ok (.iload_n 2, 1) := by decide +kernel
theorem dX6_rules_213 : decode cX6_rules 213 = .ok (.bipush 6, 2) := by decide +kernel
theorem dX6_rules_215 : decode cX6_rules 215 = .ok (.iadd, 1) := by decide +kernel
theorem dX6_rules_216 : decode cX6_rules 216 = .ok (.iconst 1, 1) := by decide +kernel
theorem dX6_rules_217 : decode cX6_rules 217 = .ok (.iastore, 1) := by decide +kernel
theorem dX6_rules_218 : decode cX6_rules 218 = .ok (.return_, 1) := by decide +kernel
theorem dX6_queue_0 : decode cX6_queue 0 = .ok (.bipush 21, 2) := by decide +kernel
theorem dX6_queue_2 : decode cX6_queue 2 = .ok (.iload_n 1, 1) := by decide +kernel
theorem dX6_queue_3 : decode cX6_queue 3 = .ok (.imul, 1) := by decide +kernel
theorem dX6_queue_4 : decode cX6_queue 4 = .ok (.istore_n 3, 1) := by decide +kernel
theorem dX6_queue_5 : decode cX6_queue 5 = .ok (.aload_n 0, 1) := by decide +kernel
theorem dX6_queue_6 : decode cX6_queue 6 = .ok (.getfield 17, 3) := by decide +kernel
theorem dX6_queue_9 : decode cX6_queue 9 = .ok (.iload_n 3, 1) := by decide +kernel
theorem dX6_queue_10 : decode cX6_queue 10 = .ok (.bipush 8, 2) := by decide +kernel
theorem dX6_queue_12 : decode cX6_queue 12 = .ok (.iadd, 1) := by decide +kernel
theorem dX6_queue_13 : decode cX6_queue 13 = .ok (.aload_n 0, 1) := by decide +kernel
theorem dX6_queue_14 : decode cX6_queue 14 = .ok (.getfield 17, 3) := by decide +kernel
theorem dX6_queue_17 : decode cX6_queue 17 = .ok (.iload_n 3, 1) := by decide +kernel
theorem dX6_queue_18 : decode cX6_queue 18 = .ok (.bipush 7, 2) := by decide +kernel
theorem dX6_queue_20 : decode cX6_queue 20 = .ok (.iadd, 1) := by decide +kernel
theorem dX6_queue_21 : decode cX6_queue 21 = .ok (.iaload, 1) := by decide +kernel
theorem dX6_queue_22 : decode cX6_queue 22 = .ok (.iadd, 1) := by decide +kernel
theorem dX6_queue_23 : decode cX6_queue 23 = .ok (.iload_n 2, 1) := by decide +kernel
theorem dX6_queue_24 : decode cX6_queue 24 = .ok (.iastore, 1) := by decide +kernel
theorem dX6_queue_25 : decode cX6_queue 25 = .ok (.aload_n 0, 1) := by decide +kernel
theorem dX6_queue_26 : decode cX6_queue 26 = .ok (.getfield 17, 3) := by decide +kernel
theorem dX6_queue_29 : decode cX6_queue 29 = .ok (.iload_n 3, 1) := by decide +kernel
theorem dX6_queue_30 : decode cX6_queue 30 = .ok (.bipush 7, 2) := by decide +kernel
theorem dX6_queue_32 : decode cX6_queue 32 = .ok (.iadd, 1) := by decide +kernel
theorem dX6_queue_33 : decode cX6_queue 33 = .ok (.dup2, 1) := by decide +kernel
theorem dX6_queue_34 : decode cX6_queue 34 = .ok (.iaload, 1) := by decide +kernel
theorem dX6_queue_35 : decode cX6_queue 35 = .ok (.iconst 1, 1) := by decide +kernel
theorem dX6_queue_36 : decode cX6_queue 36 = .ok (.iadd, 1) := by decide +kernel
theorem dX6_queue_37 : decode cX6_queue 37 = .ok (.iastore, 1) := by decide +kernel
theorem dX6_queue_38 : decode cX6_queue 38 = .ok (.return_, 1) := by decide +kernel
theorem dX6_wants_0 : decode cX6_wants 0 = .ok (.bipush 21, 2) := by decide +kernel
theorem dX6_wants_2 : decode cX6_wants 2 = .ok (.iload_n 1, 1) := by decide +kernel
theorem dX6_wants_3 : decode cX6_wants 3 = .ok (.imul, 1) := by decide +kernel
theorem dX6_wants_4 : decode cX6_wants 4 = .ok (.istore_n 2, 1) := by decide +kernel
theorem dX6_wants_5 : decode cX6_wants 5 = .ok (.aload_n 0, 1) := by decide +kernel
theorem dX6_wants_6 : decode cX6_wants 6 = .ok (.getfield 17, 3) := by decide +kernel
theorem dX6_wants_9 : decode cX6_wants 9 = .ok (.iload_n 2, 1) := by decide +kernel
theorem dX6_wants_10 : decode cX6_wants 10 = .ok (.iconst 0, 1) := by decide +kernel
theorem dX6_wants_11 : decode cX6_wants 11 = .ok (.iadd, 1) := by decide +kernel
theorem dX6_wants_12 : decode cX6_wants 12 = .ok (.iconst 1, 1) := by decide +kernel
theorem dX6_wants_13 : decode cX6_wants 13 = .ok (.iastore, 1) := by decide +kernel
theorem dX6_wants_14 : decode cX6_wants 14 = .ok (.aload_n 0, 1) := by decide +kernel
theorem dX6_wants_15 : decode cX6_wants 15 = .ok (.getfield 20, 3) := by decide +kernel
theorem dX6_wants_18 : decode cX6_wants 18 = .ok (.iconst 1, 1) := by decide +kernel
theorem dX6_wants_19 : decode cX6_wants 19 = .ok (.iload_n 1, 1) := by decide +kernel
theorem dX6_wants_20 : decode cX6_wants 20 = .ok (.iadd, 1) := by decide +kernel
theorem dX6_wants_21 : decode cX6_wants 21 = .ok (.aload_n 0, 1) := by decide +kernel
theorem dX6_wants_22 : decode cX6_wants 22 = .ok (.getfield 20, 3) := by decide +kernel
theorem dX6_wants_25 : decode cX6_wants 25 = .ok (.iconst 0, 1) := by decide +kernel
theorem dX6_wants_26 : decode cX6_wants 26 = .ok (.iaload, 1) := by decide +kernel
theorem dX6_wants_27 : decode cX6_wants 27 = .ok (.iastore, 1) := by decide +kernel
theorem dX6_wants_28 : decode cX6_wants 28 = .ok (.aload_n 0, 1) := by decide +kernel
theorem dX6_wants_29 : decode cX6_wants 29 = .ok (.getfield 66, 3) := by decide +kernel
theorem dX6_wants_32 : decode cX6_wants 32 = .ok (.ifCond .ne 61, 3) := by decide +kernel
theorem dX6_wants_35 : decode cX6_wants 35 = .ok (.aload_n 0, 1) := by decide +kernel
theorem dX6_wants_36 : decode cX6_wants 36 = .ok (.getfield 17, 3) := by decide +kernel
theorem dX6_wants_39 : decode cX6_wants 39 = .ok (.iload_n 2, 1) := by decide +kernel
theorem dX6_wants_40 : decode cX6_wants 40 = .ok (.iconst 1, 1) := by decide +kernel
theorem dX6_wants_41 : decode cX6_wants 41 = .ok (.iadd, 1) := by decide +kernel
theorem dX6_wants_42 : decode cX6_wants 42 = .ok (.dup2, 1) := by decide +kernel
theorem dX6_wants_43 : decode cX6_wants 43 = .ok (.iaload, 1) := by decide +kernel
theorem dX6_wants_44 : decode cX6_wants 44 = .ok (.iconst 1, 1) := by decide +kernel
theorem dX6_wants_45 : decode cX6_wants 45 = .ok (.iadd, 1) := by decide +kernel
theorem dX6_wants_46 : decode cX6_wants 46 = .ok (.iastore, 1) := by decide +kernel
theorem dX6_wants_47 : decode cX6_wants 47 = .ok (.aload_n 0, 1) := by decide +kernel
theorem dX6_wants_48 : decode cX6_wants 48 = .ok (.getfield 17, 3) := by decide +kernel
theorem dX6_wants_51 : decode cX6_wants 51 = .ok (.iload_n 2, 1) := by decide +kernel
theorem dX6_wants_52 : decode cX6_wants 52 = .ok (.iconst 2, 1) := by decide +kernel
theorem dX6_wants_53 : decode cX6_wants 53 = .ok (.iadd, 1) := by decide +kernel
theorem dX6_wants_54 : decode cX6_wants 54 = .ok (.aload_n 0, 1) := by decide +kernel
theorem dX6_wants_55 : decode cX6_wants 55 = .ok (.getfield 17, 3) := by decide +kernel
theorem dX6_wants_58 : decode cX6_wants 58 = .ok (.iload_n 2, 1) := by decide +kernel
theorem dX6_wants_59 : decode cX6_wants 59 = .ok (.iconst 1, 1) := by decide +kernel
theorem dX6_wants_60 : decode cX6_wants 60 = .ok (.iadd, 1) := by decide +kernel
theorem dX6_wants_61 : decode cX6_wants 61 = .ok (.iaload, 1) := by decide +kernel
theorem dX6_wants_62 : decode cX6_wants 62 = .ok (.iastore, 1) := by decide +kernel
theorem dX6_wants_63 : decode cX6_wants 63 = .ok (.aload_n 0, 1) := by decide +kernel
theorem dX6_wants_64 : decode cX6_wants 64 = .ok (.getfield 17, 3) := by decide +kernel
theorem dX6_wants_67 : decode cX6_wants 67 = .ok (.iload_n 2, 1) := by decide +kernel
theorem dX6_wants_68 : decode cX6_wants 68 = .ok (.iconst 3, 1) := by decide +kernel
theorem dX6_wants_69 : decode cX6_wants 69 = .ok (.iadd, 1) := by decide +kernel
theorem dX6_wants_70 : decode cX6_wants 70 = .ok (.aload_n 0, 1) := by decide +kernel
theorem dX6_wants_71 : decode cX6_wants 71 = .ok (.getfield 7, 3) := by decide +kernel
theorem dX6_wants_74 : decode cX6_wants 74 = .ok (.iconst 1, 1) := by decide +kernel
theorem dX6_wants_75 : decode cX6_wants 75 = .ok (.isub, 1) := by decide +kernel
theorem dX6_wants_76 : decode cX6_wants 76 = .ok (.iastore, 1) := by decide +kernel
theorem dX6_wants_77 : decode cX6_wants 77 = .ok (.aload_n 0, 1) := by decide +kernel
theorem dX6_wants_78 : decode cX6_wants 78 = .ok (.iload_n 1, 1) := by decide +kernel
theorem dX6_wants_79 : decode cX6_wants 79 = .ok (.aload_n 0, 1) := by decide +kernel
theorem dX6_wants_80 : decode cX6_wants 80 = .ok (.getfield 17, 3) := by decide +kernel
theorem dX6_wants_83 : decode cX6_wants 83 = .ok (.iload_n 2, 1) := by decide +kernel
theorem dX6_wants_84 : decode cX6_wants 84 = .ok (.iconst 2, 1) := by decide +kernel
theorem dX6_wants_85 : decode cX6_wants 85 = .ok (.iadd, 1) := by decide +kernel
theorem dX6_wants_86 : decode cX6_wants 86 = .ok (.iaload, 1) := by decide +kernel
theorem dX6_wants_87 : decode cX6_wants 87 = .ok (.invokevirtual 88, 3) := by decide +kernel
theorem dX6_wants_90 : decode cX6_wants 90 = .ok (.goto 75, 3) := by decide +kernel
theorem dX6_wants_93 : decode cX6_wants 93 = .ok (.aload_n 0, 1) := by decide +kernel
theorem dX6_wants_94 : decode cX6_wants 94 = .ok (.getfield 66, 3) := by decide +kernel
theorem dX6_wants_97 : decode cX6_wants 97 = .ok (.iconst 1, 1) := by decide +kernel
theorem dX6_wants_98 : decode cX6_wants 98 = .ok (.if_icmp .ne 56, 3) := by decide +kernel
theorem dX6_wants_101 : decode cX6_wants 101 = .ok (.aload_n 0, 1) := by decide +kernel
theorem dX6_wants_102 : decode cX6_wants 102 = .ok (.getfield 17, 3) := by decide +kernel
theorem dX6_wants_105 : decode cX6_wants 105 = .ok (.bipush 126, 2) := by decide +kernel
theorem dX6_wants_107 : decode cX6_wants 107 = .ok (.iaload, 1) := by decide +kernel
theorem dX6_wants_108 : decode cX6_wants 108 = .ok (.iload_n 1, 1) := by decide +kernel
theorem dX6_wants_109 : decode cX6_wants 109 = .ok (.if_icmp .ne 11, 3) := by decide +kernel
theorem dX6_wants_112 : decode cX6_wants 112 = .ok (.aload_n 0, 1) := by decide +kernel
theorem dX6_wants_113 : decode cX6_wants 113 = .ok (.iload_n 1, 1) := by decide +kernel
theorem dX6_wants_114 : decode cX6_wants 114 = .ok (.invokevirtual 84, 3) := by decide +kernel
theorem dX6_wants_117 : decode cX6_wants 117 = .ok (.goto 48, 3) := by decide +kernel
theorem dX6_wants_120 : decode cX6_wants 120 = .ok (.aload_n 0, 1) := by decide +kernel
theorem dX6_wants_121 : decode cX6_wants 121 = .ok (.getfield 17, 3) := by decide +kernel
theorem dX6_wants_124 : decode cX6_wants 124 = .ok (.iload_n 2, 1) := by decide +kernel
theorem dX6_wants_125 : decode cX6_wants 125 = .ok (.bipush 14, 2) := by decide +kernel
theorem dX6_wants_127 : decode cX6_wants 127 = .ok (.iadd, 1) := by decide +kernel
theorem dX6_wants_128 : decode cX6_wants 128 = .ok (.iload_n 1, 1) := by decide +kernel
theorem dX6_wants_129 : decode cX6_wants 129 = .ok (.iadd, 1) := by decide +kernel
theorem dX6_wants_130 : decode cX6_wants 130 = .ok (.dup2, 1) := by decide +kernel
theorem dX6_wants_131 : decode cX6_wants 131 = .ok (.iaload, 1) := by decide +kernel
theorem dX6_wants_132 : decode cX6_wants 132 = .ok (.iconst 1, 1) := by decide +kernel
theorem dX6_wants_133 : decode cX6_wants 133 = .ok (.iadd, 1) := by decide +kernel
theorem dX6_wants_134 : decode cX6_wants 134 = .ok (.iastore, 1) := by decide +kernel
theorem dX6_wants_135 : decode cX6_wants 135 = .ok (.aload_n 0, 1) := by decide +kernel
theorem dX6_wants_136 : decode cX6_wants 136 = .ok (.iload_n 1, 1) := by decide +kernel
theorem dX6_wants_137 : decode cX6_wants 137 = .ok (.aload_n 0, 1) := by decide +kernel
theorem dX6_wants_138 : decode cX6_wants 138 = .ok (.getfield 17, 3) := by decide +kernel
theorem dX6_wants_141 : decode cX6_wants 141 = .ok (.iload_n 2, 1) := by decide +kernel
theorem dX6_wants_142 : decode cX6_wants 142 = .ok (.bipush 14, 2) := by decide +kernel
theorem dX6_wants_144 : decode cX6_wants 144 = .ok (.iadd, 1) := by decide +kernel
theorem dX6_wants_145 : decode cX6_wants 145 = .ok (.iload_n 1, 1) := by decide +kernel
theorem dX6_wants_146 : decode cX6_wants 146 = .ok (.iadd, 1) := by decide +kernel
theorem dX6_wants_147 : decode cX6_wants 147 = .ok (.iaload, 1) := by decide +kernel
theorem dX6_wants_148 : decode cX6_wants 148 = .ok (.invokevirtual 88, 3) := by decide +kernel
theorem dX6_wants_151 : decode cX6_wants 151 = .ok (.goto 14, 3) := by decide +kernel
theorem dX6_wants_154 : decode cX6_wants 154 = .ok (.aload_n 0, 1) := by decide +kernel
theorem dX6_wants_155 : decode cX6_wants 155 = .ok (.iload_n 1, 1) := by decide +kernel
theorem dX6_wants_156 : decode cX6_wants 156 = .ok (.iload_n 1, 1) := by decide +kernel
theorem dX6_wants_157 : decode cX6_wants 157 = .ok (.invokevirtual 92, 3) := by decide +kernel
theorem dX6_wants_160 : decode cX6_wants 160 = .ok (.aload_n 0, 1) := by decide +kernel
theorem dX6_wants_161 : decode cX6_wants 161 = .ok (.iload_n 1, 1) := by decide +kernel
theorem dX6_wants_162 : decode cX6_wants 162 = .ok (.invokevirtual 95, 3) := by decide +kernel
theorem dX6_wants_165 : decode cX6_wants 165 = .ok (.return_, 1) := by decide +kernel
theorem dX6_isRowed_0 : decode cX6_isRowed 0 = .ok (.iconst 0, 1) := by decide +kernel
theorem dX6_isRowed_1 : decode cX6_isRowed 1 = .ok (.istore_n 2, 1) := by decide +kernel
theorem dX6_isRowed_2 : decode cX6_isRowed 2 = .ok (.iconst 0, 1) := by decide +kernel
theorem dX6_isRowed_3 : decode cX6_isRowed 3 = .ok (.istore_n 3, 1) := by decide +kernel
theorem dX6_isRowed_4 : decode cX6_isRowed 4 = .ok (.iload_n 3, 1) := by decide +kernel
theorem dX6_isRowed_5 : decode cX6_isRowed 5 = .ok (.aload_n 0, 1) := by decide +kernel
theorem dX6_isRowed_6 : decode cX6_isRowed 6 = .ok (.getfield 17, 3) := by decide +kernel
theorem dX6_isRowed_9 : decode cX6_isRowed 9 = .ok (.sipush 133, 3) := by decide +kernel
theorem dX6_isRowed_12 : decode cX6_isRowed 12 = .ok (.iaload, 1) := by decide +kernel
theorem dX6_isRowed_13 : decode cX6_isRowed 13 = .ok (.if_icmp .ge 33, 3) := by decide +kernel
theorem dX6_isRowed_16 : decode cX6_isRowed 16 = .ok (.iload_n 2, 1) := by decide +kernel
theorem dX6_isRowed_17 : decode cX6_isRowed 17 = .ok (.ifCond .ne 17, 3) := by decide +kernel
theorem dX6_isRowed_20 : decode cX6_isRowed 20 = .ok (.aload_n 0, 1) := by decide +kernel
theorem dX6_isRowed_21 : decode cX6_isRowed 21 = .ok (.getfield 17, 3) := by decide +kernel
theorem dX6_isRowed_24 : decode cX6_isRowed 24 = .ok (.sipush 134, 3) := by decide +kernel
theorem dX6_isRowed_27 : decode cX6_isRowed 27 = .ok (.iload_n 3, 1) := by decide +kernel
theorem dX6_isRowed_28 : decode cX6_isRowed 28 = .ok (.iadd, 1) := by decide +kernel
theorem dX6_isRowed_29 : decode cX6_isRowed 29 = .ok (.iaload, 1) := by decide +kernel
theorem dX6_isRowed_30 : decode cX6_isRowed 30 = .ok (.iload_n 1, 1) := by decide +kernel
theorem dX6_isRowed_31 : decode cX6_isRowed 31 = .ok (.if_icmp .ne 7, 3) := by decide +kernel
theorem dX6_isRowed_34 : decode cX6_isRowed 34 = .ok (.iconst 1, 1) := by decide +kernel
theorem dX6_isRowed_35 : decode cX6_isRowed 35 = .ok (.goto 4, 3) := by decide +kernel
theorem dX6_isRowed_38 : decode cX6_isRowed 38 = .ok (.iconst 0, 1) := by decide +kernel
theorem dX6_isRowed_39 : decode cX6_isRowed 39 = .ok (.istore_n 2, 1) := by decide +kernel
theorem dX6_isRowed_40 : decode cX6_isRowed 40 = .ok (.iinc 3 1, 3) := by decide +kernel
theorem dX6_isRowed_43 : decode cX6_isRowed 43 = .ok (.goto (-39), 3) := by decide +kernel
theorem dX6_isRowed_46 : decode cX6_isRowed 46 = .ok (.iload_n 2, 1) := by decide +kernel
theorem dX6_isRowed_47 : decode cX6_isRowed 47 = .ok (.ireturn, 1) := by decide +kernel
theorem dX6_passToken_0 : decode cX6_passToken 0 = .ok (.aload_n 0, 1) := by decide +kernel
theorem dX6_passToken_1 : decode cX6_passToken 1 = .ok (.getfield 17, 3) := by decide +kernel
theorem dX6_passToken_4 : decode cX6_passToken 4 = .ok (.bipush 126, 2) := by decide +kernel
theorem dX6_passToken_6 : decode cX6_passToken 6 = .ok (.bipush (-4), 2) := by decide +kernel
theorem dX6_passToken_8 : decode cX6_passToken 8 = .ok (.iastore, 1) := by decide +kernel
theorem dX6_passToken_9 : decode cX6_passToken 9 = .ok (.aload_n 0, 1) := by decide +kernel
theorem dX6_passToken_10 : decode cX6_passToken 10 = .ok (.iload_n 1, 1) := by decide +kernel
theorem dX6_passToken_11 : decode cX6_passToken 11 = .ok (.iload_n 2, 1) := by decide +kernel
theorem dX6_passToken_12 : decode cX6_passToken 12 = .ok (.iconst 2, 1) := by decide +kernel
theorem dX6_passToken_13 : decode cX6_passToken 13 = .ok (.iconst 0, 1) := by decide +kernel
theorem dX6_passToken_14 : decode cX6_passToken 14 = .ok (.invokevirtual 76, 3) := by decide +kernel
theorem dX6_passToken_17 : decode cX6_passToken 17 = .ok (.return_, 1) := by decide +kernel
theorem dX6_leaves_0 : decode cX6_leaves 0 = .ok (.bipush 21, 2) := by decide +kernel
theorem dX6_leaves_2 : decode cX6_leaves 2 = .ok (.iload_n 1, 1) := by decide +kernel
theorem dX6_leaves_3 : decode cX6_leaves 3 = .ok (.imul, 1) := by decide +kernel
theorem dX6_leaves_4 : decode cX6_leaves 4 = .ok (.istore_n 2, 1) := by decide +kernel
theorem dX6_leaves_5 : decode cX6_leaves 5 = .ok (.aload_n 0, 1) := by decide +kernel
theorem dX6_leaves_6 : decode cX6_leaves 6 = .ok (.getfield 17, 3) := by decide +kernel
theorem dX6_leaves_9 : decode cX6_leaves 9 = .ok (.iload_n 2, 1) := by decide +kernel
theorem dX6_leaves_10 : decode cX6_leaves 10 = .ok (.iconst 0, 1) := by decide +kernel
theorem dX6_leaves_11 : decode cX6_leaves 11 = .ok (.iadd, 1) := by decide +kernel
theorem dX6_leaves_12 : decode cX6_leaves 12 = .ok (.iconst 0, 1) := by decide +kernel
theorem dX6_leaves_13 : decode cX6_leaves 13 = .ok (.iastore, 1) := by decide +kernel
theorem dX6_leaves_14 : decode cX6_leaves 14 = .ok (.aload_n 0, 1) := by decide +kernel
theorem dX6_leaves_15 : decode cX6_leaves 15 = .ok (.getfield 66, 3) := by decide +kernel
theorem dX6_leaves_18 : decode cX6_leaves 18 = .ok (.ifCond .ne 61, 3) := by decide +kernel
theorem dX6_leaves_21 : decode cX6_leaves 21 = .ok (.aload_n 0, 1) := by decide +kernel
theorem dX6_leaves_22 : decode cX6_leaves 22 = .ok (.getfield 17, 3) := by decide +kernel
theorem dX6_leaves_25 : decode cX6_leaves 25 = .ok (.iload_n 2, 1) := by decide +kernel
theorem dX6_leaves_26 : decode cX6_leaves 26 = .ok (.iconst 4, 1) := by decide +kernel
theorem dX6_leaves_27 : decode cX6_leaves 27 = .ok (.iadd, 1) := by decide +kernel
theorem dX6_leaves_28 : decode cX6_leaves 28 = .ok (.iaload, 1) := by decide +kernel
theorem dX6_leaves_29 : decode cX6_leaves 29 = .ok (.istore_n 3, 1) := by decide +kernel
theorem dX6_leaves_30 : decode cX6_leaves 30 = .ok (.aload_n 0, 1) := by decide +kernel
theorem dX6_leaves_31 : decode cX6_leaves 31 = .ok (.getfield 17, 3) := by decide +kernel
theorem dX6_leaves_34 : decode cX6_leaves 34 = .ok (.iload_n 2, 1) := by decide +kernel
theorem dX6_leaves_35 : decode cX6_leaves 35 = .ok (.iconst 4, 1) := by decide +kernel
theorem dX6_leaves_36 : decode cX6_leaves 36 = .ok (.iadd, 1) := by decide +kernel
theorem dX6_leaves_37 : decode cX6_leaves 37 = .ok (.iconst 0, 1) := by decide +kernel
theorem dX6_leaves_38 : decode cX6_leaves 38 = .ok (.iastore, 1) := by decide +kernel
theorem dX6_leaves_39 : decode cX6_leaves 39 = .ok (.iconst 0, 1) := by decide +kernel
theorem dX6_leaves_40 : decode cX6_leaves 40 = .ok (.istore 4, 2) := by decide +kernel
theorem dX6_leaves_42 : decode cX6_leaves 42 = .ok (.iload 4, 2) := by decide +kernel
theorem dX6_leaves_44 : decode cX6_leaves 44 = .ok (.aload_n 0, 1) := by decide +kernel
theorem dX6_leaves_45 : decode cX6_leaves 45 = .ok (.getfield 7, 3) := by decide +kernel
theorem dX6_leaves_48 : decode cX6_leaves 48 = .ok (.if_icmp .ge 28, 3) := by decide +kernel
theorem dX6_leaves_51 : decode cX6_leaves 51 = .ok (.iload_n 3, 1) := by decide +kernel
theorem dX6_leaves_52 : decode cX6_leaves 52 = .ok (.iload 4, 2) := by decide +kernel
theorem dX6_leaves_54 : decode cX6_leaves 54 = .ok (.ishr, 1) := by decide +kernel
theorem dX6_leaves_55 : decode cX6_leaves 55 = .ok (.iconst 1, 1) := by decide +kernel
theorem dX6_leaves_56 : decode cX6_leaves 56 = .ok (.iand, 1) := by decide +kernel
theorem dX6_leaves_57 : decode cX6_leaves 57 = .ok (.iconst 1, 1) := by decide +kernel
theorem dX6_leaves_58 : decode cX6_leaves 58 = .ok (.if_icmp .ne 12, 3) := by decide +kernel
theorem dX6_leaves_61 : decode cX6_leaves 61 = .ok (.aload_n 0, 1) := by decide +kernel
theorem dX6_leaves_62 : decode cX6_leaves 62 = .ok (.iload_n 1, 1) := by decide +kernel
theorem dX6_leaves_63 : decode cX6_leaves 63 = .ok (.iload 4, 2) := by decide +kernel
theorem dX6_leaves_65 : decode cX6_leaves 65 = .ok (.iconst 1, 1) := by decide +kernel
theorem dX6_leaves_66 : decode cX6_leaves 66 = .ok (.iconst 0, 1) := by decide +kernel
theorem dX6_leaves_67 : decode cX6_leaves 67 = .ok (.invokevirtual 76, 3) := by decide +kernel
theorem dX6_leaves_70 : decode cX6_leaves 70 = .ok (.iinc 4 1, 3) := by decide +kernel
theorem dX6_leaves_73 : decode cX6_leaves 73 = .ok (.goto (-31), 3) := by decide +kernel
theorem dX6_leaves_76 : decode cX6_leaves 76 = .ok (.goto 204, 3) := by decide +kernel
theorem dX6_leaves_79 : decode cX6_leaves 79 = .ok (.aload_n 0, 1) := by decide +kernel
theorem dX6_leaves_80 : decode cX6_leaves 80 = .ok (.getfield 66, 3) := by decide +kernel
theorem dX6_leaves_83 : decode cX6_leaves 83 = .ok (.iconst 1, 1) := by decide +kernel
theorem dX6_leaves_84 : decode cX6_leaves 84 = .ok (.if_icmp .ne 191, 3) := by decide +kernel
theorem dX6_leaves_87 : decode cX6_leaves 87 = .ok (.aload_n 0, 1) := by decide +kernel
theorem dX6_leaves_88 : decode cX6_leaves 88 = .ok (.getfield 17, 3) := by decide +kernel
theorem dX6_leaves_91 : decode cX6_leaves 91 = .ok (.bipush 127, 2) := by decide +kernel
theorem dX6_leaves_93 : decode cX6_leaves 93 = .ok (.iload_n 1, 1) := by decide +kernel
theorem dX6_leaves_94 : decode cX6_leaves 94 = .ok (.iadd, 1) := by decide +kernel
theorem dX6_leaves_95 : decode cX6_leaves 95 = .ok (.aload_n 0, 1) := by decide +kernel
theorem dX6_leaves_96 : decode cX6_leaves 96 = .ok (.getfield 17, 3) := by decide +kernel
theorem dX6_leaves_99 : decode cX6_leaves 99 = .ok (.iload_n 2, 1) := by decide +kernel
theorem dX6_leaves_100 : decode cX6_leaves 100 = .ok (.bipush 14, 2) := by decide +kernel
theorem dX6_leaves_102 : decode cX6_leaves 102 = .ok (.iadd, 1) := by decide +kernel
theorem dX6_leaves_103 : decode cX6_leaves 103 = .ok (.iload_n 1, 1) := by decide +kernel
theorem dX6_leaves_104 : decode cX6_leaves 104 = .ok (.iadd, 1) := by decide +kernel
theorem dX6_leaves_105 : decode cX6_leaves 105 = .ok (.iaload, 1) := by decide +kernel
theorem dX6_leaves_106 : decode cX6_leaves 106 = .ok (.iastore, 1) := by decide +kernel
theorem dX6_leaves_107 : decode cX6_leaves 107 = .ok (.iconst 0, 1) := by decide +kernel
theorem dX6_leaves_108 : decode cX6_leaves 108 = .ok (.istore_n 3, 1) := by decide +kernel
theorem dX6_leaves_109 : decode cX6_leaves 109 = .ok (.iload_n 3, 1) := by decide +kernel
theorem dX6_leaves_110 : decode cX6_leaves 110 = .ok (.aload_n 0, 1) := by decide +kernel
theorem dX6_leaves_111 : decode cX6_leaves 111 = .ok (.getfield 7, 3) := by decide +kernel
theorem dX6_leaves_114 : decode cX6_leaves 114 = .ok (.if_icmp .ge 72, 3) := by decide +kernel
theorem dX6_leaves_117 : decode cX6_leaves 117 = .ok (.aload_n 0, 1) := by decide +kernel
theorem dX6_leaves_118 : decode cX6_leaves 118 = .ok (.iload_n 3, 1) := by decide +kernel
theorem dX6_leaves_119 : decode cX6_leaves 119 = .ok (.invokevirtual 98, 3) := by decide +kernel
theorem dX6_leaves_122 : decode cX6_leaves 122 = .ok (.ifCond .ne 58, 3) := by decide +kernel
theorem dX6_leaves_125 : decode cX6_leaves 125 = .ok (.aload_n 0, 1) := by decide +kernel
theorem dX6_leaves_126 : decode cX6_leaves 126 = .ok (.getfield 17, 3) := by decide +kernel
theorem dX6_leaves_129 : decode cX6_leaves 129 = .ok (.iload_n 2, 1) := by decide +kernel
theorem dX6_leaves_130 : decode cX6_leaves 130 = .ok (.bipush 14, 2) := by decide +kernel
theorem dX6_leaves_132 : decode cX6_leaves 132 = .ok (.iadd, 1) := by decide +kernel
theorem dX6_leaves_133 : decode cX6_leaves 133 = .ok (.iload_n 3, 1) := by decide +kernel
theorem dX6_leaves_134 : decode cX6_leaves 134 = .ok (.iadd, 1) := by decide +kernel
theorem dX6_leaves_135 : decode cX6_leaves 135 = .ok (.iaload, 1) := by decide +kernel
theorem dX6_leaves_136 : decode cX6_leaves 136 = .ok (.aload_n 0, 1) := by decide +kernel
theorem dX6_leaves_137 : decode cX6_leaves 137 = .ok (.getfield 17, 3) := by decide +kernel
theorem dX6_leaves_140 : decode cX6_leaves 140 = .ok (.bipush 127, 2) := by decide +kernel
theorem dX6_leaves_142 : decode cX6_leaves 142 = .ok (.iload_n 3, 1) := by decide +kernel
theorem dX6_leaves_143 : decode cX6_leaves 143 = .ok (.iadd, 1) := by decide +kernel
theorem dX6_leaves_144 : decode cX6_leaves 144 = .ok (.iaload, 1) := by decide +kernel
theorem dX6_leaves_145 : decode cX6_leaves 145 = .ok (.iconst 1, 1) := by decide +kernel
theorem dX6_leaves_146 : decode cX6_leaves 146 = .ok (.iadd, 1) := by decide +kernel
theorem dX6_leaves_147 : decode cX6_leaves 147 = .ok (.if_icmp .ne 33, 3) := by decide +kernel
theorem dX6_leaves_150 : decode cX6_leaves 150 = .ok (.aload_n 0, 1) := by decide +kernel
theorem dX6_leaves_151 : decode cX6_leaves 151 = .ok (.getfield 17, 3) := by decide +kernel
theorem dX6_leaves_154 : decode cX6_leaves 154 = .ok (.sipush 134, 3) := by decide +kernel
theorem dX6_leaves_157 : decode cX6_leaves 157 = .ok (.aload_n 0, 1) := by decide +kernel
theorem dX6_leaves_158 : decode cX6_leaves 158 = .ok (.getfield 17, 3) := by decide +kernel
theorem dX6_leaves_161 : decode cX6_leaves 161 = .ok (.sipush 133, 3) := by decide +kernel
theorem dX6_leaves_164 : decode cX6_leaves 164 = .ok (.iaload, 1) := by decide +kernel
theorem dX6_leaves_165 : decode cX6_leaves 165 = .ok (.iadd, 1) := by decide +kernel
theorem dX6_leaves_166 : decode cX6_leaves 166 = .ok (.iload_n 3, 1) := by decide +kernel
theorem dX6_leaves_167 : decode cX6_leaves 167 = .ok (.iastore, 1) := by decide +kernel
theorem dX6_leaves_168 : decode cX6_leaves 168 = .ok (.aload_n 0, 1) := by decide +kernel
theorem dX6_leaves_169 : decode cX6_leaves 169 = .ok (.getfield 17, 3) := by decide +kernel
theorem dX6_leaves_172 : decode cX6_leaves 172 = .ok (.sipush 133, 3) := by decide +kernel
theorem dX6_leaves_175 : decode cX6_leaves 175 = .ok (.dup2, 1) := by decide +kernel
theorem dX6_leaves_176 : decode cX6_leaves 176 = .ok (.iaload, 1) := by decide +kernel
theorem dX6_leaves_177 : decode cX6_leaves 177 = .ok (.iconst 1, 1) := by decide +kernel
theorem dX6_leaves_178 : decode cX6_leaves 178 = .ok (.iadd, 1) := by decide +kernel
theorem dX6_leaves_179 : decode cX6_leaves 179 = .ok (.iastore, 1) := by decide +kernel
theorem dX6_leaves_180 : decode cX6_leaves 180 = .ok (.iinc 3 1, 3) := by decide +kernel
theorem dX6_leaves_183 : decode cX6_leaves 183 = .ok (.goto (-74), 3) := by decide +kernel
theorem dX6_leaves_186 : decode cX6_leaves 186 = .ok (.aload_n 0, 1) := by decide +kernel
theorem dX6_leaves_187 : decode cX6_leaves 187 = .ok (.getfield 17, 3) := by decide +kernel
theorem dX6_leaves_190 : decode cX6_leaves 190 = .ok (.sipush 133, 3) := by decide +kernel
theorem dX6_leaves_193 : decode cX6_leaves 193 = .ok (.iaload, 1) := by decide +kernel
theorem dX6_leaves_194 : decode cX6_leaves 194 = .ok (.ifCond .le 86, 3) := by decide +kernel
theorem dX6_leaves_197 : decode cX6_leaves 197 = .ok (.aload_n 0, 1) := by decide +kernel
theorem dX6_leaves_198 : decode cX6_leaves 198 = .ok (.getfield 17, 3) := by decide +kernel
theorem dX6_leaves_201 : decode cX6_leaves 201 = .ok (.sipush 134, 3) := by decide +kernel
theorem dX6_leaves_204 : decode cX6_leaves 204 = .ok (.iaload, 1) := by decide +kernel
theorem dX6_leaves_205 : decode cX6_leaves 205 = .ok (.istore_n 3, 1) := by decide +kernel
theorem dX6_leaves_206 : decode cX6_leaves 206 = .ok (.iconst 0, 1) := by decide +kernel
theorem dX6_leaves_207 : decode cX6_leaves 207 = .ok (.istore 4, 2) := by decide +kernel
theorem dX6_leaves_209 : decode cX6_leaves 209 = .ok (.iload 4, 2) := by decide +kernel
theorem dX6_leaves_211 : decode cX6_leaves 211 = .ok (.iconst 5, 1) := by decide +kernel
theorem dX6_leaves_212 : decode cX6_leaves 212 = .ok (.if_icmp .ge 33, 3) := by decide +kernel
theorem dX6_leaves_215 : decode cX6_leaves 215 = .ok (.aload_n 0, 1) := by decide +kernel
theorem dX6_leaves_216 : decode cX6_leaves 216 = .ok (.getfield 17, 3) := by decide +kernel
theorem dX6_leaves_219 : decode cX6_leaves 219 = .ok (.sipush 134, 3) := by decide +kernel
theorem dX6_leaves_222 : decode cX6_leaves 222 = .ok (.iload 4, 2) := by decide +kernel
theorem dX6_leaves_224 : decode cX6_leaves 224 = .ok (.iadd, 1) := by decide +kernel
theorem dX6_leaves_225 : decode cX6_leaves 225 = .ok (.aload_n 0, 1) := by decide +kernel
theorem dX6_leaves_226 : decode cX6_leaves 226 = .ok (.getfield 17, 3) := by decide +kernel
theorem dX6_leaves_229 : decode cX6_leaves 229 = .ok (.sipush 134, 3) := by decide +kernel
theorem dX6_leaves_232 : decode cX6_leaves 232 = .ok (.iload 4, 2) := by decide +kernel
theorem dX6_leaves_234 : decode cX6_leaves 234 = .ok (.iadd, 1) := by decide +kernel
theorem dX6_leaves_235 : decode cX6_leaves 235 = .ok (.iconst 1, 1) := by decide +kernel
theorem dX6_leaves_236 : decode cX6_leaves 236 = .ok (.iadd, 1) := by decide +kernel
theorem dX6_leaves_237 : decode cX6_leaves 237 = .ok (.iaload, 1) := by decide +kernel
theorem dX6_leaves_238 : decode cX6_leaves 238 = .ok (.iastore, 1) := by decide +kernel
theorem dX6_leaves_239 : decode cX6_leaves 239 = .ok (.iinc 4 1, 3) := by decide +kernel
theorem dX6_leaves_242 : decode cX6_leaves 242 = .ok (.goto (-33), 3) := by decide +kernel
theorem dX6_leaves_245 : decode cX6_leaves 245 = .ok (.aload_n 0, 1) := by decide +kernel
theorem dX6_leaves_246 : decode cX6_leaves 246 = .ok (.getfield 17, 3) := by decide +kernel
theorem dX6_leaves_249 : decode cX6_leaves 249 = .ok (.sipush 139, 3) := by decide +kernel
theorem dX6_leaves_252 : decode cX6_leaves 252 = .ok (.iconst 0, 1) := by decide +kernel
theorem dX6_leaves_253 : decode cX6_leaves 253 = .ok (.iastore, 1) := by decide +kernel
theorem dX6_leaves_254 : decode cX6_leaves 254 = .ok (.aload_n 0, 1) := by decide +kernel
theorem dX6_leaves_255 : decode cX6_leaves 255 = .ok (.getfield 17, 3) := by decide +kernel
theorem dX6_leaves_258 : decode cX6_leaves 258 = .ok (.sipush 133, 3) := by decide +kernel
theorem dX6_leaves_261 : decode cX6_leaves 261 = .ok (.dup2, 1) := by decide +kernel
theorem dX6_leaves_262 : decode cX6_leaves 262 = .ok (.iaload, 1) := by decide +kernel
theorem dX6_leaves_263 : decode cX6_leaves 263 = .ok (.iconst 1, 1) := by decide +kernel
theorem dX6_leaves_264 : decode cX6_leaves 264 = .ok (.isub, 1) := by decide +kernel
theorem dX6_leaves_265 : decode cX6_leaves 265 = .ok (.iastore, 1) := by decide +kernel
theorem dX6_leaves_266 : decode cX6_leaves 266 = .ok (.aload_n 0, 1) := by decide +kernel
theorem dX6_leaves_267 : decode cX6_leaves 267 = .ok (.iload_n 1, 1) := by decide +kernel
theorem dX6_leaves_268 : decode cX6_leaves 268 = .ok (.iload_n 3, 1) := by decide +kernel
theorem dX6_leaves_269 : decode cX6_leaves 269 = .ok (.invokevirtual 102, 3) := by decide +kernel
theorem dX6_leaves_272 : decode cX6_leaves 272 = .ok (.goto 8, 3) := by decide +kernel
theorem dX6_leaves_275 : decode cX6_leaves 275 = .ok (.aload_n 0, 1) := by decide +kernel
theorem dX6_leaves_276 : decode cX6_leaves 276 = .ok (.iload_n 1, 1) := by decide +kernel
theorem dX6_leaves_277 : decode cX6_leaves 277 = .ok (.invokevirtual 95, 3) := by decide +kernel
theorem dX6_leaves_280 : decode cX6_leaves 280 = .ok (.return_, 1) := by decide +kernel
theorem dX6_askedComes_0 : decode cX6_askedComes 0 = .ok (.bipush 21, 2) := by decide +kernel
theorem dX6_askedComes_2 : decode cX6_askedComes 2 = .ok (.iload_n 1, 1) := by decide +kernel
theorem dX6_askedComes_3 : decode cX6_askedComes 3 = .ok (.imul, 1) := by decide +kernel
theorem dX6_askedComes_4 : decode cX6_askedComes 4 = .ok (.istore 4, 2) := by decide +kernel
theorem dX6_askedComes_6 : decode cX6_askedComes 6 = .ok (.aload_n 0, 1) := by decide +kernel
theorem dX6_askedComes_7 : decode cX6_askedComes 7 = .ok (.getfield 66, 3) := by decide +kernel
theorem dX6_askedComes_10 : decode cX6_askedComes 10 = .ok (.ifCond .ne 135, 3) := by decide +kernel
theorem dX6_askedComes_13 : decode cX6_askedComes 13 = .ok (.aload_n 0, 1) := by decide +kernel
theorem dX6_askedComes_14 : decode cX6_askedComes 14 = .ok (.getfield 17, 3) := by decide +kernel
theorem dX6_askedComes_17 : decode cX6_askedComes 17 = .ok (.iload 4, 2) := by decide +kernel
theorem dX6_askedComes_19 : decode cX6_askedComes 19 = .ok (.iconst 2, 1) := by decide +kernel
theorem dX6_askedComes_20 : decode cX6_askedComes 20 = .ok (.iadd, 1) := by decide +kernel
theorem dX6_askedComes_21 : decode cX6_askedComes 21 = .ok (.iaload, 1) := by decide +kernel
theorem dX6_askedComes_22 : decode cX6_askedComes 22 = .ok (.istore 5, 2) := by decide +kernel
theorem dX6_askedComes_24 : decode cX6_askedComes 24 = .ok (.aload_n 0, 1) := by decide +kernel
theorem dX6_askedComes_25 : decode cX6_askedComes 25 = .ok (.getfield 17, 3) := by decide +kernel
theorem dX6_askedComes_28 : decode cX6_askedComes 28 = .ok (.iload 4, 2) := by decide +kernel
theorem dX6_askedComes_30 : decode cX6_askedComes 30 = .ok (.iconst 1, 1) := by decide +kernel
theorem dX6_askedComes_31 : decode cX6_askedComes 31 = .ok (.iadd, 1) := by decide +kernel
theorem dX6_askedComes_32 : decode cX6_askedComes 32 = .ok (.aload_n 0, 1) := by decide +kernel
theorem dX6_askedComes_33 : decode cX6_askedComes 33 = .ok (.getfield 17, 3) := by decide +kernel
theorem dX6_askedComes_36 : decode cX6_askedComes 36 = .ok (.iload 4, 2) := by decide +kernel
theorem dX6_askedComes_38 : decode cX6_askedComes 38 = .ok (.iconst 1, 1) := by decide +kernel
theorem dX6_askedComes_39 : decode cX6_askedComes 39 = .ok (.iadd, 1) := by decide +kernel
theorem dX6_askedComes_40 : decode cX6_askedComes 40 = .ok (.iaload, 1) := by decide +kernel
theorem dX6_askedComes_41 : decode cX6_askedComes 41 = .ok (.iload_n 3, 1) := by decide +kernel
theorem dX6_askedComes_42 : decode cX6_askedComes 42 = .ok (.if_icmp .le 15, 3) := by decide +kernel
theorem dX6_askedComes_45 : decode cX6_askedComes 45 = .ok (.aload_n 0, 1) := by decide +kernel
theorem dX6_askedComes_46 : decode cX6_askedComes 46 = .ok (.getfield 17, 3) := by decide +kernel
theorem dX6_askedComes_49 : decode cX6_askedComes 49 = .ok (.iload 4, 2) := by decide +kernel
theorem dX6_askedComes_51 : decode cX6_askedComes 51 = .ok (.iconst 1, 1) := by decide +kernel
theorem dX6_askedComes_52 : decode cX6_askedComes 52 = .ok (.iadd, 1) := by decide +kernel
theorem dX6_askedComes_53 : decode cX6_askedComes 53 = .ok (.iaload, 1) := by decide +kernel
theorem dX6_askedComes_54 : decode cX6_askedComes 54 = .ok (.goto 4, 3) := by decide +kernel
theorem dX6_askedComes_57 : decode cX6_askedComes 57 = .ok (.iload_n 3, 1) := by decide +kernel
theorem dX6_askedComes_58 : decode cX6_askedComes 58 = .ok (.iconst 1, 1) := by decide +kernel
theorem dX6_askedComes_59 : decode cX6_askedComes 59 = .ok (.iadd, 1) := by decide +kernel
theorem dX6_askedComes_60 : decode cX6_askedComes 60 = .ok (.iastore, 1) := by decide +kernel
theorem dX6_askedComes_61 : decode cX6_askedComes 61 = .ok (.aload_n 0, 1) := by decide +kernel
theorem dX6_askedComes_62 : decode cX6_askedComes 62 = .ok (.getfield 17, 3) := by decide +kernel
theorem dX6_askedComes_65 : decode cX6_askedComes 65 = .ok (.iload 4, 2) := by decide +kernel
theorem dX6_askedComes_67 : decode cX6_askedComes 67 = .ok (.iconst 0, 1) := by decide +kernel
theorem dX6_askedComes_68 : decode cX6_askedComes 68 = .ok (.iadd, 1) := by decide +kernel
theorem dX6_askedComes_69 : decode cX6_askedComes 69 = .ok (.iaload, 1) := by decide +kernel
theorem dX6_askedComes_70 : decode cX6_askedComes 70 = .ok (.iconst 1, 1) := by decide +kernel
theorem dX6_askedComes_71 : decode cX6_askedComes 71 = .ok (.if_icmp .ne 24, 3) := by decide +kernel
theorem dX6_askedComes_74 : decode cX6_askedComes 74 = .ok (.iload 5, 2) := by decide +kernel
theorem dX6_askedComes_76 : decode cX6_askedComes 76 = .ok (.iload_n 3, 1) := by decide +kernel
theorem dX6_askedComes_77 : decode cX6_askedComes 77 = .ok (.if_icmp .lt 14, 3) := by decide +kernel
theorem dX6_askedComes_80 : decode cX6_askedComes 80 = .ok (.iload 5, 2) := by decide +kernel
theorem dX6_askedComes_82 : decode cX6_askedComes 82 = .ok (.iload_n 3, 1) := by decide +kernel
theorem dX6_askedComes_83 : decode cX6_askedComes 83 = .ok (.if_icmp .ne 12, 3) := by decide +kernel
theorem dX6_askedComes_86 : decode cX6_askedComes 86 = .ok (.iload_n 1, 1) := by decide +kernel
theorem dX6_askedComes_87 : decode cX6_askedComes 87 = .ok (.iload_n 2, 1) := by decide +kernel
theorem dX6_askedComes_88 : decode cX6_askedComes 88 = .ok (.if_icmp .ge 7, 3) := by decide +kernel
theorem dX6_askedComes_91 : decode cX6_askedComes 91 = .ok (.iconst 1, 1) := by decide +kernel
theorem dX6_askedComes_92 : decode cX6_askedComes 92 = .ok (.goto 4, 3) := by decide +kernel
theorem dX6_askedComes_95 : decode cX6_askedComes 95 = .ok (.iconst 0, 1) := by decide +kernel
theorem dX6_askedComes_96 : decode cX6_askedComes 96 = .ok (.istore 6, 2) := by decide +kernel
theorem dX6_askedComes_98 : decode cX6_askedComes 98 = .ok (.aload_n 0, 1) := by decide +kernel
theorem dX6_askedComes_99 : decode cX6_askedComes 99 = .ok (.getfield 17, 3) := by decide +kernel
theorem dX6_askedComes_102 : decode cX6_askedComes 102 = .ok (.iload 4, 2) := by decide +kernel
theorem dX6_askedComes_104 : decode cX6_askedComes 104 = .ok (.iconst 0, 1) := by decide +kernel
theorem dX6_askedComes_105 : decode cX6_askedComes 105 = .ok (.iadd, 1) := by decide +kernel
theorem dX6_askedComes_106 : decode cX6_askedComes 106 = .ok (.iaload, 1) := by decide +kernel
theorem dX6_askedComes_107 : decode cX6_askedComes 107 = .ok (.iconst 2, 1) := by decide +kernel
theorem dX6_askedComes_108 : decode cX6_askedComes 108 = .ok (.if_icmp .eq 8, 3) := by decide +kernel
theorem dX6_askedComes_111 : decode cX6_askedComes 111 = .ok (.iload 6, 2) := by decide +kernel
theorem dX6_askedComes_113 : decode cX6_askedComes 113 = .ok (.ifCond .eq 21, 3) := by decide +kernel
theorem dX6_askedComes_116 : decode cX6_askedComes 116 = .ok (.aload_n 0, 1) := by decide +kernel
theorem dX6_askedComes_117 : decode cX6_askedComes 117 = .ok (.getfield 17, 3) := by decide +kernel
theorem dX6_askedComes_120 : decode cX6_askedComes 120 = .ok (.iload 4, 2) := by decide +kernel
theorem dX6_askedComes_122 : decode cX6_askedComes 122 = .ok (.iconst 4, 1) := by decide +kernel
theorem dX6_askedComes_123 : decode cX6_askedComes 123 = .ok (.iadd, 1) := by decide +kernel
theorem dX6_askedComes_124 : decode cX6_askedComes 124 = .ok (.dup2, 1) := by decide +kernel
theorem dX6_askedComes_125 : decode cX6_askedComes 125 = .ok (.iaload, 1) := by decide +kernel
theorem dX6_askedComes_126 : decode cX6_askedComes 126 = .ok (.iconst 1, 1) := by decide +kernel
theorem dX6_askedComes_127 : decode cX6_askedComes 127 = .ok (.iload_n 2, 1) := by decide +kernel
theorem dX6_askedComes_128 : decode cX6_askedComes 128 = .ok (.ishl, 1) := by decide +kernel
theorem dX6_askedComes_129 : decode cX6_askedComes 129 = .ok (.ior, 1) := by decide +kernel
theorem dX6_askedComes_130 : decode cX6_askedComes 130 = .ok (.iastore, 1) := by decide +kernel
theorem dX6_askedComes_131 : decode cX6_askedComes 131 = .ok (.goto 11, 3) := by decide +kernel
theorem dX6_askedComes_134 : decode cX6_askedComes 134 = .ok (.aload_n 0, 1) := by decide +kernel
theorem dX6_askedComes_135 : decode cX6_askedComes 135 = .ok (.iload_n 1, 1) := by decide +kernel
theorem dX6_askedComes_136 : decode cX6_askedComes 136 = .ok (.iload_n 2, 1) := by decide +kernel
theorem dX6_askedComes_137 : decode cX6_askedComes 137 = .ok (.iconst 1, 1) := by decide +kernel
theorem dX6_askedComes_138 : decode cX6_askedComes 138 = .ok (.iconst 0, 1) := by decide +kernel
theorem dX6_askedComes_139 : decode cX6_askedComes 139 = .ok (.invokevirtual 76, 3) := by decide +kernel
theorem dX6_askedComes_142 : decode cX6_askedComes 142 = .ok (.goto 113, 3) := by decide +kernel
theorem dX6_askedComes_145 : decode cX6_askedComes 145 = .ok (.aload_n 0, 1) := by decide +kernel
theorem dX6_askedComes_146 : decode cX6_askedComes 146 = .ok (.getfield 66, 3) := by decide +kernel
theorem dX6_askedComes_149 : decode cX6_askedComes 149 = .ok (.iconst 1, 1) := by decide +kernel
theorem dX6_askedComes_150 : decode cX6_askedComes 150 = .ok (.if_icmp .ne 94, 3) := by decide +kernel
theorem dX6_askedComes_153 : decode cX6_askedComes 153 = .ok (.iload 4, 2) := by decide +kernel
theorem dX6_askedComes_155 : decode cX6_askedComes 155 = .ok (.bipush 14, 2) := by decide +kernel
theorem dX6_askedComes_157 : decode cX6_askedComes 157 = .ok (.iadd, 1) := by decide +kernel
theorem dX6_askedComes_158 : decode cX6_askedComes 158 = .ok (.iload_n 2, 1) := by decide +kernel
theorem dX6_askedComes_159 : decode cX6_askedComes 159 = .ok (.iadd, 1) := by decide +kernel
theorem dX6_askedComes_160 : decode cX6_askedComes 160 = .ok (.istore 5, 2) := by decide +kernel
theorem dX6_askedComes_162 : decode cX6_askedComes 162 = .ok (.aload_n 0, 1) := by decide +kernel
theorem dX6_askedComes_163 : decode cX6_askedComes 163 = .ok (.getfield 17, 3) := by decide +kernel
theorem dX6_askedComes_166 : decode cX6_askedComes 166 = .ok (.iload 5, 2) := by decide +kernel
theorem dX6_askedComes_168 : decode cX6_askedComes 168 = .ok (.aload_n 0, 1) := by decide +kernel
theorem dX6_askedComes_169 : decode cX6_askedComes 169 = .ok (.getfield 17, 3) := by decide +kernel
theorem dX6_askedComes_172 : decode cX6_askedComes 172 = .ok (.iload 5, 2) := by decide +kernel
theorem dX6_askedComes_174 : decode cX6_askedComes 174 = .ok (.iaload, 1) := by decide +kernel
theorem dX6_askedComes_175 : decode cX6_askedComes 175 = .ok (.iload_n 3, 1) := by decide +kernel
theorem dX6_askedComes_176 : decode cX6_askedComes 176 = .ok (.if_icmp .le 13, 3) := by decide +kernel
theorem dX6_askedComes_179 : decode cX6_askedComes 179 = .ok (.aload_n 0, 1) := by decide +kernel
theorem dX6_askedComes_180 : decode cX6_askedComes 180 = .ok (.getfield 17, 3) := by decide +kernel
theorem dX6_askedComes_183 : decode cX6_askedComes 183 = .ok (.iload 5, 2) := by decide +kernel
theorem dX6_askedComes_185 : decode cX6_askedComes 185 = .ok (.iaload, 1) := by decide +kernel
theorem dX6_askedComes_186 : decode cX6_askedComes 186 = .ok (.goto 4, 3) := by decide +kernel
theorem dX6_askedComes_189 : decode cX6_askedComes 189 = .ok (.iload_n 3, 1) := by decide +kernel
theorem dX6_askedComes_190 : decode cX6_askedComes 190 = .ok (.iastore, 1) := by decide +kernel
theorem dX6_askedComes_191 : decode cX6_askedComes 191 = .ok (.aload_n 0, 1) := by decide +kernel
theorem dX6_askedComes_192 : decode cX6_askedComes 192 = .ok (.getfield 17, 3) := by decide +kernel
theorem dX6_askedComes_195 : decode cX6_askedComes 195 = .ok (.bipush 126, 2) := by decide +kernel
theorem dX6_askedComes_197 : decode cX6_askedComes 197 = .ok (.iaload, 1) := by decide +kernel
theorem dX6_askedComes_198 : decode cX6_askedComes 198 = .ok (.iload_n 1, 1) := by decide +kernel
theorem dX6_askedComes_199 : decode cX6_askedComes 199 = .ok (.if_icmp .ne 42, 3) := by decide +kernel
theorem dX6_askedComes_202 : decode cX6_askedComes 202 = .ok (.aload_n 0, 1) := by decide +kernel
theorem dX6_askedComes_203 : decode cX6_askedComes 203 = .ok (.getfield 17, 3) := by decide +kernel
theorem dX6_askedComes_206 : decode cX6_askedComes 206 = .ok (.iload 4, 2) := by decide +kernel
theorem dX6_askedComes_208 : decode cX6_askedComes 208 = .ok (.iconst 0, 1) := by decide +kernel
theorem dX6_askedComes_209 : decode cX6_askedComes 209 = .ok (.iadd, 1) := by decide +kernel
theorem dX6_askedComes_210 : decode cX6_askedComes 210 = .ok (.iaload, 1) := by decide +kernel
theorem dX6_askedComes_211 : decode cX6_askedComes 211 = .ok (.ifCond .ne 30, 3) := by decide +kernel
theorem dX6_askedComes_214 : decode cX6_askedComes 214 = .ok (.aload_n 0, 1) := by decide +kernel
theorem dX6_askedComes_215 : decode cX6_askedComes 215 = .ok (.getfield 17, 3) := by decide +kernel
theorem dX6_askedComes_218 : decode cX6_askedComes 218 = .ok (.iload 5, 2) := by decide +kernel
theorem dX6_askedComes_220 : decode cX6_askedComes 220 = .ok (.iaload, 1) := by decide +kernel
theorem dX6_askedComes_221 : decode cX6_askedComes 221 = .ok (.aload_n 0, 1) := by decide +kernel
theorem dX6_askedComes_222 : decode cX6_askedComes 222 = .ok (.getfield 17, 3) := by decide +kernel
theorem dX6_askedComes_225 : decode cX6_askedComes 225 = .ok (.bipush 127, 2) := by decide +kernel
theorem dX6_askedComes_227 : decode cX6_askedComes 227 = .ok (.iload_n 2, 1) := by decide +kernel
theorem dX6_askedComes_228 : decode cX6_askedComes 228 = .ok (.iadd, 1) := by decide +kernel
theorem dX6_askedComes_229 : decode cX6_askedComes 229 = .ok (.iaload, 1) := by decide +kernel
theorem dX6_askedComes_230 : decode cX6_askedComes 230 = .ok (.iconst 1, 1) := by decide +kernel
theorem dX6_askedComes_231 : decode cX6_askedComes 231 = .ok (.iadd, 1) := by decide +kernel
theorem dX6_askedComes_232 : decode cX6_askedComes 232 = .ok (.if_icmp .ne 9, 3) := by decide +kernel
theorem dX6_askedComes_235 : decode cX6_askedComes 235 = .ok (.aload_n 0, 1) := by decide +kernel
theorem dX6_askedComes_236 : decode cX6_askedComes 236 = .ok (.iload_n 1, 1) := by decide +kernel
theorem dX6_askedComes_237 : decode cX6_askedComes 237 = .ok (.iload_n 2, 1) := by decide +kernel
theorem dX6_askedComes_238 : decode cX6_askedComes 238 = .ok (.invokevirtual 102, 3) := by decide +kernel
theorem dX6_askedComes_241 : decode cX6_askedComes 241 = .ok (.goto 14, 3) := by decide +kernel
theorem dX6_askedComes_244 : decode cX6_askedComes 244 = .ok (.aload_n 0, 1) := by decide +kernel
theorem dX6_askedComes_245 : decode cX6_askedComes 245 = .ok (.iload_n 1, 1) := by decide +kernel
theorem dX6_askedComes_246 : decode cX6_askedComes 246 = .ok (.iload_n 2, 1) := by decide +kernel
theorem dX6_askedComes_247 : decode cX6_askedComes 247 = .ok (.invokevirtual 92, 3) := by decide +kernel
theorem dX6_askedComes_250 : decode cX6_askedComes 250 = .ok (.aload_n 0, 1) := by decide +kernel
theorem dX6_askedComes_251 : decode cX6_askedComes 251 = .ok (.iload_n 1, 1) := by decide +kernel
theorem dX6_askedComes_252 : decode cX6_askedComes 252 = .ok (.invokevirtual 95, 3) := by decide +kernel
theorem dX6_askedComes_255 : decode cX6_askedComes 255 = .ok (.return_, 1) := by decide +kernel
theorem dX6_comes_0 : decode cX6_comes 0 = .ok (.aload_n 0, 1) := by decide +kernel
theorem dX6_comes_1 : decode cX6_comes 1 = .ok (.iload_n 1, 1) := by decide +kernel
theorem dX6_comes_2 : decode cX6_comes 2 = .ok (.iload_n 2, 1) := by decide +kernel
theorem dX6_comes_3 : decode cX6_comes 3 = .ok (.invokevirtual 69, 3) := by decide +kernel
theorem dX6_comes_6 : decode cX6_comes 6 = .ok (.istore_n 3, 1) := by decide +kernel
theorem dX6_comes_7 : decode cX6_comes 7 = .ok (.aload_n 0, 1) := by decide +kernel
theorem dX6_comes_8 : decode cX6_comes 8 = .ok (.getfield 17, 3) := by decide +kernel
theorem dX6_comes_11 : decode cX6_comes 11 = .ok (.iload_n 3, 1) := by decide +kernel
theorem dX6_comes_12 : decode cX6_comes 12 = .ok (.iconst 1, 1) := by decide +kernel
theorem dX6_comes_13 : decode cX6_comes 13 = .ok (.iadd, 1) := by decide +kernel
theorem dX6_comes_14 : decode cX6_comes 14 = .ok (.iaload, 1) := by decide +kernel
theorem dX6_comes_15 : decode cX6_comes 15 = .ok (.istore 4, 2) := by decide +kernel
theorem dX6_comes_17 : decode cX6_comes 17 = .ok (.aload_n 0, 1) := by decide +kernel
theorem dX6_comes_18 : decode cX6_comes 18 = .ok (.getfield 17, 3) := by decide +kernel
theorem dX6_comes_21 : decode cX6_comes 21 = .ok (.iload_n 3, 1) := by decide +kernel
theorem dX6_comes_22 : decode cX6_comes 22 = .ok (.iconst 2, 1) := by decide +kernel
theorem dX6_comes_23 : decode cX6_comes 23 = .ok (.iadd, 1) := by decide +kernel
theorem dX6_comes_24 : decode cX6_comes 24 = .ok (.iaload, 1) := by decide +kernel
theorem dX6_comes_25 : decode cX6_comes 25 = .ok (.istore 5, 2) := by decide +kernel
theorem dX6_comes_27 : decode cX6_comes 27 = .ok (.aload_n 0, 1) := by decide +kernel
theorem dX6_comes_28 : decode cX6_comes 28 = .ok (.iload_n 3, 1) := by decide +kernel
theorem dX6_comes_29 : decode cX6_comes 29 = .ok (.invokevirtual 105, 3) := by decide +kernel
theorem dX6_comes_32 : decode cX6_comes 32 = .ok (.bipush 21, 2) := by decide +kernel
theorem dX6_comes_34 : decode cX6_comes 34 = .ok (.iload_n 2, 1) := by decide +kernel
theorem dX6_comes_35 : decode cX6_comes 35 = .ok (.imul, 1) := by decide +kernel
theorem dX6_comes_36 : decode cX6_comes 36 = .ok (.istore 6, 2) := by decide +kernel
theorem dX6_comes_38 : decode cX6_comes 38 = .ok (.iload 4, 2) := by decide +kernel
theorem dX6_comes_40 : decode cX6_comes 40 = .ok (.ifCond .ne 14, 3) := by decide +kernel
theorem dX6_comes_43 : decode cX6_comes 43 = .ok (.aload_n 0, 1) := by decide +kernel
theorem dX6_comes_44 : decode cX6_comes 44 = .ok (.iload_n 2, 1) := by decide +kernel
theorem dX6_comes_45 : decode cX6_comes 45 = .ok (.iload_n 1, 1) := by decide +kernel
theorem dX6_comes_46 : decode cX6_comes 46 = .ok (.iload 5, 2) := by decide +kernel
theorem dX6_comes_48 : decode cX6_comes 48 = .ok (.invokevirtual 108, 3) := by decide +kernel
theorem dX6_comes_51 : decode cX6_comes 51 = .ok (.goto 81, 3) := by decide +kernel
theorem dX6_comes_54 : decode cX6_comes 54 = .ok (.iload 4, 2) := by decide +kernel
theorem dX6_comes_56 : decode cX6_comes 56 = .ok (.iconst 1, 1) := by decide +kernel
theorem dX6_comes_57 : decode cX6_comes 57 = .ok (.if_icmp .ne 36, 3) := by decide +kernel
theorem dX6_comes_60 : decode cX6_comes 60 = .ok (.aload_n 0, 1) := by decide +kernel
theorem dX6_comes_61 : decode cX6_comes 61 = .ok (.getfield 17, 3) := by decide +kernel
theorem dX6_comes_64 : decode cX6_comes 64 = .ok (.iload 6, 2) := by decide +kernel
theorem dX6_comes_66 : decode cX6_comes 66 = .ok (.iconst 3, 1) := by decide +kernel
theorem dX6_comes_67 : decode cX6_comes 67 = .ok (.iadd, 1) := by decide +kernel
theorem dX6_comes_68 : decode cX6_comes 68 = .ok (.dup2, 1) := by decide +kernel
theorem dX6_comes_69 : decode cX6_comes 69 = .ok (.iaload, 1) := by decide +kernel
theorem dX6_comes_70 : decode cX6_comes 70 = .ok (.iconst 1, 1) := by decide +kernel
theorem dX6_comes_71 : decode cX6_comes 71 = .ok (.isub, 1) := by decide +kernel
theorem dX6_comes_72 : decode cX6_comes 72 = .ok (.iastore, 1) := by decide +kernel
theorem dX6_comes_73 : decode cX6_comes 73 = .ok (.aload_n 0, 1) := by decide +kernel
theorem dX6_comes_74 : decode cX6_comes 74 = .ok (.getfield 17, 3) := by decide +kernel
theorem dX6_comes_77 : decode cX6_comes 77 = .ok (.iload 6, 2) := by decide +kernel
theorem dX6_comes_79 : decode cX6_comes 79 = .ok (.iconst 3, 1) := by decide +kernel
theorem dX6_comes_80 : decode cX6_comes 80 = .ok (.iadd, 1) := by decide +kernel
theorem dX6_comes_81 : decode cX6_comes 81 = .ok (.iaload, 1) := by decide +kernel
theorem dX6_comes_82 : decode cX6_comes 82 = .ok (.ifCond .ne 50, 3) := by decide +kernel
theorem dX6_comes_85 : decode cX6_comes 85 = .ok (.aload_n 0, 1) := by decide +kernel
theorem dX6_comes_86 : decode cX6_comes 86 = .ok (.iload_n 2, 1) := by decide +kernel
theorem dX6_comes_87 : decode cX6_comes 87 = .ok (.invokevirtual 84, 3) := by decide +kernel
theorem dX6_comes_90 : decode cX6_comes 90 = .ok (.goto 42, 3) := by decide +kernel
theorem dX6_comes_93 : decode cX6_comes 93 = .ok (.aload_n 0, 1) := by decide +kernel
theorem dX6_comes_94 : decode cX6_comes 94 = .ok (.getfield 66, 3) := by decide +kernel
theorem dX6_comes_97 : decode cX6_comes 97 = .ok (.iconst 1, 1) := by decide +kernel
theorem dX6_comes_98 : decode cX6_comes 98 = .ok (.if_icmp .ne 19, 3) := by decide +kernel
theorem dX6_comes_101 : decode cX6_comes 101 = .ok (.aload_n 0, 1) := by decide +kernel
theorem dX6_comes_102 : decode cX6_comes 102 = .ok (.getfield 17, 3) := by decide +kernel
theorem dX6_comes_105 : decode cX6_comes 105 = .ok (.bipush 126, 2) := by decide +kernel
theorem dX6_comes_107 : decode cX6_comes 107 = .ok (.iload_n 2, 1) := by decide +kernel
theorem dX6_comes_108 : decode cX6_comes 108 = .ok (.iastore, 1) := by decide +kernel
theorem dX6_comes_109 : decode cX6_comes 109 = .ok (.aload_n 0, 1) := by decide +kernel
theorem dX6_comes_110 : decode cX6_comes 110 = .ok (.iload_n 2, 1) := by decide +kernel
theorem dX6_comes_111 : decode cX6_comes 111 = .ok (.invokevirtual 84, 3) := by decide +kernel
theorem dX6_comes_114 : decode cX6_comes 114 = .ok (.goto 18, 3) := by decide +kernel
theorem dX6_comes_117 : decode cX6_comes 117 = .ok (.aload_n 0, 1) := by decide +kernel
theorem dX6_comes_118 : decode cX6_comes 118 = .ok (.getfield 17, 3) := by decide +kernel
theorem dX6_comes_121 : decode cX6_comes 121 = .ok (.iload 6, 2) := by decide +kernel
theorem dX6_comes_123 : decode cX6_comes 123 = .ok (.iconst 5, 1) := by decide +kernel
theorem dX6_comes_124 : decode cX6_comes 124 = .ok (.iadd, 1) := by decide +kernel
theorem dX6_comes_125 : decode cX6_comes 125 = .ok (.iload_n 2, 1) := by decide +kernel
theorem dX6_comes_126 : decode cX6_comes 126 = .ok (.iastore, 1) := by decide +kernel
theorem dX6_comes_127 : decode cX6_comes 127 = .ok (.aload_n 0, 1) := by decide +kernel
theorem dX6_comes_128 : decode cX6_comes 128 = .ok (.iload_n 2, 1) := by decide +kernel
theorem dX6_comes_129 : decode cX6_comes 129 = .ok (.invokevirtual 95, 3) := by decide +kernel
theorem dX6_comes_132 : decode cX6_comes 132 = .ok (.iload 4, 2) := by decide +kernel
theorem dX6_comes_134 : decode cX6_comes 134 = .ok (.ireturn, 1) := by decide +kernel
theorem dX6_store_0 : decode cX6_store 0 = .ok (.iconst 0, 1) := by decide +kernel
theorem dX6_store_1 : decode cX6_store 1 = .ok (.istore_n 1, 1) := by decide +kernel
theorem dX6_store_2 : decode cX6_store 2 = .ok (.iload_n 1, 1) := by decide +kernel
theorem dX6_store_3 : decode cX6_store 3 = .ok (.sipush 1040, 3) := by decide +kernel
theorem dX6_store_6 : decode cX6_store 6 = .ok (.if_icmp .ge 21, 3) := by decide +kernel
theorem dX6_store_9 : decode cX6_store 9 = .ok (.aload_n 0, 1) := by decide +kernel
theorem dX6_store_10 : decode cX6_store 10 = .ok (.getfield 31, 3) := by decide +kernel
theorem dX6_store_13 : decode cX6_store 13 = .ok (.iload_n 1, 1) := by decide +kernel
theorem dX6_store_14 : decode cX6_store 14 = .ok (.aload_n 0, 1) := by decide +kernel
theorem dX6_store_15 : decode cX6_store 15 = .ok (.getfield 17, 3) := by decide +kernel
theorem dX6_store_18 : decode cX6_store 18 = .ok (.iload_n 1, 1) := by decide +kernel
theorem dX6_store_19 : decode cX6_store 19 = .ok (.iaload, 1) := by decide +kernel
theorem dX6_store_20 : decode cX6_store 20 = .ok (.iastore, 1) := by decide +kernel
theorem dX6_store_21 : decode cX6_store 21 = .ok (.iinc 1 1, 3) := by decide +kernel
theorem dX6_store_24 : decode cX6_store 24 = .ok (.goto (-22), 3) := by decide +kernel
theorem dX6_store_27 : decode cX6_store 27 = .ok (.iconst 0, 1) := by decide +kernel
theorem dX6_store_28 : decode cX6_store 28 = .ok (.istore_n 1, 1) := by decide +kernel
theorem dX6_store_29 : decode cX6_store 29 = .ok (.iload_n 1, 1) := by decide +kernel
theorem dX6_store_30 : decode cX6_store 30 = .ok (.sipush 190, 3) := by decide +kernel
theorem dX6_store_33 : decode cX6_store 33 = .ok (.if_icmp .ge 25, 3) := by decide +kernel
theorem dX6_store_36 : decode cX6_store 36 = .ok (.aload_n 0, 1) := by decide +kernel
theorem dX6_store_37 : decode cX6_store 37 = .ok (.getfield 31, 3) := by decide +kernel
theorem dX6_store_40 : decode cX6_store 40 = .ok (.sipush 1040, 3) := by decide +kernel
theorem dX6_store_43 : decode cX6_store 43 = .ok (.iload_n 1, 1) := by decide +kernel
theorem dX6_store_44 : decode cX6_store 44 = .ok (.iadd, 1) := by decide +kernel
theorem dX6_store_45 : decode cX6_store 45 = .ok (.aload_n 0, 1) := by decide +kernel
theorem dX6_store_46 : decode cX6_store 46 = .ok (.getfield 20, 3) := by decide +kernel
theorem dX6_store_49 : decode cX6_store 49 = .ok (.iload_n 1, 1) := by decide +kernel
theorem dX6_store_50 : decode cX6_store 50 = .ok (.iaload, 1) := by decide +kernel
theorem dX6_store_51 : decode cX6_store 51 = .ok (.iastore, 1) := by decide +kernel
theorem dX6_store_52 : decode cX6_store 52 = .ok (.iinc 1 1, 3) := by decide +kernel
theorem dX6_store_55 : decode cX6_store 55 = .ok (.goto (-26), 3) := by decide +kernel
theorem dX6_store_58 : decode cX6_store 58 = .ok (.aload_n 0, 1) := by decide +kernel
theorem dX6_store_59 : decode cX6_store 59 = .ok (.iconst 0, 1) := by decide +kernel
theorem dX6_store_60 : decode cX6_store 60 = .ok (.putfield 73, 3) := by decide +kernel
theorem dX6_store_63 : decode cX6_store 63 = .ok (.return_, 1) := by decide +kernel
theorem dX6_stands_0 : decode cX6_stands 0 = .ok (.aload_n 0, 1) := by decide +kernel
theorem dX6_stands_1 : decode cX6_stands 1 = .ok (.getfield 73, 3) := by decide +kernel
theorem dX6_stands_4 : decode cX6_stands 4 = .ok (.ifCond .eq 63, 3) := by decide +kernel
theorem dX6_stands_7 : decode cX6_stands 7 = .ok (.iconst 0, 1) := by decide +kernel
theorem dX6_stands_8 : decode cX6_stands 8 = .ok (.istore_n 1, 1) := by decide +kernel
theorem dX6_stands_9 : decode cX6_stands 9 = .ok (.iload_n 1, 1) := by decide +kernel
theorem dX6_stands_10 : decode cX6_stands 10 = .ok (.sipush 1040, 3) := by decide +kernel
theorem dX6_stands_13 : decode cX6_stands 13 = .ok (.if_icmp .ge 21, 3) := by decide +kernel
theorem dX6_stands_16 : decode cX6_stands 16 = .ok (.aload_n 0, 1) := by decide +kernel
theorem dX6_stands_17 : decode cX6_stands 17 = .ok (.getfield 17, 3) := by decide +kernel
theorem dX6_stands_20 : decode cX6_stands 20 = .ok (.iload_n 1, 1) := by decide +kernel
theorem dX6_stands_21 : decode cX6_stands 21 = .ok (.aload_n 0, 1) := by decide +kernel
theorem dX6_stands_22 : decode cX6_stands 22 = .ok (.getfield 31, 3) := by decide +kernel
theorem dX6_stands_25 : decode cX6_stands 25 = .ok (.iload_n 1, 1) := by decide +kernel
theorem dX6_stands_26 : decode cX6_stands 26 = .ok (.iaload, 1) := by decide +kernel
theorem dX6_stands_27 : decode cX6_stands 27 = .ok (.iastore, 1) := by decide +kernel
theorem dX6_stands_28 : decode cX6_stands 28 = .ok (.iinc 1 1, 3) := by decide +kernel
theorem dX6_stands_31 : decode cX6_stands 31 = .ok (.goto (-22), 3) := by decide +kernel
theorem dX6_stands_34 : decode cX6_stands 34 = .ok (.iconst 0, 1) := by decide +kernel
theorem dX6_stands_35 : decode cX6_stands 35 = .ok (.istore_n 1, 1) := by decide +kernel
theorem dX6_stands_36 : decode cX6_stands 36 = .ok (.iload_n 1, 1) := by decide +kernel
theorem dX6_stands_37 : decode cX6_stands 37 = .ok (.sipush 190, 3) := by decide +kernel
theorem dX6_stands_40 : decode cX6_stands 40 = .ok (.if_icmp .ge 25, 3) := by decide +kernel
theorem dX6_stands_43 : decode cX6_stands 43 = .ok (.aload_n 0, 1) := by decide +kernel
theorem dX6_stands_44 : decode cX6_stands 44 = .ok (.getfield 20, 3) := by decide +kernel
theorem dX6_stands_47 : decode cX6_stands 47 = .ok (.iload_n 1, 1) := by decide +kernel
theorem dX6_stands_48 : decode cX6_stands 48 = .ok (.aload_n 0, 1) := by decide +kernel
theorem dX6_stands_49 : decode cX6_stands 49 = .ok (.getfield 31, 3) := by decide +kernel
theorem dX6_stands_52 : decode cX6_stands 52 = .ok (.sipush 1040, 3) := by decide +kernel
theorem dX6_stands_55 : decode cX6_stands 55 = .ok (.iload_n 1, 1) := by decide +kernel
theorem dX6_stands_56 : decode cX6_stands 56 = .ok (.iadd, 1) := by decide +kernel
theorem dX6_stands_57 : decode cX6_stands 57 = .ok (.iaload, 1) := by decide +kernel
theorem dX6_stands_58 : decode cX6_stands 58 = .ok (.iastore, 1) := by decide +kernel
theorem dX6_stands_59 : decode cX6_stands 59 = .ok (.iinc 1 1, 3) := by decide +kernel
theorem dX6_stands_62 : decode cX6_stands 62 = .ok (.goto (-26), 3) := by decide +kernel
theorem dX6_stands_65 : decode cX6_stands 65 = .ok (.iconst 0, 1) := by decide +kernel
theorem dX6_stands_66 : decode cX6_stands 66 = .ok (.ireturn, 1) := by decide +kernel
theorem dX6_stands_67 : decode cX6_stands 67 = .ok (.aload_n 0, 1) := by decide +kernel
theorem dX6_stands_68 : decode cX6_stands 68 = .ok (.getfield 54, 3) := by decide +kernel
theorem dX6_stands_71 : decode cX6_stands 71 = .ok (.bipush 30, 2) := by decide +kernel
theorem dX6_stands_73 : decode cX6_stands 73 = .ok (.if_icmp .ne 43, 3) := by decide +kernel
theorem dX6_stands_76 : decode cX6_stands 76 = .ok (.iconst 0, 1) := by decide +kernel
theorem dX6_stands_77 : decode cX6_stands 77 = .ok (.istore_n 1, 1) := by decide +kernel
theorem dX6_stands_78 : decode cX6_stands 78 = .ok (.iload_n 1, 1) := by decide +kernel
theorem dX6_stands_79 : decode cX6_stands 79 = .ok (.ldc 112, 2) := by decide +kernel
theorem dX6_stands_81 : decode cX6_stands 81 = .ok (.if_icmp .ge 25, 3) := by decide +kernel
theorem dX6_stands_84 : decode cX6_stands 84 = .ok (.aload_n 0, 1) := by decide +kernel
theorem dX6_stands_85 : decode cX6_stands 85 = .ok (.getfield 28, 3) := by decide +kernel
theorem dX6_stands_88 : decode cX6_stands 88 = .ok (.iload_n 1, 1) := by decide +kernel
theorem dX6_stands_89 : decode cX6_stands 89 = .ok (.aload_n 0, 1) := by decide +kernel
theorem dX6_stands_90 : decode cX6_stands 90 = .ok (.getfield 28, 3) := by decide +kernel
theorem dX6_stands_93 : decode cX6_stands 93 = .ok (.iload_n 1, 1) := by decide +kernel
theorem dX6_stands_94 : decode cX6_stands 94 = .ok (.sipush 1230, 3) := by decide +kernel
theorem dX6_stands_97 : decode cX6_stands 97 = .ok (.iadd, 1) := by decide +kernel
theorem dX6_stands_98 : decode cX6_stands 98 = .ok (.iaload, 1) := by decide +kernel
theorem dX6_stands_99 : decode cX6_stands 99 = .ok (.iastore, 1) := by decide +kernel
theorem dX6_stands_100 : decode cX6_stands 100 = .ok (.iinc 1 1, 3) := by decide +kernel
theorem dX6_stands_103 : decode cX6_stands 103 = .ok (.goto (-25), 3) := by decide +kernel
theorem dX6_stands_106 : decode cX6_stands 106 = .ok (.aload_n 0, 1) := by decide +kernel
theorem dX6_stands_107 : decode cX6_stands 107 = .ok (.dup, 1) := by decide +kernel
theorem dX6_stands_108 : decode cX6_stands 108 = .ok (.getfield 54, 3) := by decide +kernel
theorem dX6_stands_111 : decode cX6_stands 111 = .ok (.iconst 1, 1) := by decide +kernel
theorem dX6_stands_112 : decode cX6_stands 112 = .ok (.isub, 1) := by decide +kernel
theorem dX6_stands_113 : decode cX6_stands 113 = .ok (.putfield 54, 3) := by decide +kernel
theorem dX6_stands_116 : decode cX6_stands 116 = .ok (.iconst 0, 1) := by decide +kernel
theorem dX6_stands_117 : decode cX6_stands 117 = .ok (.istore_n 1, 1) := by decide +kernel
theorem dX6_stands_118 : decode cX6_stands 118 = .ok (.iload_n 1, 1) := by decide +kernel
theorem dX6_stands_119 : decode cX6_stands 119 = .ok (.sipush 1230, 3) := by decide +kernel
theorem dX6_stands_122 : decode cX6_stands 122 = .ok (.if_icmp .ge 30, 3) := by decide +kernel
theorem dX6_stands_125 : decode cX6_stands 125 = .ok (.aload_n 0, 1) := by decide +kernel
theorem dX6_stands_126 : decode cX6_stands 126 = .ok (.getfield 28, 3) := by decide +kernel
theorem dX6_stands_129 : decode cX6_stands 129 = .ok (.sipush 1230, 3) := by decide +kernel
theorem dX6_stands_132 : decode cX6_stands 132 = .ok (.aload_n 0, 1) := by decide +kernel
theorem dX6_stands_133 : decode cX6_stands 133 = .ok (.getfield 54, 3) := by decide +kernel
theorem dX6_stands_136 : decode cX6_stands 136 = .ok (.imul, 1) := by decide +kernel
theorem dX6_stands_137 : decode cX6_stands 137 = .ok (.iload_n 1, 1) := by decide +kernel
theorem dX6_stands_138 : decode cX6_stands 138 = .ok (.iadd, 1) := by decide +kernel
theorem dX6_stands_139 : decode cX6_stands 139 = .ok (.aload_n 0, 1) := by decide +kernel
theorem dX6_stands_140 : decode cX6_stands 140 = .ok (.getfield 31, 3) := by decide +kernel
theorem dX6_stands_143 : decode cX6_stands 143 = .ok (.iload_n 1, 1) := by decide +kernel
theorem dX6_stands_144 : decode cX6_stands 144 = .ok (.iaload, 1) := by decide +kernel
theorem dX6_stands_145 : decode cX6_stands 145 = .ok (.iastore, 1) := by decide +kernel
theorem dX6_stands_146 : decode cX6_stands 146 = .ok (.iinc 1 1, 3) := by decide +kernel
theorem dX6_stands_149 : decode cX6_stands 149 = .ok (.goto (-31), 3) := by decide +kernel
theorem dX6_stands_152 : decode cX6_stands 152 = .ok (.aload_n 0, 1) := by decide +kernel
theorem dX6_stands_153 : decode cX6_stands 153 = .ok (.dup, 1) := by decide +kernel
theorem dX6_stands_154 : decode cX6_stands 154 = .ok (.getfield 54, 3) := by decide +kernel
theorem dX6_stands_157 : decode cX6_stands 157 = .ok (.iconst 1, 1) := by decide +kernel
theorem dX6_stands_158 : decode cX6_stands 158 = .ok (.iadd, 1) := by decide +kernel
theorem dX6_stands_159 : decode cX6_stands 159 = .ok (.putfield 54, 3) := by decide +kernel
theorem dX6_stands_162 : decode cX6_stands 162 = .ok (.aload_n 0, 1) := by decide +kernel
theorem dX6_stands_163 : decode cX6_stands 163 = .ok (.iconst 1, 1) := by decide +kernel
theorem dX6_stands_164 : decode cX6_stands 164 = .ok (.putfield 57, 3) := by decide +kernel
theorem dX6_stands_167 : decode cX6_stands 167 = .ok (.iconst 1, 1) := by decide +kernel
theorem dX6_stands_168 : decode cX6_stands 168 = .ok (.ireturn, 1) := by decide +kernel
theorem dX6_want_0 : decode cX6_want 0 = .ok (.aload_n 0, 1) := by decide +kernel
theorem dX6_want_1 : decode cX6_want 1 = .ok (.iload_n 1, 1) := by decide +kernel
theorem dX6_want_2 : decode cX6_want 2 = .ok (.invokevirtual 113, 3) := by decide +kernel
theorem dX6_want_5 : decode cX6_want 5 = .ok (.ifCond .ne 5, 3) := by decide +kernel
theorem dX6_want_8 : decode cX6_want 8 = .ok (.iconst (-1), 1) := by decide +kernel
theorem dX6_want_9 : decode cX6_want 9 = .ok (.ireturn, 1) := by decide +kernel
theorem dX6_want_10 : decode cX6_want 10 = .ok (.aload_n 0, 1) := by decide +kernel
theorem dX6_want_11 : decode cX6_want 11 = .ok (.getfield 17, 3) := by decide +kernel
theorem dX6_want_14 : decode cX6_want 14 = .ok (.bipush 21, 2) := by decide +kernel
theorem dX6_want_16 : decode cX6_want 16 = .ok (.iload_n 1, 1) := by decide +kernel
theorem dX6_want_17 : decode cX6_want 17 = .ok (.imul, 1) := by decide +kernel
theorem dX6_want_18 : decode cX6_want 18 = .ok (.iconst 0, 1) := by decide +kernel
theorem dX6_want_19 : decode cX6_want 19 = .ok (.iadd, 1) := by decide +kernel
theorem dX6_want_20 : decode cX6_want 20 = .ok (.iaload, 1) := by decide +kernel
theorem dX6_want_21 : decode cX6_want 21 = .ok (.ifCond .eq 6, 3) := by decide +kernel
theorem dX6_want_24 : decode cX6_want 24 = .ok (.bipush (-2), 2) := by decide +kernel
theorem dX6_want_26 : decode cX6_want 26 = .ok (.ireturn, 1) := by decide +kernel
theorem dX6_want_27 : decode cX6_want 27 = .ok (.aload_n 0, 1) := by decide +kernel
theorem dX6_want_28 : decode cX6_want 28 = .ok (.invokevirtual 116, 3) := by decide +kernel
theorem dX6_want_31 : decode cX6_want 31 = .ok (.aload_n 0, 1) := by decide +kernel
theorem dX6_want_32 : decode cX6_want 32 = .ok (.iload_n 1, 1) := by decide +kernel
theorem dX6_want_33 : decode cX6_want 33 = .ok (.invokevirtual 119, 3) := by decide +kernel
theorem dX6_want_36 : decode cX6_want 36 = .ok (.aload_n 0, 1) := by decide +kernel
theorem dX6_want_37 : decode cX6_want 37 = .ok (.invokevirtual 122, 3) := by decide +kernel
theorem dX6_want_40 : decode cX6_want 40 = .ok (.ifCond .ne 8, 3) := by decide +kernel
theorem dX6_want_43 : decode cX6_want 43 = .ok (.bipush (-3), 2) := by decide +kernel
theorem dX6_want_45 : decode cX6_want 45 = .ok (.goto 23, 3) := by decide +kernel
theorem dX6_want_48 : decode cX6_want 48 = .ok (.aload_n 0, 1) := by decide +kernel
theorem dX6_want_49 : decode cX6_want 49 = .ok (.getfield 17, 3) := by decide +kernel
theorem dX6_want_52 : decode cX6_want 52 = .ok (.bipush 21, 2) := by decide +kernel
theorem dX6_want_54 : decode cX6_want 54 = .ok (.iload_n 1, 1) := by decide +kernel
theorem dX6_want_55 : decode cX6_want 55 = .ok (.imul, 1) := by decide +kernel
theorem dX6_want_56 : decode cX6_want 56 = .ok (.iconst 0, 1) := by decide +kernel
theorem dX6_want_57 : decode cX6_want 57 = .ok (.iadd, 1) := by decide +kernel
theorem dX6_want_58 : decode cX6_want 58 = .ok (.iaload, 1) := by decide +kernel
theorem dX6_want_59 : decode cX6_want 59 = .ok (.iconst 2, 1) := by decide +kernel
theorem dX6_want_60 : decode cX6_want 60 = .ok (.if_icmp .ne 7, 3) := by decide +kernel
theorem dX6_want_63 : decode cX6_want 63 = .ok (.iconst 1, 1) := by decide +kernel
theorem dX6_want_64 : decode cX6_want 64 = .ok (.goto 4, 3) := by decide +kernel
theorem dX6_want_67 : decode cX6_want 67 = .ok (.iconst 0, 1) := by decide +kernel
theorem dX6_want_68 : decode cX6_want 68 = .ok (.ireturn, 1) := by decide +kernel
theorem dX6_leave_0 : decode cX6_leave 0 = .ok (.aload_n 0, 1) := by decide +kernel
theorem dX6_leave_1 : decode cX6_leave 1 = .ok (.iload_n 1, 1) := by decide +kernel
theorem dX6_leave_2 : decode cX6_leave 2 = .ok (.invokevirtual 113, 3) := by decide +kernel
theorem dX6_leave_5 : decode cX6_leave 5 = .ok (.ifCond .ne 5, 3) := by decide +kernel
theorem dX6_leave_8 : decode cX6_leave 8 = .ok (.iconst (-1), 1) := by decide +kernel
theorem dX6_leave_9 : decode cX6_leave 9 = .ok (.ireturn, 1) := by decide +kernel
theorem dX6_leave_10 : decode cX6_leave 10 = .ok (.aload_n 0, 1) := by decide +kernel
theorem dX6_leave_11 : decode cX6_leave 11 = .ok (.getfield 17, 3) := by decide +kernel
theorem dX6_leave_14 : decode cX6_leave 14 = .ok (.bipush 21, 2) := by decide +kernel
theorem dX6_leave_16 : decode cX6_leave 16 = .ok (.iload_n 1, 1) := by decide +kernel
theorem dX6_leave_17 : decode cX6_leave 17 = .ok (.imul, 1) := by decide +kernel
theorem dX6_leave_18 : decode cX6_leave 18 = .ok (.iconst 0, 1) := by decide +kernel
theorem dX6_leave_19 : decode cX6_leave 19 = .ok (.iadd, 1) := by decide +kernel
theorem dX6_leave_20 : decode cX6_leave 20 = .ok (.iaload, 1) := by decide +kernel
theorem dX6_leave_21 : decode cX6_leave 21 = .ok (.iconst 2, 1) := by decide +kernel
theorem dX6_leave_22 : decode cX6_leave 22 = .ok (.if_icmp .eq 6, 3) := by decide +kernel
theorem dX6_leave_25 : decode cX6_leave 25 = .ok (.bipush (-2), 2) := by decide +kernel
theorem dX6_leave_27 : decode cX6_leave 27 = .ok (.ireturn, 1) := by decide +kernel
theorem dX6_leave_28 : decode cX6_leave 28 = .ok (.aload_n 0, 1) := by decide +kernel
theorem dX6_leave_29 : decode cX6_leave 29 = .ok (.invokevirtual 116, 3) := by decide +kernel
theorem dX6_leave_32 : decode cX6_leave 32 = .ok (.aload_n 0, 1) := by decide +kernel
theorem dX6_leave_33 : decode cX6_leave 33 = .ok (.invokevirtual 80, 3) := by decide +kernel
theorem dX6_leave_36 : decode cX6_leave 36 = .ok (.istore_n 2, 1) := by decide +kernel
theorem dX6_leave_37 : decode cX6_leave 37 = .ok (.aload_n 0, 1) := by decide +kernel
theorem dX6_leave_38 : decode cX6_leave 38 = .ok (.iload_n 1, 1) := by decide +kernel
theorem dX6_leave_39 : decode cX6_leave 39 = .ok (.invokevirtual 126, 3) := by decide +kernel
theorem dX6_leave_42 : decode cX6_leave 42 = .ok (.aload_n 0, 1) := by decide +kernel
theorem dX6_leave_43 : decode cX6_leave 43 = .ok (.invokevirtual 122, 3) := by decide +kernel
theorem dX6_leave_46 : decode cX6_leave 46 = .ok (.ifCond .ne 8, 3) := by decide +kernel
theorem dX6_leave_49 : decode cX6_leave 49 = .ok (.bipush (-3), 2) := by decide +kernel
theorem dX6_leave_51 : decode cX6_leave 51 = .ok (.goto 9, 3) := by decide +kernel
theorem dX6_leave_54 : decode cX6_leave 54 = .ok (.aload_n 0, 1) := by decide +kernel
theorem dX6_leave_55 : decode cX6_leave 55 = .ok (.invokevirtual 80, 3) := by decide +kernel
theorem dX6_leave_58 : decode cX6_leave 58 = .ok (.iload_n 2, 1) := by decide +kernel
theorem dX6_leave_59 : decode cX6_leave 59 = .ok (.isub, 1) := by decide +kernel
theorem dX6_leave_60 : decode cX6_leave 60 = .ok (.ireturn, 1) := by decide +kernel
theorem dX6_come_0 : decode cX6_come 0 = .ok (.aload_n 0, 1) := by decide +kernel
theorem dX6_come_1 : decode cX6_come 1 = .ok (.iload_n 1, 1) := by decide +kernel
theorem dX6_come_2 : decode cX6_come 2 = .ok (.invokevirtual 113, 3) := by decide +kernel
theorem dX6_come_5 : decode cX6_come 5 = .ok (.ifCond .eq 16, 3) := by decide +kernel
theorem dX6_come_8 : decode cX6_come 8 = .ok (.aload_n 0, 1) := by decide +kernel
theorem dX6_come_9 : decode cX6_come 9 = .ok (.iload_n 2, 1) := by decide +kernel
theorem dX6_come_10 : decode cX6_come 10 = .ok (.invokevirtual 113, 3) := by decide +kernel
theorem dX6_come_13 : decode cX6_come 13 = .ok (.ifCond .eq 8, 3) := by decide +kernel
theorem dX6_come_16 : decode cX6_come 16 = .ok (.iload_n 1, 1) := by decide +kernel
theorem dX6_come_17 : decode cX6_come 17 = .ok (.iload_n 2, 1) := by decide +kernel
theorem dX6_come_18 : decode cX6_come 18 = .ok (.if_icmp .ne 5, 3) := by decide +kernel
theorem dX6_come_21 : decode cX6_come 21 = .ok (.iconst (-1), 1) := by decide +kernel
theorem dX6_come_22 : decode cX6_come 22 = .ok (.ireturn, 1) := by decide +kernel
theorem dX6_come_23 : decode cX6_come 23 = .ok (.aload_n 0, 1) := by decide +kernel
theorem dX6_come_24 : decode cX6_come 24 = .ok (.getfield 17, 3) := by decide +kernel
theorem dX6_come_27 : decode cX6_come 27 = .ok (.aload_n 0, 1) := by decide +kernel
theorem dX6_come_28 : decode cX6_come 28 = .ok (.iload_n 1, 1) := by decide +kernel
theorem dX6_come_29 : decode cX6_come 29 = .ok (.iload_n 2, 1) := by decide +kernel
theorem dX6_come_30 : decode cX6_come 30 = .ok (.invokevirtual 69, 3) := by decide +kernel
theorem dX6_come_33 : decode cX6_come 33 = .ok (.iaload, 1) := by decide +kernel
theorem dX6_come_34 : decode cX6_come 34 = .ok (.ifCond .ne 6, 3) := by decide +kernel
theorem dX6_come_37 : decode cX6_come 37 = .ok (.bipush (-2), 2) := by decide +kernel
theorem dX6_come_39 : decode cX6_come 39 = .ok (.ireturn, 1) := by decide +kernel
theorem dX6_come_40 : decode cX6_come 40 = .ok (.aload_n 0, 1) := by decide +kernel
theorem dX6_come_41 : decode cX6_come 41 = .ok (.invokevirtual 116, 3) := by decide +kernel
theorem dX6_come_44 : decode cX6_come 44 = .ok (.aload_n 0, 1) := by decide +kernel
theorem dX6_come_45 : decode cX6_come 45 = .ok (.iload_n 1, 1) := by decide +kernel
theorem dX6_come_46 : decode cX6_come 46 = .ok (.iload_n 2, 1) := by decide +kernel
theorem dX6_come_47 : decode cX6_come 47 = .ok (.invokevirtual 129, 3) := by decide +kernel
theorem dX6_come_50 : decode cX6_come 50 = .ok (.istore_n 3, 1) := by decide +kernel
theorem dX6_come_51 : decode cX6_come 51 = .ok (.aload_n 0, 1) := by decide +kernel
theorem dX6_come_52 : decode cX6_come 52 = .ok (.invokevirtual 122, 3) := by decide +kernel
theorem dX6_come_55 : decode cX6_come 55 = .ok (.ifCond .eq 7, 3) := by decide +kernel
theorem dX6_come_58 : decode cX6_come 58 = .ok (.iload_n 3, 1) := by decide +kernel
theorem dX6_come_59 : decode cX6_come 59 = .ok (.goto 5, 3) := by decide +kernel
theorem dX6_come_62 : decode cX6_come 62 = .ok (.bipush (-3), 2) := by decide +kernel
theorem dX6_come_64 : decode cX6_come 64 = .ok (.ireturn, 1) := by decide +kernel
theorem dX6_pairOf_0 : decode cX6_pairOf 0 = .ok (.iconst 0, 1) := by decide +kernel
theorem dX6_pairOf_1 : decode cX6_pairOf 1 = .ok (.istore_n 2, 1) := by decide +kernel
theorem dX6_pairOf_2 : decode cX6_pairOf 2 = .ok (.iconst 0, 1) := by decide +kernel
theorem dX6_pairOf_3 : decode cX6_pairOf 3 = .ok (.istore_n 3, 1) := by decide +kernel
theorem dX6_pairOf_4 : decode cX6_pairOf 4 = .ok (.iload_n 3, 1) := by decide +kernel
theorem dX6_pairOf_5 : decode cX6_pairOf 5 = .ok (.aload_n 0, 1) := by decide +kernel
theorem dX6_pairOf_6 : decode cX6_pairOf 6 = .ok (.getfield 7, 3) := by decide +kernel
theorem dX6_pairOf_9 : decode cX6_pairOf 9 = .ok (.if_icmp .ge 58, 3) := by decide +kernel
theorem dX6_pairOf_12 : decode cX6_pairOf 12 = .ok (.iconst 0, 1) := by decide +kernel
theorem dX6_pairOf_13 : decode cX6_pairOf 13 = .ok (.istore 4, 2) := by decide +kernel
theorem dX6_pairOf_15 : decode cX6_pairOf 15 = .ok (.iload 4, 2) := by decide +kernel
theorem dX6_pairOf_17 : decode cX6_pairOf 17 = .ok (.aload_n 0, 1) := by decide +kernel
theorem dX6_pairOf_18 : decode cX6_pairOf 18 = .ok (.getfield 7, 3) := by decide +kernel
theorem dX6_pairOf_21 : decode cX6_pairOf 21 = .ok (.if_icmp .ge 40, 3) := by decide +kernel
theorem dX6_pairOf_24 : decode cX6_pairOf 24 = .ok (.aload_n 0, 1) := by decide +kernel
theorem dX6_pairOf_25 : decode cX6_pairOf 25 = .ok (.getfield 17, 3) := by decide +kernel
theorem dX6_pairOf_28 : decode cX6_pairOf 28 = .ok (.aload_n 0, 1) := by decide +kernel
theorem dX6_pairOf_29 : decode cX6_pairOf 29 = .ok (.iload_n 3, 1) := by decide +kernel
theorem dX6_pairOf_30 : decode cX6_pairOf 30 = .ok (.iload 4, 2) := by decide +kernel
theorem dX6_pairOf_32 : decode cX6_pairOf 32 = .ok (.invokevirtual 69, 3) := by decide +kernel
theorem dX6_pairOf_35 : decode cX6_pairOf 35 = .ok (.iaload, 1) := by decide +kernel
theorem dX6_pairOf_36 : decode cX6_pairOf 36 = .ok (.ifCond .le 19, 3) := by decide +kernel
theorem dX6_pairOf_39 : decode cX6_pairOf 39 = .ok (.iload_n 2, 1) := by decide +kernel
theorem dX6_pairOf_40 : decode cX6_pairOf 40 = .ok (.iload_n 1, 1) := by decide +kernel
theorem dX6_pairOf_41 : decode cX6_pairOf 41 = .ok (.if_icmp .ne 11, 3) := by decide +kernel
theorem dX6_pairOf_44 : decode cX6_pairOf 44 = .ok (.bipush 6, 2) := by decide +kernel
theorem dX6_pairOf_46 : decode cX6_pairOf 46 = .ok (.iload_n 3, 1) := by decide +kernel
theorem dX6_pairOf_47 : decode cX6_pairOf 47 = .ok (.imul, 1) := by decide +kernel
theorem dX6_pairOf_48 : decode cX6_pairOf 48 = .ok (.iload 4, 2) := by decide +kernel
theorem dX6_pairOf_50 : decode cX6_pairOf 50 = .ok (.iadd, 1) := by decide +kernel
theorem dX6_pairOf_51 : decode cX6_pairOf 51 = .ok (.ireturn, 1) := by decide +kernel
theorem dX6_pairOf_52 : decode cX6_pairOf 52 = .ok (.iinc 2 1, 3) := by decide +kernel
theorem dX6_pairOf_55 : decode cX6_pairOf 55 = .ok (.iinc 4 1, 3) := by decide +kernel
theorem dX6_pairOf_58 : decode cX6_pairOf 58 = .ok (.goto (-43), 3) := by decide +kernel
theorem dX6_pairOf_61 : decode cX6_pairOf 61 = .ok (.iinc 3 1, 3) := by decide +kernel
theorem dX6_pairOf_64 : decode cX6_pairOf 64 = .ok (.goto (-60), 3) := by decide +kernel
theorem dX6_pairOf_67 : decode cX6_pairOf 67 = .ok (.iload_n 2, 1) := by decide +kernel
theorem dX6_pairOf_68 : decode cX6_pairOf 68 = .ok (.ireturn, 1) := by decide +kernel
theorem dX6_run_0 : decode cX6_run 0 = .ok (.iload_n 1, 1) := by decide +kernel
theorem dX6_run_1 : decode cX6_run 1 = .ok (.iconst 1, 1) := by decide +kernel
theorem dX6_run_2 : decode cX6_run 2 = .ok (.bipush 100, 2) := by decide +kernel
theorem dX6_run_4 : decode cX6_run 4 = .ok (.invokestatic 47, 3) := by decide +kernel
theorem dX6_run_7 : decode cX6_run 7 = .ok (.ifCond .eq 7, 3) := by decide +kernel
theorem dX6_run_10 : decode cX6_run 10 = .ok (.iload_n 2, 1) := by decide +kernel
theorem dX6_run_11 : decode cX6_run 11 = .ok (.ifCond .ge 5, 3) := by decide +kernel
theorem dX6_run_14 : decode cX6_run 14 = .ok (.iconst (-1), 1) := by decide +kernel
theorem dX6_run_15 : decode cX6_run 15 = .ok (.ireturn, 1) := by decide +kernel
theorem dX6_run_16 : decode cX6_run 16 = .ok (.iload_n 2, 1) := by decide +kernel
theorem dX6_run_17 : decode cX6_run 17 = .ok (.i2l, 1) := by decide +kernel
theorem dX6_run_18 : decode cX6_run 18 = .ok (.lstore_n 3, 1) := by decide +kernel
theorem dX6_run_19 : decode cX6_run 19 = .ok (.iconst 0, 1) := by decide +kernel
theorem dX6_run_20 : decode cX6_run 20 = .ok (.istore 5, 2) := by decide +kernel
theorem dX6_run_22 : decode cX6_run 22 = .ok (.iconst 1, 1) := by decide +kernel
theorem dX6_run_23 : decode cX6_run 23 = .ok (.istore 6, 2) := by decide +kernel
theorem dX6_run_25 : decode cX6_run 25 = .ok (.iload 5, 2) := by decide +kernel
theorem dX6_run_27 : decode cX6_run 27 = .ok (.iload_n 1, 1) := by decide +kernel
theorem dX6_run_28 : decode cX6_run 28 = .ok (.if_icmp .ge 104, 3) := by decide +kernel
theorem dX6_run_31 : decode cX6_run 31 = .ok (.iload 6, 2) := by decide +kernel
theorem dX6_run_33 : decode cX6_run 33 = .ok (.ifCond .eq 99, 3) := by decide +kernel
theorem dX6_run_36 : decode cX6_run 36 = .ok (.aload_n 0, 1) := by decide +kernel
theorem dX6_run_37 : decode cX6_run 37 = .ok (.iconst (-1), 1) := by decide +kernel
theorem dX6_run_38 : decode cX6_run 38 = .ok (.invokevirtual 132, 3) := by decide +kernel
theorem dX6_run_41 : decode cX6_run 41 = .ok (.istore 7, 2) := by decide +kernel
theorem dX6_run_43 : decode cX6_run 43 = .ok (.iload 7, 2) := by decide +kernel
theorem dX6_run_45 : decode cX6_run 45 = .ok (.ifCond .le 7, 3) := by decide +kernel
theorem dX6_run_48 : decode cX6_run 48 = .ok (.iconst 1, 1) := by decide +kernel
theorem dX6_run_49 : decode cX6_run 49 = .ok (.goto 4, 3) := by decide +kernel
theorem dX6_run_52 : decode cX6_run 52 = .ok (.iconst 0, 1) := by decide +kernel
theorem dX6_run_53 : decode cX6_run 53 = .ok (.istore 6, 2) := by decide +kernel
theorem dX6_run_55 : decode cX6_run 55 = .ok (.iload 6, 2) := by decide +kernel
theorem dX6_run_57 : decode cX6_run 57 = .ok (.ifCond .eq 72, 3) := by decide +kernel
theorem dX6_run_60 : decode cX6_run 60 = .ok (.aload_n 0, 1) := by decide +kernel
theorem dX6_run_61 : decode cX6_run 61 = .ok (.lload_n 3, 1) := by decide +kernel
theorem dX6_run_62 : decode cX6_run 62 = .ok (.iload 7, 2) := by decide +kernel
theorem dX6_run_64 : decode cX6_run 64 = .ok (.i2l, 1) := by decide +kernel
theorem dX6_run_65 : decode cX6_run 65 = .ok (.lrem, 1) := by decide +kernel
theorem dX6_run_66 : decode cX6_run 66 = .ok (.l2i, 1) := by decide +kernel
theorem dX6_run_67 : decode cX6_run 67 = .ok (.invokevirtual 132, 3) := by decide +kernel
theorem dX6_run_70 : decode cX6_run 70 = .ok (.istore 8, 2) := by decide +kernel
theorem dX6_run_72 : decode cX6_run 72 = .ok (.aload_n 0, 1) := by decide +kernel
theorem dX6_run_73 : decode cX6_run 73 = .ok (.iload 8, 2) := by decide +kernel
theorem dX6_run_75 : decode cX6_run 75 = .ok (.bipush 6, 2) := by decide +kernel
theorem dX6_run_77 : decode cX6_run 77 = .ok (.idiv, 1) := by decide +kernel
theorem dX6_run_78 : decode cX6_run 78 = .ok (.iload 8, 2) := by decide +kernel
theorem dX6_run_80 : decode cX6_run 80 = .ok (.bipush 6, 2) := by decide +kernel
theorem dX6_run_82 : decode cX6_run 82 = .ok (.irem, 1) := by decide +kernel
theorem dX6_run_83 : decode cX6_run 83 = .ok (.invokevirtual 136, 3) := by decide +kernel
theorem dX6_run_86 : decode cX6_run 86 = .ok (.ifCond .lt 7, 3) := by decide +kernel
theorem dX6_run_89 : decode cX6_run 89 = .ok (.iconst 1, 1) := by decide +kernel
theorem dX6_run_90 : decode cX6_run 90 = .ok (.goto 4, 3) := by decide +kernel
theorem dX6_run_93 : decode cX6_run 93 = .ok (.iconst 0, 1) := by decide +kernel
theorem dX6_run_94 : decode cX6_run 94 = .ok (.istore 6, 2) := by decide +kernel
theorem dX6_run_96 : decode cX6_run 96 = .ok (.iload 5, 2) := by decide +kernel
theorem dX6_run_98 : decode cX6_run 98 = .ok (.iload 6, 2) := by decide +kernel
theorem dX6_run_100 : decode cX6_run 100 = .ok (.ifCond .eq 7, 3) := by decide +kernel
theorem dX6_run_103 : decode cX6_run 103 = .ok (.iconst 1, 1) := by decide +kernel
theorem dX6_run_104 : decode cX6_run 104 = .ok (.goto 4, 3) := by decide +kernel
theorem dX6_run_107 : decode cX6_run 107 = .ok (.iconst 0, 1) := by decide +kernel
theorem dX6_run_108 : decode cX6_run 108 = .ok (.iadd, 1) := by decide +kernel
theorem dX6_run_109 : decode cX6_run 109 = .ok (.istore 5, 2) := by decide +kernel
theorem dX6_run_111 : decode cX6_run 111 = .ok (.lload_n 3, 1) := by decide +kernel
theorem dX6_run_112 : decode cX6_run 112 = .ok (.ldc2_w 139, 3) := by decide +kernel
theorem dX6_run_115 : decode cX6_run 115 = .ok (.lmul, 1) := by decide +kernel
theorem dX6_run_116 : decode cX6_run 116 = .ok (.ldc2_w 141, 3) := by decide +kernel
theorem dX6_run_119 : decode cX6_run 119 = .ok (.ladd, 1) := by decide +kernel
theorem dX6_run_120 : decode cX6_run 120 = .ok (.ldc2_w 143, 3) := by decide +kernel
theorem dX6_run_123 : decode cX6_run 123 = .ok (.lrem, 1) := by decide +kernel
theorem dX6_run_124 : decode cX6_run 124 = .ok (.ldc2_w 145, 3) := by decide +kernel
theorem dX6_run_127 : decode cX6_run 127 = .ok (.ldiv, 1) := by decide +kernel
theorem dX6_run_128 : decode cX6_run 128 = .ok (.lstore_n 3, 1) := by decide +kernel
theorem dX6_run_129 : decode cX6_run 129 = .ok (.goto (-104), 3) := by decide +kernel
theorem dX6_run_132 : decode cX6_run 132 = .ok (.iload 5, 2) := by decide +kernel
theorem dX6_run_134 : decode cX6_run 134 = .ok (.ireturn, 1) := by decide +kernel
theorem dX6_hasToken_0 : decode cX6_hasToken 0 = .ok (.aload_n 0, 1) := by decide +kernel
theorem dX6_hasToken_1 : decode cX6_hasToken 1 = .ok (.getfield 66, 3) := by decide +kernel
theorem dX6_hasToken_4 : decode cX6_hasToken 4 = .ok (.iconst 1, 1) := by decide +kernel
theorem dX6_hasToken_5 : decode cX6_hasToken 5 = .ok (.if_icmp .ne 22, 3) := by decide +kernel
theorem dX6_hasToken_8 : decode cX6_hasToken 8 = .ok (.aload_n 0, 1) := by decide +kernel
theorem dX6_hasToken_9 : decode cX6_hasToken 9 = .ok (.getfield 17, 3) := by decide +kernel
theorem dX6_hasToken_12 : decode cX6_hasToken 12 = .ok (.bipush 126, 2) := by decide +kernel
theorem dX6_hasToken_14 : decode cX6_hasToken 14 = .ok (.iaload, 1) := by decide +kernel
theorem dX6_hasToken_15 : decode cX6_hasToken 15 = .ok (.iload_n 1, 1) := by decide +kernel
theorem dX6_hasToken_16 : decode cX6_hasToken 16 = .ok (.if_icmp .ne 7, 3) := by decide +kernel
theorem dX6_hasToken_19 : decode cX6_hasToken 19 = .ok (.iconst 1, 1) := by decide +kernel
theorem dX6_hasToken_20 : decode cX6_hasToken 20 = .ok (.goto 35, 3) := by decide +kernel
theorem dX6_hasToken_23 : decode cX6_hasToken 23 = .ok (.iconst 0, 1) := by decide +kernel
theorem dX6_hasToken_24 : decode cX6_hasToken 24 = .ok (.goto 31, 3) := by decide +kernel
theorem dX6_hasToken_27 : decode cX6_hasToken 27 = .ok (.aload_n 0, 1) := by decide +kernel
theorem dX6_hasToken_28 : decode cX6_hasToken 28 = .ok (.getfield 66, 3) := by decide +kernel
theorem dX6_hasToken_31 : decode cX6_hasToken 31 = .ok (.iconst 2, 1) := by decide +kernel
theorem dX6_hasToken_32 : decode cX6_hasToken 32 = .ok (.if_icmp .ne 22, 3) := by decide +kernel
theorem dX6_hasToken_35 : decode cX6_hasToken 35 = .ok (.aload_n 0, 1) := by decide +kernel
theorem dX6_hasToken_36 : decode cX6_hasToken 36 = .ok (.getfield 17, 3) := by decide +kernel
theorem dX6_hasToken_39 : decode cX6_hasToken 39 = .ok (.bipush 21, 2) := by decide +kernel
theorem dX6_hasToken_41 : decode cX6_hasToken 41 = .ok (.iload_n 1, 1) := by decide +kernel
theorem dX6_hasToken_42 : decode cX6_hasToken 42 = .ok (.imul, 1) := by decide +kernel
theorem dX6_hasToken_43 : decode cX6_hasToken 43 = .ok (.iconst 5, 1) := by decide +kernel
theorem dX6_hasToken_44 : decode cX6_hasToken 44 = .ok (.iadd, 1) := by decide +kernel
theorem dX6_hasToken_45 : decode cX6_hasToken 45 = .ok (.iaload, 1) := by decide +kernel
theorem dX6_hasToken_46 : decode cX6_hasToken 46 = .ok (.iload_n 1, 1) := by decide +kernel
theorem dX6_hasToken_47 : decode cX6_hasToken 47 = .ok (.if_icmp .ne 7, 3) := by decide +kernel
theorem dX6_hasToken_50 : decode cX6_hasToken 50 = .ok (.iconst 1, 1) := by decide +kernel
theorem dX6_hasToken_51 : decode cX6_hasToken 51 = .ok (.goto 4, 3) := by decide +kernel
theorem dX6_hasToken_54 : decode cX6_hasToken 54 = .ok (.iconst 0, 1) := by decide +kernel
theorem dX6_hasToken_55 : decode cX6_hasToken 55 = .ok (.ireturn, 1) := by decide +kernel
theorem dX6_keeper_0 : decode cX6_keeper 0 = .ok (.aload_n 0, 1) := by decide +kernel
theorem dX6_keeper_1 : decode cX6_keeper 1 = .ok (.iload_n 1, 1) := by decide +kernel
theorem dX6_keeper_2 : decode cX6_keeper 2 = .ok (.invokevirtual 113, 3) := by decide +kernel
theorem dX6_keeper_5 : decode cX6_keeper 5 = .ok (.ifCond .eq 13, 3) := by decide +kernel
theorem dX6_keeper_8 : decode cX6_keeper 8 = .ok (.iload_n 2, 1) := by decide +kernel
theorem dX6_keeper_9 : decode cX6_keeper 9 = .ok (.iconst 0, 1) := by decide +kernel
theorem dX6_keeper_10 : decode cX6_keeper 10 = .ok (.bipush 9, 2) := by decide +kernel
theorem dX6_keeper_12 : decode cX6_keeper 12 = .ok (.invokestatic 47, 3) := by decide +kernel
theorem dX6_keeper_15 : decode cX6_keeper 15 = .ok (.ifCond .ne 5, 3) := by decide +kernel
theorem dX6_keeper_18 : decode cX6_keeper 18 = .ok (.iconst (-1), 1) := by decide +kernel
theorem dX6_keeper_19 : decode cX6_keeper 19 = .ok (.ireturn, 1) := by decide +kernel
theorem dX6_keeper_20 : decode cX6_keeper 20 = .ok (.bipush 21, 2) := by decide +kernel
theorem dX6_keeper_22 : decode cX6_keeper 22 = .ok (.iload_n 1, 1) := by decide +kernel
theorem dX6_keeper_23 : decode cX6_keeper 23 = .ok (.imul, 1) := by decide +kernel
theorem dX6_keeper_24 : decode cX6_keeper 24 = .ok (.istore_n 3, 1) := by decide +kernel
theorem dX6_keeper_25 : decode cX6_keeper 25 = .ok (.iload_n 2, 1) := by decide +kernel
theorem dX6_keeper_26 : decode cX6_keeper 26 = .ok (.tableswitch 218 0 8 #[50, 59, 79, 121, 153, 162, 176, 198, 208], 50) := by decide +kernel
theorem dX6_keeper_76 : decode cX6_keeper 76 = .ok (.aload_n 0, 1) := by decide +kernel
theorem dX6_keeper_77 : decode cX6_keeper 77 = .ok (.getfield 17, 3) := by decide +kernel
theorem dX6_keeper_80 : decode cX6_keeper 80 = .ok (.iload_n 3, 1) := by decide +kernel
theorem dX6_keeper_81 : decode cX6_keeper 81 = .ok (.iconst 0, 1) := by decide +kernel
theorem dX6_keeper_82 : decode cX6_keeper 82 = .ok (.iadd, 1) := by decide +kernel
theorem dX6_keeper_83 : decode cX6_keeper 83 = .ok (.iaload, 1) := by decide +kernel
theorem dX6_keeper_84 : decode cX6_keeper 84 = .ok (.ireturn, 1) := by decide +kernel
theorem dX6_keeper_85 : decode cX6_keeper 85 = .ok (.aload_n 0, 1) := by decide +kernel
theorem dX6_keeper_86 : decode cX6_keeper 86 = .ok (.getfield 66, 3) := by decide +kernel
theorem dX6_keeper_89 : decode cX6_keeper 89 = .ok (.ifCond .ne 14, 3) := by decide +kernel
theorem dX6_keeper_92 : decode cX6_keeper 92 = .ok (.aload_n 0, 1) := by decide +kernel
theorem dX6_keeper_93 : decode cX6_keeper 93 = .ok (.getfield 17, 3) := by decide +kernel
theorem dX6_keeper_96 : decode cX6_keeper 96 = .ok (.iload_n 3, 1) := by decide +kernel
theorem dX6_keeper_97 : decode cX6_keeper 97 = .ok (.iconst 1, 1) := by decide +kernel
theorem dX6_keeper_98 : decode cX6_keeper 98 = .ok (.iadd, 1) := by decide +kernel
theorem dX6_keeper_99 : decode cX6_keeper 99 = .ok (.iaload, 1) := by decide +kernel
theorem dX6_keeper_100 : decode cX6_keeper 100 = .ok (.goto 4, 3) := by decide +kernel
theorem dX6_keeper_103 : decode cX6_keeper 103 = .ok (.iconst 0, 1) := by decide +kernel
theorem dX6_keeper_104 : decode cX6_keeper 104 = .ok (.ireturn, 1) := by decide +kernel
theorem dX6_keeper_105 : decode cX6_keeper 105 = .ok (.aload_n 0, 1) := by decide +kernel
theorem dX6_keeper_106 : decode cX6_keeper 106 = .ok (.getfield 66, 3) := by decide +kernel
theorem dX6_keeper_109 : decode cX6_keeper 109 = .ok (.ifCond .ne 14, 3) := by decide +kernel
theorem dX6_keeper_112 : decode cX6_keeper 112 = .ok (.aload_n 0, 1) := by decide +kernel
theorem dX6_keeper_113 : decode cX6_keeper 113 = .ok (.getfield 17, 3) := by decide +kernel
theorem dX6_keeper_116 : decode cX6_keeper 116 = .ok (.iload_n 3, 1) := by decide +kernel
theorem dX6_keeper_117 : decode cX6_keeper 117 = .ok (.iconst 2, 1) := by decide +kernel
theorem dX6_keeper_118 : decode cX6_keeper 118 = .ok (.iadd, 1) := by decide +kernel
theorem dX6_keeper_119 : decode cX6_keeper 119 = .ok (.iaload, 1) := by decide +kernel
theorem dX6_keeper_120 : decode cX6_keeper 120 = .ok (.goto 26, 3) := by decide +kernel
theorem dX6_keeper_123 : decode cX6_keeper 123 = .ok (.aload_n 0, 1) := by decide +kernel
theorem dX6_keeper_124 : decode cX6_keeper 124 = .ok (.getfield 66, 3) := by decide +kernel
theorem dX6_keeper_127 : decode cX6_keeper 127 = .ok (.iconst 1, 1) := by decide +kernel
theorem dX6_keeper_128 : decode cX6_keeper 128 = .ok (.if_icmp .ne 17, 3) := by decide +kernel
theorem dX6_keeper_131 : decode cX6_keeper 131 = .ok (.aload_n 0, 1) := by decide +kernel
theorem dX6_keeper_132 : decode cX6_keeper 132 = .ok (.getfield 17, 3) := by decide +kernel
theorem dX6_keeper_135 : decode cX6_keeper 135 = .ok (.iload_n 3, 1) := by decide +kernel
theorem dX6_keeper_136 : decode cX6_keeper 136 = .ok (.bipush 14, 2) := by decide +kernel
theorem dX6_keeper_138 : decode cX6_keeper 138 = .ok (.iadd, 1) := by decide +kernel
theorem dX6_keeper_139 : decode cX6_keeper 139 = .ok (.iload_n 1, 1) := by decide +kernel
theorem dX6_keeper_140 : decode cX6_keeper 140 = .ok (.iadd, 1) := by decide +kernel
theorem dX6_keeper_141 : decode cX6_keeper 141 = .ok (.iaload, 1) := by decide +kernel
theorem dX6_keeper_142 : decode cX6_keeper 142 = .ok (.goto 4, 3) := by decide +kernel
theorem dX6_keeper_145 : decode cX6_keeper 145 = .ok (.iconst 0, 1) := by decide +kernel
theorem dX6_keeper_146 : decode cX6_keeper 146 = .ok (.ireturn, 1) := by decide +kernel
theorem dX6_keeper_147 : decode cX6_keeper 147 = .ok (.aload_n 0, 1) := by decide +kernel
theorem dX6_keeper_148 : decode cX6_keeper 148 = .ok (.getfield 66, 3) := by decide +kernel
theorem dX6_keeper_151 : decode cX6_keeper 151 = .ok (.ifCond .ne 26, 3) := by decide +kernel
theorem dX6_keeper_154 : decode cX6_keeper 154 = .ok (.aload_n 0, 1) := by decide +kernel
theorem dX6_keeper_155 : decode cX6_keeper 155 = .ok (.getfield 17, 3) := by decide +kernel
theorem dX6_keeper_158 : decode cX6_keeper 158 = .ok (.iload_n 3, 1) := by decide +kernel
theorem dX6_keeper_159 : decode cX6_keeper 159 = .ok (.iconst 0, 1) := by decide +kernel
theorem dX6_keeper_160 : decode cX6_keeper 160 = .ok (.iadd, 1) := by decide +kernel
theorem dX6_keeper_161 : decode cX6_keeper 161 = .ok (.iaload, 1) := by decide +kernel
theorem dX6_keeper_162 : decode cX6_keeper 162 = .ok (.iconst 1, 1) := by decide +kernel
theorem dX6_keeper_163 : decode cX6_keeper 163 = .ok (.if_icmp .ne 14, 3) := by decide +kernel
theorem dX6_keeper_166 : decode cX6_keeper 166 = .ok (.aload_n 0, 1) := by decide +kernel
theorem dX6_keeper_167 : decode cX6_keeper 167 = .ok (.getfield 17, 3) := by decide +kernel
theorem dX6_keeper_170 : decode cX6_keeper 170 = .ok (.iload_n 3, 1) := by decide +kernel
theorem dX6_keeper_171 : decode cX6_keeper 171 = .ok (.iconst 3, 1) := by decide +kernel
theorem dX6_keeper_172 : decode cX6_keeper 172 = .ok (.iadd, 1) := by decide +kernel
theorem dX6_keeper_173 : decode cX6_keeper 173 = .ok (.iaload, 1) := by decide +kernel
theorem dX6_keeper_174 : decode cX6_keeper 174 = .ok (.goto 4, 3) := by decide +kernel
theorem dX6_keeper_177 : decode cX6_keeper 177 = .ok (.iconst 0, 1) := by decide +kernel
theorem dX6_keeper_178 : decode cX6_keeper 178 = .ok (.ireturn, 1) := by decide +kernel
theorem dX6_keeper_179 : decode cX6_keeper 179 = .ok (.aload_n 0, 1) := by decide +kernel
theorem dX6_keeper_180 : decode cX6_keeper 180 = .ok (.getfield 17, 3) := by decide +kernel
theorem dX6_keeper_183 : decode cX6_keeper 183 = .ok (.iload_n 3, 1) := by decide +kernel
theorem dX6_keeper_184 : decode cX6_keeper 184 = .ok (.iconst 4, 1) := by decide +kernel
theorem dX6_keeper_185 : decode cX6_keeper 185 = .ok (.iadd, 1) := by decide +kernel
theorem dX6_keeper_186 : decode cX6_keeper 186 = .ok (.iaload, 1) := by decide +kernel
theorem dX6_keeper_187 : decode cX6_keeper 187 = .ok (.ireturn, 1) := by decide +kernel
theorem dX6_keeper_188 : decode cX6_keeper 188 = .ok (.aload_n 0, 1) := by decide +kernel
theorem dX6_keeper_189 : decode cX6_keeper 189 = .ok (.iload_n 1, 1) := by decide +kernel
theorem dX6_keeper_190 : decode cX6_keeper 190 = .ok (.invokevirtual 147, 3) := by decide +kernel
theorem dX6_keeper_193 : decode cX6_keeper 193 = .ok (.ifCond .eq 7, 3) := by decide +kernel
theorem dX6_keeper_196 : decode cX6_keeper 196 = .ok (.iconst 1, 1) := by decide +kernel
theorem dX6_keeper_197 : decode cX6_keeper 197 = .ok (.goto 4, 3) := by decide +kernel
theorem dX6_keeper_200 : decode cX6_keeper 200 = .ok (.iconst 0, 1) := by decide +kernel
theorem dX6_keeper_201 : decode cX6_keeper 201 = .ok (.ireturn, 1) := by decide +kernel
theorem dX6_keeper_202 : decode cX6_keeper 202 = .ok (.aload_n 0, 1) := by decide +kernel
theorem dX6_keeper_203 : decode cX6_keeper 203 = .ok (.getfield 66, 3) := by decide +kernel
theorem dX6_keeper_206 : decode cX6_keeper 206 = .ok (.iconst 2, 1) := by decide +kernel
theorem dX6_keeper_207 : decode cX6_keeper 207 = .ok (.if_icmp .ne 14, 3) := by decide +kernel
theorem dX6_keeper_210 : decode cX6_keeper 210 = .ok (.aload_n 0, 1) := by decide +kernel
theorem dX6_keeper_211 : decode cX6_keeper 211 = .ok (.getfield 17, 3) := by decide +kernel
theorem dX6_keeper_214 : decode cX6_keeper 214 = .ok (.iload_n 3, 1) := by decide +kernel
theorem dX6_keeper_215 : decode cX6_keeper 215 = .ok (.iconst 5, 1) := by decide +kernel
theorem dX6_keeper_216 : decode cX6_keeper 216 = .ok (.iadd, 1) := by decide +kernel
theorem dX6_keeper_217 : decode cX6_keeper 217 = .ok (.iaload, 1) := by decide +kernel
theorem dX6_keeper_218 : decode cX6_keeper 218 = .ok (.goto 5, 3) := by decide +kernel
theorem dX6_keeper_221 : decode cX6_keeper 221 = .ok (.bipush (-4), 2) := by decide +kernel
theorem dX6_keeper_223 : decode cX6_keeper 223 = .ok (.ireturn, 1) := by decide +kernel
theorem dX6_keeper_224 : decode cX6_keeper 224 = .ok (.aload_n 0, 1) := by decide +kernel
theorem dX6_keeper_225 : decode cX6_keeper 225 = .ok (.getfield 17, 3) := by decide +kernel
theorem dX6_keeper_228 : decode cX6_keeper 228 = .ok (.iload_n 3, 1) := by decide +kernel
theorem dX6_keeper_229 : decode cX6_keeper 229 = .ok (.bipush 6, 2) := by decide +kernel
theorem dX6_keeper_231 : decode cX6_keeper 231 = .ok (.iadd, 1) := by decide +kernel
theorem dX6_keeper_232 : decode cX6_keeper 232 = .ok (.iaload, 1) := by decide +kernel
theorem dX6_keeper_233 : decode cX6_keeper 233 = .ok (.ireturn, 1) := by decide +kernel
theorem dX6_keeper_234 : decode cX6_keeper 234 = .ok (.aload_n 0, 1) := by decide +kernel
theorem dX6_keeper_235 : decode cX6_keeper 235 = .ok (.getfield 17, 3) := by decide +kernel
theorem dX6_keeper_238 : decode cX6_keeper 238 = .ok (.iload_n 3, 1) := by decide +kernel
theorem dX6_keeper_239 : decode cX6_keeper 239 = .ok (.bipush 7, 2) := by decide +kernel
theorem dX6_keeper_241 : decode cX6_keeper 241 = .ok (.iadd, 1) := by decide +kernel
theorem dX6_keeper_242 : decode cX6_keeper 242 = .ok (.iaload, 1) := by decide +kernel
theorem dX6_keeper_243 : decode cX6_keeper 243 = .ok (.ireturn, 1) := by decide +kernel
theorem dX6_keeper_244 : decode cX6_keeper 244 = .ok (.aload_n 0, 1) := by decide +kernel
theorem dX6_keeper_245 : decode cX6_keeper 245 = .ok (.getfield 66, 3) := by decide +kernel
theorem dX6_keeper_248 : decode cX6_keeper 248 = .ok (.iconst 2, 1) := by decide +kernel
theorem dX6_keeper_249 : decode cX6_keeper 249 = .ok (.if_icmp .ne 12, 3) := by decide +kernel
theorem dX6_keeper_252 : decode cX6_keeper 252 = .ok (.aload_n 0, 1) := by decide +kernel
theorem dX6_keeper_253 : decode cX6_keeper 253 = .ok (.getfield 13, 3) := by decide +kernel
theorem dX6_keeper_256 : decode cX6_keeper 256 = .ok (.iload_n 1, 1) := by decide +kernel
theorem dX6_keeper_257 : decode cX6_keeper 257 = .ok (.iaload, 1) := by decide +kernel
theorem dX6_keeper_258 : decode cX6_keeper 258 = .ok (.goto 5, 3) := by decide +kernel
theorem dX6_keeper_261 : decode cX6_keeper 261 = .ok (.bipush (-4), 2) := by decide +kernel
theorem dX6_keeper_263 : decode cX6_keeper 263 = .ok (.ireturn, 1) := by decide +kernel
theorem dX6_knows_0 : decode cX6_knows 0 = .ok (.aload_n 0, 1) := by decide +kernel
theorem dX6_knows_1 : decode cX6_knows 1 = .ok (.iload_n 1, 1) := by decide +kernel
theorem dX6_knows_2 : decode cX6_knows 2 = .ok (.invokevirtual 113, 3) := by decide +kernel
theorem dX6_knows_5 : decode cX6_knows 5 = .ok (.ifCond .eq 14, 3) := by decide +kernel
theorem dX6_knows_8 : decode cX6_knows 8 = .ok (.iload_n 2, 1) := by decide +kernel
theorem dX6_knows_9 : decode cX6_knows 9 = .ok (.ifCond .lt 10, 3) := by decide +kernel
theorem dX6_knows_12 : decode cX6_knows 12 = .ok (.aload_n 0, 1) := by decide +kernel
theorem dX6_knows_13 : decode cX6_knows 13 = .ok (.getfield 66, 3) := by decide +kernel
theorem dX6_knows_16 : decode cX6_knows 16 = .ok (.ifCond .ne 6, 3) := by decide +kernel
theorem dX6_knows_19 : decode cX6_knows 19 = .ok (.bipush (-4), 2) := by decide +kernel
theorem dX6_knows_21 : decode cX6_knows 21 = .ok (.ireturn, 1) := by decide +kernel
theorem dX6_knows_22 : decode cX6_knows 22 = .ok (.aload_n 0, 1) := by decide +kernel
theorem dX6_knows_23 : decode cX6_knows 23 = .ok (.getfield 66, 3) := by decide +kernel
theorem dX6_knows_26 : decode cX6_knows 26 = .ok (.iconst 1, 1) := by decide +kernel
theorem dX6_knows_27 : decode cX6_knows 27 = .ok (.if_icmp .ne 31, 3) := by decide +kernel
theorem dX6_knows_30 : decode cX6_knows 30 = .ok (.iload_n 2, 1) := by decide +kernel
theorem dX6_knows_31 : decode cX6_knows 31 = .ok (.aload_n 0, 1) := by decide +kernel
theorem dX6_knows_32 : decode cX6_knows 32 = .ok (.getfield 7, 3) := by decide +kernel
theorem dX6_knows_35 : decode cX6_knows 35 = .ok (.if_icmp .ge 20, 3) := by decide +kernel
theorem dX6_knows_38 : decode cX6_knows 38 = .ok (.aload_n 0, 1) := by decide +kernel
theorem dX6_knows_39 : decode cX6_knows 39 = .ok (.getfield 17, 3) := by decide +kernel
theorem dX6_knows_42 : decode cX6_knows 42 = .ok (.bipush 21, 2) := by decide +kernel
theorem dX6_knows_44 : decode cX6_knows 44 = .ok (.iload_n 1, 1) := by decide +kernel
theorem dX6_knows_45 : decode cX6_knows 45 = .ok (.imul, 1) := by decide +kernel
theorem dX6_knows_46 : decode cX6_knows 46 = .ok (.bipush 14, 2) := by decide +kernel
theorem dX6_knows_48 : decode cX6_knows 48 = .ok (.iadd, 1) := by decide +kernel
theorem dX6_knows_49 : decode cX6_knows 49 = .ok (.iload_n 2, 1) := by decide +kernel
theorem dX6_knows_50 : decode cX6_knows 50 = .ok (.iadd, 1) := by decide +kernel
theorem dX6_knows_51 : decode cX6_knows 51 = .ok (.iaload, 1) := by decide +kernel
theorem dX6_knows_52 : decode cX6_knows 52 = .ok (.goto 5, 3) := by decide +kernel
theorem dX6_knows_55 : decode cX6_knows 55 = .ok (.bipush (-4), 2) := by decide +kernel
theorem dX6_knows_57 : decode cX6_knows 57 = .ok (.ireturn, 1) := by decide +kernel
theorem dX6_knows_58 : decode cX6_knows 58 = .ok (.iload_n 2, 1) := by decide +kernel
theorem dX6_knows_59 : decode cX6_knows 59 = .ok (.aload_n 0, 1) := by decide +kernel
theorem dX6_knows_60 : decode cX6_knows 60 = .ok (.getfield 17, 3) := by decide +kernel
theorem dX6_knows_63 : decode cX6_knows 63 = .ok (.bipush 21, 2) := by decide +kernel
theorem dX6_knows_65 : decode cX6_knows 65 = .ok (.iload_n 1, 1) := by decide +kernel
theorem dX6_knows_66 : decode cX6_knows 66 = .ok (.imul, 1) := by decide +kernel
theorem dX6_knows_67 : decode cX6_knows 67 = .ok (.bipush 7, 2) := by decide +kernel
theorem dX6_knows_69 : decode cX6_knows 69 = .ok (.iadd, 1) := by decide +kernel
theorem dX6_knows_70 : decode cX6_knows 70 = .ok (.iaload, 1) := by decide +kernel
theorem dX6_knows_71 : decode cX6_knows 71 = .ok (.if_icmp .ge 20, 3) := by decide +kernel
theorem dX6_knows_74 : decode cX6_knows 74 = .ok (.aload_n 0, 1) := by decide +kernel
theorem dX6_knows_75 : decode cX6_knows 75 = .ok (.getfield 17, 3) := by decide +kernel
theorem dX6_knows_78 : decode cX6_knows 78 = .ok (.bipush 21, 2) := by decide +kernel
theorem dX6_knows_80 : decode cX6_knows 80 = .ok (.iload_n 1, 1) := by decide +kernel
theorem dX6_knows_81 : decode cX6_knows 81 = .ok (.imul, 1) := by decide +kernel
theorem dX6_knows_82 : decode cX6_knows 82 = .ok (.bipush 8, 2) := by decide +kernel
theorem dX6_knows_84 : decode cX6_knows 84 = .ok (.iadd, 1) := by decide +kernel
theorem dX6_knows_85 : decode cX6_knows 85 = .ok (.iload_n 2, 1) := by decide +kernel
theorem dX6_knows_86 : decode cX6_knows 86 = .ok (.iadd, 1) := by decide +kernel
theorem dX6_knows_87 : decode cX6_knows 87 = .ok (.iaload, 1) := by decide +kernel
theorem dX6_knows_88 : decode cX6_knows 88 = .ok (.goto 5, 3) := by decide +kernel
theorem dX6_knows_91 : decode cX6_knows 91 = .ok (.bipush (-4), 2) := by decide +kernel
theorem dX6_knows_93 : decode cX6_knows 93 = .ok (.ireturn, 1) := by decide +kernel
theorem dX6_token_0 : decode cX6_token 0 = .ok (.iload_n 1, 1) := by decide +kernel
theorem dX6_token_1 : decode cX6_token 1 = .ok (.iconst 0, 1) := by decide +kernel
theorem dX6_token_2 : decode cX6_token 2 = .ok (.iconst 1, 1) := by decide +kernel
theorem dX6_token_3 : decode cX6_token 3 = .ok (.invokestatic 47, 3) := by decide +kernel
theorem dX6_token_6 : decode cX6_token 6 = .ok (.ifCond .eq 11, 3) := by decide +kernel
theorem dX6_token_9 : decode cX6_token 9 = .ok (.aload_n 0, 1) := by decide +kernel
theorem dX6_token_10 : decode cX6_token 10 = .ok (.iload_n 2, 1) := by decide +kernel
theorem dX6_token_11 : decode cX6_token 11 = .ok (.invokevirtual 113, 3) := by decide +kernel
theorem dX6_token_14 : decode cX6_token 14 = .ok (.ifCond .ne 5, 3) := by decide +kernel
theorem dX6_token_17 : decode cX6_token 17 = .ok (.iconst (-1), 1) := by decide +kernel
theorem dX6_token_18 : decode cX6_token 18 = .ok (.ireturn, 1) := by decide +kernel
theorem dX6_token_19 : decode cX6_token 19 = .ok (.aload_n 0, 1) := by decide +kernel
theorem dX6_token_20 : decode cX6_token 20 = .ok (.getfield 66, 3) := by decide +kernel
theorem dX6_token_23 : decode cX6_token 23 = .ok (.iconst 1, 1) := by decide +kernel
theorem dX6_token_24 : decode cX6_token 24 = .ok (.if_icmp .eq 6, 3) := by decide +kernel
theorem dX6_token_27 : decode cX6_token 27 = .ok (.bipush (-2), 2) := by decide +kernel
theorem dX6_token_29 : decode cX6_token 29 = .ok (.ireturn, 1) := by decide +kernel
theorem dX6_token_30 : decode cX6_token 30 = .ok (.iload_n 1, 1) := by decide +kernel
theorem dX6_token_31 : decode cX6_token 31 = .ok (.ifCond .ne 15, 3) := by decide +kernel
theorem dX6_token_34 : decode cX6_token 34 = .ok (.aload_n 0, 1) := by decide +kernel
theorem dX6_token_35 : decode cX6_token 35 = .ok (.getfield 17, 3) := by decide +kernel
theorem dX6_token_38 : decode cX6_token 38 = .ok (.bipush 127, 2) := by decide +kernel
theorem dX6_token_40 : decode cX6_token 40 = .ok (.iload_n 2, 1) := by decide +kernel
theorem dX6_token_41 : decode cX6_token 41 = .ok (.iadd, 1) := by decide +kernel
theorem dX6_token_42 : decode cX6_token 42 = .ok (.iaload, 1) := by decide +kernel
theorem dX6_token_43 : decode cX6_token 43 = .ok (.goto 30, 3) := by decide +kernel
theorem dX6_token_46 : decode cX6_token 46 = .ok (.iload_n 2, 1) := by decide +kernel
theorem dX6_token_47 : decode cX6_token 47 = .ok (.aload_n 0, 1) := by decide +kernel
theorem dX6_token_48 : decode cX6_token 48 = .ok (.getfield 17, 3) := by decide +kernel
theorem dX6_token_51 : decode cX6_token 51 = .ok (.sipush 133, 3) := by decide +kernel
theorem dX6_token_54 : decode cX6_token 54 = .ok (.iaload, 1) := by decide +kernel
theorem dX6_token_55 : decode cX6_token 55 = .ok (.if_icmp .ge 16, 3) := by decide +kernel
theorem dX6_token_58 : decode cX6_token 58 = .ok (.aload_n 0, 1) := by decide +kernel
theorem dX6_token_59 : decode cX6_token 59 = .ok (.getfield 17, 3) := by decide +kernel
theorem dX6_token_62 : decode cX6_token 62 = .ok (.sipush 134, 3) := by decide +kernel
theorem dX6_token_65 : decode cX6_token 65 = .ok (.iload_n 2, 1) := by decide +kernel
theorem dX6_token_66 : decode cX6_token 66 = .ok (.iadd, 1) := by decide +kernel
theorem dX6_token_67 : decode cX6_token 67 = .ok (.iaload, 1) := by decide +kernel
theorem dX6_token_68 : decode cX6_token 68 = .ok (.goto 5, 3) := by decide +kernel
theorem dX6_token_71 : decode cX6_token 71 = .ok (.bipush (-4), 2) := by decide +kernel
theorem dX6_token_73 : decode cX6_token 73 = .ok (.ireturn, 1) := by decide +kernel
theorem dX6_letter_0 : decode cX6_letter 0 = .ok (.aload_n 0, 1) := by decide +kernel
theorem dX6_letter_1 : decode cX6_letter 1 = .ok (.iload_n 1, 1) := by decide +kernel
theorem dX6_letter_2 : decode cX6_letter 2 = .ok (.invokevirtual 113, 3) := by decide +kernel
theorem dX6_letter_5 : decode cX6_letter 5 = .ok (.ifCond .eq 31, 3) := by decide +kernel
theorem dX6_letter_8 : decode cX6_letter 8 = .ok (.aload_n 0, 1) := by decide +kernel
theorem dX6_letter_9 : decode cX6_letter 9 = .ok (.iload_n 2, 1) := by decide +kernel
theorem dX6_letter_10 : decode cX6_letter 10 = .ok (.invokevirtual 113, 3) := by decide +kernel
theorem dX6_letter_13 : decode cX6_letter 13 = .ok (.ifCond .eq 23, 3) := by decide +kernel
theorem dX6_letter_16 : decode cX6_letter 16 = .ok (.iload_n 1, 1) := by decide +kernel
theorem dX6_letter_17 : decode cX6_letter 17 = .ok (.iload_n 2, 1) := by decide +kernel
theorem dX6_letter_18 : decode cX6_letter 18 = .ok (.if_icmp .eq 18, 3) := by decide +kernel
theorem dX6_letter_21 : decode cX6_letter 21 = .ok (.iload_n 3, 1) := by decide +kernel
theorem dX6_letter_22 : decode cX6_letter 22 = .ok (.iconst (-1), 1) := by decide +kernel
theorem dX6_letter_23 : decode cX6_letter 23 = .ok (.if_icmp .lt 13, 3) := by decide +kernel
theorem dX6_letter_26 : decode cX6_letter 26 = .ok (.iload 4, 2) := by decide +kernel
theorem dX6_letter_28 : decode cX6_letter 28 = .ok (.iconst 0, 1) := by decide +kernel
theorem dX6_letter_29 : decode cX6_letter 29 = .ok (.iconst 1, 1) := by decide +kernel
theorem dX6_letter_30 : decode cX6_letter 30 = .ok (.invokestatic 47, 3) := by decide +kernel
theorem dX6_letter_33 : decode cX6_letter 33 = .ok (.ifCond .ne 5, 3) := by decide +kernel
theorem dX6_letter_36 : decode cX6_letter 36 = .ok (.iconst (-1), 1) := by decide +kernel
theorem dX6_letter_37 : decode cX6_letter 37 = .ok (.ireturn, 1) := by decide +kernel
theorem dX6_letter_38 : decode cX6_letter 38 = .ok (.aload_n 0, 1) := by decide +kernel
theorem dX6_letter_39 : decode cX6_letter 39 = .ok (.iload_n 1, 1) := by decide +kernel
theorem dX6_letter_40 : decode cX6_letter 40 = .ok (.iload_n 2, 1) := by decide +kernel
theorem dX6_letter_41 : decode cX6_letter 41 = .ok (.invokevirtual 69, 3) := by decide +kernel
theorem dX6_letter_44 : decode cX6_letter 44 = .ok (.istore 5, 2) := by decide +kernel
theorem dX6_letter_46 : decode cX6_letter 46 = .ok (.iload_n 3, 1) := by decide +kernel
theorem dX6_letter_47 : decode cX6_letter 47 = .ok (.ifCond .ge 13, 3) := by decide +kernel
theorem dX6_letter_50 : decode cX6_letter 50 = .ok (.aload_n 0, 1) := by decide +kernel
theorem dX6_letter_51 : decode cX6_letter 51 = .ok (.getfield 17, 3) := by decide +kernel
theorem dX6_letter_54 : decode cX6_letter 54 = .ok (.iload 5, 2) := by decide +kernel
theorem dX6_letter_56 : decode cX6_letter 56 = .ok (.iaload, 1) := by decide +kernel
theorem dX6_letter_57 : decode cX6_letter 57 = .ok (.goto 35, 3) := by decide +kernel
theorem dX6_letter_60 : decode cX6_letter 60 = .ok (.iload_n 3, 1) := by decide +kernel
theorem dX6_letter_61 : decode cX6_letter 61 = .ok (.aload_n 0, 1) := by decide +kernel
theorem dX6_letter_62 : decode cX6_letter 62 = .ok (.getfield 17, 3) := by decide +kernel
theorem dX6_letter_65 : decode cX6_letter 65 = .ok (.iload 5, 2) := by decide +kernel
theorem dX6_letter_67 : decode cX6_letter 67 = .ok (.iaload, 1) := by decide +kernel
theorem dX6_letter_68 : decode cX6_letter 68 = .ok (.if_icmp .ge 22, 3) := by decide +kernel
theorem dX6_letter_71 : decode cX6_letter 71 = .ok (.aload_n 0, 1) := by decide +kernel
theorem dX6_letter_72 : decode cX6_letter 72 = .ok (.getfield 17, 3) := by decide +kernel
theorem dX6_letter_75 : decode cX6_letter 75 = .ok (.iload 5, 2) := by decide +kernel
theorem dX6_letter_77 : decode cX6_letter 77 = .ok (.iconst 1, 1) := by decide +kernel
theorem dX6_letter_78 : decode cX6_letter 78 = .ok (.iadd, 1) := by decide +kernel
theorem dX6_letter_79 : decode cX6_letter 79 = .ok (.iconst 2, 1) := by decide +kernel
theorem dX6_letter_80 : decode cX6_letter 80 = .ok (.iload_n 3, 1) := by decide +kernel
theorem dX6_letter_81 : decode cX6_letter 81 = .ok (.imul, 1) := by decide +kernel
theorem dX6_letter_82 : decode cX6_letter 82 = .ok (.iadd, 1) := by decide +kernel
theorem dX6_letter_83 : decode cX6_letter 83 = .ok (.iload 4, 2) := by decide +kernel
theorem dX6_letter_85 : decode cX6_letter 85 = .ok (.iadd, 1) := by decide +kernel
theorem dX6_letter_86 : decode cX6_letter 86 = .ok (.iaload, 1) := by decide +kernel
theorem dX6_letter_87 : decode cX6_letter 87 = .ok (.goto 5, 3) := by decide +kernel
theorem dX6_letter_90 : decode cX6_letter 90 = .ok (.bipush (-4), 2) := by decide +kernel
theorem dX6_letter_92 : decode cX6_letter 92 = .ok (.ireturn, 1) := by decide +kernel
theorem dX6_entry_0 : decode cX6_entry 0 = .ok (.iload_n 1, 1) := by decide +kernel
theorem dX6_entry_1 : decode cX6_entry 1 = .ok (.ifCond .lt 12, 3) := by decide +kernel
theorem dX6_entry_4 : decode cX6_entry 4 = .ok (.iload_n 2, 1) := by decide +kernel
theorem dX6_entry_5 : decode cX6_entry 5 = .ok (.iconst 0, 1) := by decide +kernel
theorem dX6_entry_6 : decode cX6_entry 6 = .ok (.iconst 2, 1) := by decide +kernel
theorem dX6_entry_7 : decode cX6_entry 7 = .ok (.invokestatic 47, 3) := by decide +kernel
theorem dX6_entry_10 : decode cX6_entry 10 = .ok (.ifCond .ne 5, 3) := by decide +kernel
theorem dX6_entry_13 : decode cX6_entry 13 = .ok (.iconst (-1), 1) := by decide +kernel
theorem dX6_entry_14 : decode cX6_entry 14 = .ok (.ireturn, 1) := by decide +kernel
theorem dX6_entry_15 : decode cX6_entry 15 = .ok (.iload_n 1, 1) := by decide +kernel
theorem dX6_entry_16 : decode cX6_entry 16 = .ok (.bipush 60, 2) := by decide +kernel
theorem dX6_entry_18 : decode cX6_entry 18 = .ok (.if_icmp .ge 29, 3) := by decide +kernel
theorem dX6_entry_21 : decode cX6_entry 21 = .ok (.iload_n 1, 1) := by decide +kernel
theorem dX6_entry_22 : decode cX6_entry 22 = .ok (.aload_n 0, 1) := by decide +kernel
theorem dX6_entry_23 : decode cX6_entry 23 = .ok (.getfield 20, 3) := by decide +kernel
theorem dX6_entry_26 : decode cX6_entry 26 = .ok (.iconst 0, 1) := by decide +kernel
theorem dX6_entry_27 : decode cX6_entry 27 = .ok (.iaload, 1) := by decide +kernel
theorem dX6_entry_28 : decode cX6_entry 28 = .ok (.if_icmp .ge 19, 3) := by decide +kernel
theorem dX6_entry_31 : decode cX6_entry 31 = .ok (.aload_n 0, 1) := by decide +kernel
theorem dX6_entry_32 : decode cX6_entry 32 = .ok (.getfield 20, 3) := by decide +kernel
theorem dX6_entry_35 : decode cX6_entry 35 = .ok (.bipush 10, 2) := by decide +kernel
theorem dX6_entry_37 : decode cX6_entry 37 = .ok (.iconst 3, 1) := by decide +kernel
theorem dX6_entry_38 : decode cX6_entry 38 = .ok (.iload_n 1, 1) := by decide +kernel
theorem dX6_entry_39 : decode cX6_entry 39 = .ok (.imul, 1) := by decide +kernel
theorem dX6_entry_40 : decode cX6_entry 40 = .ok (.iadd, 1) := by decide +kernel
theorem dX6_entry_41 : decode cX6_entry 41 = .ok (.iload_n 2, 1) := by decide +kernel
theorem dX6_entry_42 : decode cX6_entry 42 = .ok (.iadd, 1) := by decide +kernel
theorem dX6_entry_43 : decode cX6_entry 43 = .ok (.iaload, 1) := by decide +kernel
theorem dX6_entry_44 : decode cX6_entry 44 = .ok (.goto 5, 3) := by decide +kernel
theorem dX6_entry_47 : decode cX6_entry 47 = .ok (.bipush (-4), 2) := by decide +kernel
theorem dX6_entry_49 : decode cX6_entry 49 = .ok (.ireturn, 1) := by decide +kernel
theorem dX6_undo_0 : decode cX6_undo 0 = .ok (.aload_n 0, 1) := by decide +kernel
theorem dX6_undo_1 : decode cX6_undo 1 = .ok (.getfield 54, 3) := by decide +kernel
theorem dX6_undo_4 : decode cX6_undo 4 = .ok (.ifCond .ne 6, 3) := by decide +kernel
theorem dX6_undo_7 : decode cX6_undo 7 = .ok (.bipush (-2), 2) := by decide +kernel
theorem dX6_undo_9 : decode cX6_undo 9 = .ok (.ireturn, 1) := by decide +kernel
theorem dX6_undo_10 : decode cX6_undo 10 = .ok (.aload_n 0, 1) := by decide +kernel
theorem dX6_undo_11 : decode cX6_undo 11 = .ok (.dup, 1) := by decide +kernel
theorem dX6_undo_12 : decode cX6_undo 12 = .ok (.getfield 54, 3) := by decide +kernel
theorem dX6_undo_15 : decode cX6_undo 15 = .ok (.iconst 1, 1) := by decide +kernel
theorem dX6_undo_16 : decode cX6_undo 16 = .ok (.isub, 1) := by decide +kernel
theorem dX6_undo_17 : decode cX6_undo 17 = .ok (.putfield 54, 3) := by decide +kernel
theorem dX6_undo_20 : decode cX6_undo 20 = .ok (.iconst 0, 1) := by decide +kernel
theorem dX6_undo_21 : decode cX6_undo 21 = .ok (.istore_n 1, 1) := by decide +kernel
theorem dX6_undo_22 : decode cX6_undo 22 = .ok (.iload_n 1, 1) := by decide +kernel
theorem dX6_undo_23 : decode cX6_undo 23 = .ok (.sipush 1040, 3) := by decide +kernel
theorem dX6_undo_26 : decode cX6_undo 26 = .ok (.if_icmp .ge 30, 3) := by decide +kernel
theorem dX6_undo_29 : decode cX6_undo 29 = .ok (.aload_n 0, 1) := by decide +kernel
theorem dX6_undo_30 : decode cX6_undo 30 = .ok (.getfield 17, 3) := by decide +kernel
theorem dX6_undo_33 : decode cX6_undo 33 = .ok (.iload_n 1, 1) := by decide +kernel
theorem dX6_undo_34 : decode cX6_undo 34 = .ok (.aload_n 0, 1) := by decide +kernel
theorem dX6_undo_35 : decode cX6_undo 35 = .ok (.getfield 28, 3) := by decide +kernel
theorem dX6_undo_38 : decode cX6_undo 38 = .ok (.sipush 1230, 3) := by decide +kernel
theorem dX6_undo_41 : decode cX6_undo 41 = .ok (.aload_n 0, 1) := by decide +kernel
theorem dX6_undo_42 : decode cX6_undo 42 = .ok (.getfield 54, 3) := by decide +kernel
theorem dX6_undo_45 : decode cX6_undo 45 = .ok (.imul, 1) := by decide +kernel
theorem dX6_undo_46 : decode cX6_undo 46 = .ok (.iload_n 1, 1) := by decide +kernel
theorem dX6_undo_47 : decode cX6_undo 47 = .ok (.iadd, 1) := by decide +kernel
theorem dX6_undo_48 : decode cX6_undo 48 = .ok (.iaload, 1) := by decide +kernel
theorem dX6_undo_49 : decode cX6_undo 49 = .ok (.iastore, 1) := by decide +kernel
theorem dX6_undo_50 : decode cX6_undo 50 = .ok (.iinc 1 1, 3) := by decide +kernel
theorem dX6_undo_53 : decode cX6_undo 53 = .ok (.goto (-31), 3) := by decide +kernel
theorem dX6_undo_56 : decode cX6_undo 56 = .ok (.iconst 0, 1) := by decide +kernel
theorem dX6_undo_57 : decode cX6_undo 57 = .ok (.istore_n 1, 1) := by decide +kernel
theorem dX6_undo_58 : decode cX6_undo 58 = .ok (.iload_n 1, 1) := by decide +kernel
theorem dX6_undo_59 : decode cX6_undo 59 = .ok (.sipush 190, 3) := by decide +kernel
theorem dX6_undo_62 : decode cX6_undo 62 = .ok (.if_icmp .ge 34, 3) := by decide +kernel
theorem dX6_undo_65 : decode cX6_undo 65 = .ok (.aload_n 0, 1) := by decide +kernel
theorem dX6_undo_66 : decode cX6_undo 66 = .ok (.getfield 20, 3) := by decide +kernel
theorem dX6_undo_69 : decode cX6_undo 69 = .ok (.iload_n 1, 1) := by decide +kernel
theorem dX6_undo_70 : decode cX6_undo 70 = .ok (.aload_n 0, 1) := by decide +kernel
theorem dX6_undo_71 : decode cX6_undo 71 = .ok (.getfield 28, 3) := by decide +kernel
theorem dX6_undo_74 : decode cX6_undo 74 = .ok (.sipush 1230, 3) := by decide +kernel
theorem dX6_undo_77 : decode cX6_undo 77 = .ok (.aload_n 0, 1) := by decide +kernel
theorem dX6_undo_78 : decode cX6_undo 78 = .ok (.getfield 54, 3) := by decide +kernel
theorem dX6_undo_81 : decode cX6_undo 81 = .ok (.imul, 1) := by decide +kernel
theorem dX6_undo_82 : decode cX6_undo 82 = .ok (.sipush 1040, 3) := by decide +kernel
theorem dX6_undo_85 : decode cX6_undo 85 = .ok (.iadd, 1) := by decide +kernel
theorem dX6_undo_86 : decode cX6_undo 86 = .ok (.iload_n 1, 1) := by decide +kernel
theorem dX6_undo_87 : decode cX6_undo 87 = .ok (.iadd, 1) := by decide +kernel
theorem dX6_undo_88 : decode cX6_undo 88 = .ok (.iaload, 1) := by decide +kernel
theorem dX6_undo_89 : decode cX6_undo 89 = .ok (.iastore, 1) := by decide +kernel
theorem dX6_undo_90 : decode cX6_undo 90 = .ok (.iinc 1 1, 3) := by decide +kernel
theorem dX6_undo_93 : decode cX6_undo 93 = .ok (.goto (-35), 3) := by decide +kernel
theorem dX6_undo_96 : decode cX6_undo 96 = .ok (.iconst 1, 1) := by decide +kernel
theorem dX6_undo_97 : decode cX6_undo 97 = .ok (.ireturn, 1) := by decide +kernel
theorem dX6_slotOf_0 : decode cX6_slotOf 0 = .ok (.bipush 7, 2) := by decide +kernel
theorem dX6_slotOf_2 : decode cX6_slotOf 2 = .ok (.istore_n 1, 1) := by decide +kernel
theorem dX6_slotOf_3 : decode cX6_slotOf 3 = .ok (.iconst 0, 1) := by decide +kernel
theorem dX6_slotOf_4 : decode cX6_slotOf 4 = .ok (.istore_n 2, 1) := by decide +kernel
theorem dX6_slotOf_5 : decode cX6_slotOf 5 = .ok (.iload_n 2, 1) := by decide +kernel
theorem dX6_slotOf_6 : decode cX6_slotOf 6 = .ok (.sipush 1040, 3) := by decide +kernel
theorem dX6_slotOf_9 : decode cX6_slotOf 9 = .ok (.if_icmp .ge 21, 3) := by decide +kernel
theorem dX6_slotOf_12 : decode cX6_slotOf 12 = .ok (.bipush 31, 2) := by decide +kernel
theorem dX6_slotOf_14 : decode cX6_slotOf 14 = .ok (.iload_n 1, 1) := by decide +kernel
theorem dX6_slotOf_15 : decode cX6_slotOf 15 = .ok (.imul, 1) := by decide +kernel
theorem dX6_slotOf_16 : decode cX6_slotOf 16 = .ok (.aload_n 0, 1) := by decide +kernel
theorem dX6_slotOf_17 : decode cX6_slotOf 17 = .ok (.getfield 17, 3) := by decide +kernel
theorem dX6_slotOf_20 : decode cX6_slotOf 20 = .ok (.iload_n 2, 1) := by decide +kernel
theorem dX6_slotOf_21 : decode cX6_slotOf 21 = .ok (.iaload, 1) := by decide +kernel
theorem dX6_slotOf_22 : decode cX6_slotOf 22 = .ok (.iadd, 1) := by decide +kernel
theorem dX6_slotOf_23 : decode cX6_slotOf 23 = .ok (.istore_n 1, 1) := by decide +kernel
theorem dX6_slotOf_24 : decode cX6_slotOf 24 = .ok (.iinc 2 1, 3) := by decide +kernel
theorem dX6_slotOf_27 : decode cX6_slotOf 27 = .ok (.goto (-22), 3) := by decide +kernel
theorem dX6_slotOf_30 : decode cX6_slotOf 30 = .ok (.iload_n 1, 1) := by decide +kernel
theorem dX6_slotOf_31 : decode cX6_slotOf 31 = .ok (.iload_n 1, 1) := by decide +kernel
theorem dX6_slotOf_32 : decode cX6_slotOf 32 = .ok (.bipush 13, 2) := by decide +kernel
theorem dX6_slotOf_34 : decode cX6_slotOf 34 = .ok (.iushr, 1) := by decide +kernel
theorem dX6_slotOf_35 : decode cX6_slotOf 35 = .ok (.ixor, 1) := by decide +kernel
theorem dX6_slotOf_36 : decode cX6_slotOf 36 = .ok (.sipush 1023, 3) := by decide +kernel
theorem dX6_slotOf_39 : decode cX6_slotOf 39 = .ok (.iand, 1) := by decide +kernel
theorem dX6_slotOf_40 : decode cX6_slotOf 40 = .ok (.istore_n 2, 1) := by decide +kernel
theorem dX6_slotOf_41 : decode cX6_slotOf 41 = .ok (.aload_n 0, 1) := by decide +kernel
theorem dX6_slotOf_42 : decode cX6_slotOf 42 = .ok (.getfield 38, 3) := by decide +kernel
theorem dX6_slotOf_45 : decode cX6_slotOf 45 = .ok (.iload_n 2, 1) := by decide +kernel
theorem dX6_slotOf_46 : decode cX6_slotOf 46 = .ok (.iaload, 1) := by decide +kernel
theorem dX6_slotOf_47 : decode cX6_slotOf 47 = .ok (.ifCond .le 29, 3) := by decide +kernel
theorem dX6_slotOf_50 : decode cX6_slotOf 50 = .ok (.aload_n 0, 1) := by decide +kernel
theorem dX6_slotOf_51 : decode cX6_slotOf 51 = .ok (.aload_n 0, 1) := by decide +kernel
theorem dX6_slotOf_52 : decode cX6_slotOf 52 = .ok (.getfield 38, 3) := by decide +kernel
theorem dX6_slotOf_55 : decode cX6_slotOf 55 = .ok (.iload_n 2, 1) := by decide +kernel
theorem dX6_slotOf_56 : decode cX6_slotOf 56 = .ok (.iaload, 1) := by decide +kernel
theorem dX6_slotOf_57 : decode cX6_slotOf 57 = .ok (.iconst 1, 1) := by decide +kernel
theorem dX6_slotOf_58 : decode cX6_slotOf 58 = .ok (.isub, 1) := by decide +kernel
theorem dX6_slotOf_59 : decode cX6_slotOf 59 = .ok (.invokevirtual 150, 3) := by decide +kernel
theorem dX6_slotOf_62 : decode cX6_slotOf 62 = .ok (.ifCond .ne 14, 3) := by decide +kernel
theorem dX6_slotOf_65 : decode cX6_slotOf 65 = .ok (.iload_n 2, 1) := by decide +kernel
theorem dX6_slotOf_66 : decode cX6_slotOf 66 = .ok (.iconst 1, 1) := by decide +kernel
theorem dX6_slotOf_67 : decode cX6_slotOf 67 = .ok (.iadd, 1) := by decide +kernel
theorem dX6_slotOf_68 : decode cX6_slotOf 68 = .ok (.sipush 1023, 3) := by decide +kernel
theorem dX6_slotOf_71 : decode cX6_slotOf 71 = .ok (.iand, 1) := by decide +kernel
theorem dX6_slotOf_72 : decode cX6_slotOf 72 = .ok (.istore_n 2, 1) := by decide +kernel
theorem dX6_slotOf_73 : decode cX6_slotOf 73 = .ok (.goto (-32), 3) := by decide +kernel
theorem dX6_slotOf_76 : decode cX6_slotOf 76 = .ok (.iload_n 2, 1) := by decide +kernel
theorem dX6_slotOf_77 : decode cX6_slotOf 77 = .ok (.ireturn, 1) := by decide +kernel
theorem dX6_isState_0 : decode cX6_isState 0 = .ok (.iconst 1, 1) := by decide +kernel
theorem dX6_isState_1 : decode cX6_isState 1 = .ok (.istore_n 2, 1) := by decide +kernel
theorem dX6_isState_2 : decode cX6_isState 2 = .ok (.iconst 0, 1) := by decide +kernel
theorem dX6_isState_3 : decode cX6_isState 3 = .ok (.istore_n 3, 1) := by decide +kernel
theorem dX6_isState_4 : decode cX6_isState 4 = .ok (.iload_n 3, 1) := by decide +kernel
theorem dX6_isState_5 : decode cX6_isState 5 = .ok (.sipush 1040, 3) := by decide +kernel
theorem dX6_isState_8 : decode cX6_isState 8 = .ok (.if_icmp .ge 40, 3) := by decide +kernel
theorem dX6_isState_11 : decode cX6_isState 11 = .ok (.iload_n 2, 1) := by decide +kernel
theorem dX6_isState_12 : decode cX6_isState 12 = .ok (.ifCond .eq 36, 3) := by decide +kernel
theorem dX6_isState_15 : decode cX6_isState 15 = .ok (.aload_n 0, 1) := by decide +kernel
theorem dX6_isState_16 : decode cX6_isState 16 = .ok (.getfield 35, 3) := by decide +kernel
theorem dX6_isState_19 : decode cX6_isState 19 = .ok (.sipush 1040, 3) := by decide +kernel
theorem dX6_isState_22 : decode cX6_isState 22 = .ok (.iload_n 1, 1) := by decide +kernel
theorem dX6_isState_23 : decode cX6_isState 23 = .ok (.imul, 1) := by decide +kernel
theorem dX6_isState_24 : decode cX6_isState 24 = .ok (.iload_n 3, 1) := by decide +kernel
theorem dX6_isState_25 : decode cX6_isState 25 = .ok (.iadd, 1) := by decide +kernel
theorem dX6_isState_26 : decode cX6_isState 26 = .ok (.iaload, 1) := by decide +kernel
theorem dX6_isState_27 : decode cX6_isState 27 = .ok (.aload_n 0, 1) := by decide +kernel
theorem dX6_isState_28 : decode cX6_isState 28 = .ok (.getfield 17, 3) := by decide +kernel
theorem dX6_isState_31 : decode cX6_isState 31 = .ok (.iload_n 3, 1) := by decide +kernel
theorem dX6_isState_32 : decode cX6_isState 32 = .ok (.iaload, 1) := by decide +kernel
theorem dX6_isState_33 : decode cX6_isState 33 = .ok (.if_icmp .ne 7, 3) := by decide +kernel
theorem dX6_isState_36 : decode cX6_isState 36 = .ok (.iconst 1, 1) := by decide +kernel
theorem dX6_isState_37 : decode cX6_isState 37 = .ok (.goto 4, 3) := by decide +kernel
theorem dX6_isState_40 : decode cX6_isState 40 = .ok (.iconst 0, 1) := by decide +kernel
theorem dX6_isState_41 : decode cX6_isState 41 = .ok (.istore_n 2, 1) := by decide +kernel
theorem dX6_isState_42 : decode cX6_isState 42 = .ok (.iinc 3 1, 3) := by decide +kernel
theorem dX6_isState_45 : decode cX6_isState 45 = .ok (.goto (-41), 3) := by decide +kernel
theorem dX6_isState_48 : decode cX6_isState 48 = .ok (.iload_n 2, 1) := by decide +kernel
theorem dX6_isState_49 : decode cX6_isState 49 = .ok (.ireturn, 1) := by decide +kernel
theorem dX6_meets_0 : decode cX6_meets 0 = .ok (.aload_n 0, 1) := by decide +kernel
theorem dX6_meets_1 : decode cX6_meets 1 = .ok (.invokevirtual 153, 3) := by decide +kernel
theorem dX6_meets_4 : decode cX6_meets 4 = .ok (.istore_n 1, 1) := by decide +kernel
theorem dX6_meets_5 : decode cX6_meets 5 = .ok (.aload_n 0, 1) := by decide +kernel
theorem dX6_meets_6 : decode cX6_meets 6 = .ok (.getfield 38, 3) := by decide +kernel
theorem dX6_meets_9 : decode cX6_meets 9 = .ok (.iload_n 1, 1) := by decide +kernel
theorem dX6_meets_10 : decode cX6_meets 10 = .ok (.iaload, 1) := by decide +kernel
theorem dX6_meets_11 : decode cX6_meets 11 = .ok (.ifCond .le 4, 3) := by decide +kernel
theorem dX6_meets_14 : decode cX6_meets 14 = .ok (.return_, 1) := by decide +kernel
theorem dX6_meets_15 : decode cX6_meets 15 = .ok (.aload_n 0, 1) := by decide +kernel
theorem dX6_meets_16 : decode cX6_meets 16 = .ok (.getfield 156, 3) := by decide +kernel
theorem dX6_meets_19 : decode cX6_meets 19 = .ok (.sipush 300, 3) := by decide +kernel
theorem dX6_meets_22 : decode cX6_meets 22 = .ok (.if_icmp .ne 9, 3) := by decide +kernel
theorem dX6_meets_25 : decode cX6_meets 25 = .ok (.aload_n 0, 1) := by decide +kernel
theorem dX6_meets_26 : decode cX6_meets 26 = .ok (.iconst 1, 1) := by decide +kernel
theorem dX6_meets_27 : decode cX6_meets 27 = .ok (.putfield 159, 3) := by decide +kernel
theorem dX6_meets_30 : decode cX6_meets 30 = .ok (.return_, 1) := by decide +kernel
theorem dX6_meets_31 : decode cX6_meets 31 = .ok (.aload_n 0, 1) := by decide +kernel
theorem dX6_meets_32 : decode cX6_meets 32 = .ok (.getfield 38, 3) := by decide +kernel
theorem dX6_meets_35 : decode cX6_meets 35 = .ok (.iload_n 1, 1) := by decide +kernel
theorem dX6_meets_36 : decode cX6_meets 36 = .ok (.aload_n 0, 1) := by decide +kernel
theorem dX6_meets_37 : decode cX6_meets 37 = .ok (.getfield 156, 3) := by decide +kernel
theorem dX6_meets_40 : decode cX6_meets 40 = .ok (.iconst 1, 1) := by decide +kernel
theorem dX6_meets_41 : decode cX6_meets 41 = .ok (.iadd, 1) := by decide +kernel
theorem dX6_meets_42 : decode cX6_meets 42 = .ok (.iastore, 1) := by decide +kernel
theorem dX6_meets_43 : decode cX6_meets 43 = .ok (.iconst 0, 1) := by decide +kernel
theorem dX6_meets_44 : decode cX6_meets 44 = .ok (.istore_n 2, 1) := by decide +kernel
theorem dX6_meets_45 : decode cX6_meets 45 = .ok (.iload_n 2, 1) := by decide +kernel
theorem dX6_meets_46 : decode cX6_meets 46 = .ok (.sipush 1040, 3) := by decide +kernel
theorem dX6_meets_49 : decode cX6_meets 49 = .ok (.if_icmp .ge 30, 3) := by decide +kernel
theorem dX6_meets_52 : decode cX6_meets 52 = .ok (.aload_n 0, 1) := by decide +kernel
theorem dX6_meets_53 : decode cX6_meets 53 = .ok (.getfield 35, 3) := by decide +kernel
theorem dX6_meets_56 : decode cX6_meets 56 = .ok (.sipush 1040, 3) := by decide +kernel
theorem dX6_meets_59 : decode cX6_meets 59 = .ok (.aload_n 0, 1) := by decide +kernel
theorem dX6_meets_60 : decode cX6_meets 60 = .ok (.getfield 156, 3) := by decide +kernel
theorem dX6_meets_63 : decode cX6_meets 63 = .ok (.imul, 1) := by decide +kernel
theorem dX6_meets_64 : decode cX6_meets 64 = .ok (.iload_n 2, 1) := by decide +kernel
theorem dX6_meets_65 : decode cX6_meets 65 = .ok (.iadd, 1) := by decide +kernel
theorem dX6_meets_66 : decode cX6_meets 66 = .ok (.aload_n 0, 1) := by decide +kernel
theorem dX6_meets_67 : decode cX6_meets 67 = .ok (.getfield 17, 3) := by decide +kernel
theorem dX6_meets_70 : decode cX6_meets 70 = .ok (.iload_n 2, 1) := by decide +kernel
theorem dX6_meets_71 : decode cX6_meets 71 = .ok (.iaload, 1) := by decide +kernel
theorem dX6_meets_72 : decode cX6_meets 72 = .ok (.iastore, 1) := by decide +kernel
theorem dX6_meets_73 : decode cX6_meets 73 = .ok (.iinc 2 1, 3) := by decide +kernel
theorem dX6_meets_76 : decode cX6_meets 76 = .ok (.goto (-31), 3) := by decide +kernel
theorem dX6_meets_79 : decode cX6_meets 79 = .ok (.aload_n 0, 1) := by decide +kernel
theorem dX6_meets_80 : decode cX6_meets 80 = .ok (.dup, 1) := by decide +kernel
theorem dX6_meets_81 : decode cX6_meets 81 = .ok (.getfield 156, 3) := by decide +kernel
theorem dX6_meets_84 : decode cX6_meets 84 = .ok (.iconst 1, 1) := by decide +kernel
theorem dX6_meets_85 : decode cX6_meets 85 = .ok (.iadd, 1) := by decide +kernel
theorem dX6_meets_86 : decode cX6_meets 86 = .ok (.putfield 156, 3) := by decide +kernel
theorem dX6_meets_89 : decode cX6_meets 89 = .ok (.return_, 1) := by decide +kernel
theorem dX6_load_0 : decode cX6_load 0 = .ok (.iconst 0, 1) := by decide +kernel
theorem dX6_load_1 : decode cX6_load 1 = .ok (.istore_n 2, 1) := by decide +kernel
theorem dX6_load_2 : decode cX6_load 2 = .ok (.iload_n 2, 1) := by decide +kernel
theorem dX6_load_3 : decode cX6_load 3 = .ok (.sipush 1040, 3) := by decide +kernel
theorem dX6_load_6 : decode cX6_load 6 = .ok (.if_icmp .ge 27, 3) := by decide +kernel
theorem dX6_load_9 : decode cX6_load 9 = .ok (.aload_n 0, 1) := by decide +kernel
theorem dX6_load_10 : decode cX6_load 10 = .ok (.getfield 17, 3) := by decide +kernel
theorem dX6_load_13 : decode cX6_load 13 = .ok (.iload_n 2, 1) := by decide +kernel
theorem dX6_load_14 : decode cX6_load 14 = .ok (.aload_n 0, 1) := by decide +kernel
theorem dX6_load_15 : decode cX6_load 15 = .ok (.getfield 35, 3) := by decide +kernel
theorem dX6_load_18 : decode cX6_load 18 = .ok (.sipush 1040, 3) := by decide +kernel
theorem dX6_load_21 : decode cX6_load 21 = .ok (.iload_n 1, 1) := by decide +kernel
theorem dX6_load_22 : decode cX6_load 22 = .ok (.imul, 1) := by decide +kernel
theorem dX6_load_23 : decode cX6_load 23 = .ok (.iload_n 2, 1) := by decide +kernel
theorem dX6_load_24 : decode cX6_load 24 = .ok (.iadd, 1) := by decide +kernel
theorem dX6_load_25 : decode cX6_load 25 = .ok (.iaload, 1) := by decide +kernel
theorem dX6_load_26 : decode cX6_load 26 = .ok (.iastore, 1) := by decide +kernel
theorem dX6_load_27 : decode cX6_load 27 = .ok (.iinc 2 1, 3) := by decide +kernel
theorem dX6_load_30 : decode cX6_load 30 = .ok (.goto (-28), 3) := by decide +kernel
theorem dX6_load_33 : decode cX6_load 33 = .ok (.aload_n 0, 1) := by decide +kernel
theorem dX6_load_34 : decode cX6_load 34 = .ok (.iconst 0, 1) := by decide +kernel
theorem dX6_load_35 : decode cX6_load 35 = .ok (.putfield 73, 3) := by decide +kernel
theorem dX6_load_38 : decode cX6_load 38 = .ok (.return_, 1) := by decide +kernel
theorem dX6_underWay_0 : decode cX6_underWay 0 = .ok (.iconst 0, 1) := by decide +kernel
theorem dX6_underWay_1 : decode cX6_underWay 1 = .ok (.istore_n 1, 1) := by decide +kernel
theorem dX6_underWay_2 : decode cX6_underWay 2 = .ok (.iconst 0, 1) := by decide +kernel
theorem dX6_underWay_3 : decode cX6_underWay 3 = .ok (.istore_n 2, 1) := by decide +kernel
theorem dX6_underWay_4 : decode cX6_underWay 4 = .ok (.iload_n 2, 1) := by decide +kernel
theorem dX6_underWay_5 : decode cX6_underWay 5 = .ok (.bipush 36, 2) := by decide +kernel
theorem dX6_underWay_7 : decode cX6_underWay 7 = .ok (.if_icmp .ge 25, 3) := by decide +kernel
theorem dX6_underWay_10 : decode cX6_underWay 10 = .ok (.iload_n 1, 1) := by decide +kernel
theorem dX6_underWay_11 : decode cX6_underWay 11 = .ok (.aload_n 0, 1) := by decide +kernel
theorem dX6_underWay_12 : decode cX6_underWay 12 = .ok (.getfield 17, 3) := by decide +kernel
theorem dX6_underWay_15 : decode cX6_underWay 15 = .ok (.sipush 140, 3) := by decide +kernel
theorem dX6_underWay_18 : decode cX6_underWay 18 = .ok (.bipush 25, 2) := by decide +kernel
theorem dX6_underWay_20 : decode cX6_underWay 20 = .ok (.iload_n 2, 1) := by decide +kernel
theorem dX6_underWay_21 : decode cX6_underWay 21 = .ok (.imul, 1) := by decide +kernel
theorem dX6_underWay_22 : decode cX6_underWay 22 = .ok (.iadd, 1) := by decide +kernel
theorem dX6_underWay_23 : decode cX6_underWay 23 = .ok (.iaload, 1) := by decide +kernel
theorem dX6_underWay_24 : decode cX6_underWay 24 = .ok (.iadd, 1) := by decide +kernel
theorem dX6_underWay_25 : decode cX6_underWay 25 = .ok (.istore_n 1, 1) := by decide +kernel
theorem dX6_underWay_26 : decode cX6_underWay 26 = .ok (.iinc 2 1, 3) := by decide +kernel
theorem dX6_underWay_29 : decode cX6_underWay 29 = .ok (.goto (-25), 3) := by decide +kernel
theorem dX6_underWay_32 : decode cX6_underWay 32 = .ok (.iload_n 1, 1) := by decide +kernel
theorem dX6_underWay_33 : decode cX6_underWay 33 = .ok (.ireturn, 1) := by decide +kernel
theorem dX6_ofMode_0 : decode cX6_ofMode 0 = .ok (.iconst 0, 1) := by decide +kernel
theorem dX6_ofMode_1 : decode cX6_ofMode 1 = .ok (.istore_n 2, 1) := by decide +kernel
theorem dX6_ofMode_2 : decode cX6_ofMode 2 = .ok (.iconst 0, 1) := by decide +kernel
theorem dX6_ofMode_3 : decode cX6_ofMode 3 = .ok (.istore_n 3, 1) := by decide +kernel
theorem dX6_ofMode_4 : decode cX6_ofMode 4 = .ok (.iload_n 3, 1) := by decide +kernel
theorem dX6_ofMode_5 : decode cX6_ofMode 5 = .ok (.aload_n 0, 1) := by decide +kernel
theorem dX6_ofMode_6 : decode cX6_ofMode 6 = .ok (.getfield 7, 3) := by decide +kernel
theorem dX6_ofMode_9 : decode cX6_ofMode 9 = .ok (.if_icmp .ge 32, 3) := by decide +kernel
theorem dX6_ofMode_12 : decode cX6_ofMode 12 = .ok (.iload_n 2, 1) := by decide +kernel
theorem dX6_ofMode_13 : decode cX6_ofMode 13 = .ok (.aload_n 0, 1) := by decide +kernel
theorem dX6_ofMode_14 : decode cX6_ofMode 14 = .ok (.getfield 17, 3) := by decide +kernel
theorem dX6_ofMode_17 : decode cX6_ofMode 17 = .ok (.bipush 21, 2) := by decide +kernel
theorem dX6_ofMode_19 : decode cX6_ofMode 19 = .ok (.iload_n 3, 1) := by decide +kernel
theorem dX6_ofMode_20 : decode cX6_ofMode 20 = .ok (.imul, 1) := by decide +kernel
theorem dX6_ofMode_21 : decode cX6_ofMode 21 = .ok (.iconst 0, 1) := by decide +kernel
theorem dX6_ofMode_22 : decode cX6_ofMode 22 = .ok (.iadd, 1) := by decide +kernel
theorem dX6_ofMode_23 : decode cX6_ofMode 23 = .ok (.iaload, 1) := by decide +kernel
theorem dX6_ofMode_24 : decode cX6_ofMode 24 = .ok (.iload_n 1, 1) := by decide +kernel
theorem dX6_ofMode_25 : decode cX6_ofMode 25 = .ok (.if_icmp .ne 7, 3) := by decide +kernel
theorem dX6_ofMode_28 : decode cX6_ofMode 28 = .ok (.iconst 1, 1) := by decide +kernel
theorem dX6_ofMode_29 : decode cX6_ofMode 29 = .ok (.goto 4, 3) := by decide +kernel
theorem dX6_ofMode_32 : decode cX6_ofMode 32 = .ok (.iconst 0, 1) := by decide +kernel
theorem dX6_ofMode_33 : decode cX6_ofMode 33 = .ok (.iadd, 1) := by decide +kernel
theorem dX6_ofMode_34 : decode cX6_ofMode 34 = .ok (.istore_n 2, 1) := by decide +kernel
theorem dX6_ofMode_35 : decode cX6_ofMode 35 = .ok (.iinc 3 1, 3) := by decide +kernel
theorem dX6_ofMode_38 : decode cX6_ofMode 38 = .ok (.goto (-34), 3) := by decide +kernel
theorem dX6_ofMode_41 : decode cX6_ofMode 41 = .ok (.iload_n 2, 1) := by decide +kernel
theorem dX6_ofMode_42 : decode cX6_ofMode 42 = .ok (.ireturn, 1) := by decide +kernel
theorem dX6_isTokenSomewhere_0 : decode cX6_isTokenSomewhere 0 = .ok (.iconst 0, 1) := by decide +kernel
theorem dX6_isTokenSomewhere_1 : decode cX6_isTokenSomewhere 1 = .ok (.istore_n 1, 1) := by decide +kernel
theorem dX6_isTokenSomewhere_2 : decode cX6_isTokenSomewhere 2 = .ok (.iconst 0, 1) := by decide +kernel
theorem dX6_isTokenSomewhere_3 : decode cX6_isTokenSomewhere 3 = .ok (.istore_n 2, 1) := by decide +kernel
theorem dX6_isTokenSomewhere_4 : decode cX6_isTokenSomewhere 4 = .ok (.iload_n 2, 1) := by decide +kernel
theorem dX6_isTokenSomewhere_5 : decode cX6_isTokenSomewhere 5 = .ok (.aload_n 0, 1) := by decide +kernel
theorem dX6_isTokenSomewhere_6 : decode cX6_isTokenSomewhere 6 = .ok (.getfield 7, 3) := by decide +kernel
theorem dX6_isTokenSomewhere_9 : decode cX6_isTokenSomewhere 9 = .ok (.if_icmp .ge 100, 3) := by decide +kernel
theorem dX6_isTokenSomewhere_12 : decode cX6_isTokenSomewhere 12 = .ok (.iload_n 1, 1) := by decide +kernel
theorem dX6_isTokenSomewhere_13 : decode cX6_isTokenSomewhere 13 = .ok (.ifCond .ne 11, 3) := by decide +kernel
theorem dX6_isTokenSomewhere_16 : decode cX6_isTokenSomewhere 16 = .ok (.aload_n 0, 1) := by decide +kernel
theorem dX6_isTokenSomewhere_17 : decode cX6_isTokenSomewhere 17 = .ok (.iload_n 2, 1) := by decide +kernel
theorem dX6_isTokenSomewhere_18 : decode cX6_isTokenSomewhere 18 = .ok (.invokevirtual 147, 3) := by decide +kernel
theorem dX6_isTokenSomewhere_21 : decode cX6_isTokenSomewhere 21 = .ok (.ifCond .eq 7, 3) := by decide +kernel
theorem dX6_isTokenSomewhere_24 : decode cX6_isTokenSomewhere 24 = .ok (.iconst 1, 1) := by decide +kernel
theorem dX6_isTokenSomewhere_25 : decode cX6_isTokenSomewhere 25 = .ok (.goto 4, 3) := by decide +kernel
theorem dX6_isTokenSomewhere_28 : decode cX6_isTokenSomewhere 28 = .ok (.iconst 0, 1) := by decide +kernel
theorem dX6_isTokenSomewhere_29 : decode cX6_isTokenSomewhere 29 = .ok (.istore_n 1, 1) := by decide +kernel
theorem dX6_isTokenSomewhere_30 : decode cX6_isTokenSomewhere 30 = .ok (.iconst 0, 1) := by decide +kernel
theorem dX6_isTokenSomewhere_31 : decode cX6_isTokenSomewhere 31 = .ok (.istore_n 3, 1) := by decide +kernel
theorem dX6_isTokenSomewhere_32 : decode cX6_isTokenSomewhere 32 = .ok (.iload_n 3, 1) := by decide +kernel
theorem dX6_isTokenSomewhere_33 : decode cX6_isTokenSomewhere 33 = .ok (.aload_n 0, 1) := by decide +kernel
theorem dX6_isTokenSomewhere_34 : decode cX6_isTokenSomewhere 34 = .ok (.getfield 7, 3) := by decide +kernel
theorem dX6_isTokenSomewhere_37 : decode cX6_isTokenSomewhere 37 = .ok (.if_icmp .ge 66, 3) := by decide +kernel
theorem dX6_isTokenSomewhere_40 : decode cX6_isTokenSomewhere 40 = .ok (.iconst 0, 1) := by decide +kernel
theorem dX6_isTokenSomewhere_41 : decode cX6_isTokenSomewhere 41 = .ok (.istore 4, 2) := by decide +kernel
theorem dX6_isTokenSomewhere_43 : decode cX6_isTokenSomewhere 43 = .ok (.iload 4, 2) := by decide +kernel
theorem dX6_isTokenSomewhere_45 : decode cX6_isTokenSomewhere 45 = .ok (.aload_n 0, 1) := by decide +kernel
theorem dX6_isTokenSomewhere_46 : decode cX6_isTokenSomewhere 46 = .ok (.getfield 17, 3) := by decide +kernel
theorem dX6_isTokenSomewhere_49 : decode cX6_isTokenSomewhere 49 = .ok (.aload_n 0, 1) := by decide +kernel
theorem dX6_isTokenSomewhere_50 : decode cX6_isTokenSomewhere 50 = .ok (.iload_n 2, 1) := by decide +kernel
theorem dX6_isTokenSomewhere_51 : decode cX6_isTokenSomewhere 51 = .ok (.iload_n 3, 1) := by decide +kernel
theorem dX6_isTokenSomewhere_52 : decode cX6_isTokenSomewhere 52 = .ok (.invokevirtual 69, 3) := by decide +kernel
theorem dX6_isTokenSomewhere_55 : decode cX6_isTokenSomewhere 55 = .ok (.iaload, 1) := by decide +kernel
theorem dX6_isTokenSomewhere_56 : decode cX6_isTokenSomewhere 56 = .ok (.if_icmp .ge 41, 3) := by decide +kernel
theorem dX6_isTokenSomewhere_59 : decode cX6_isTokenSomewhere 59 = .ok (.iload_n 1, 1) := by decide +kernel
theorem dX6_isTokenSomewhere_60 : decode cX6_isTokenSomewhere 60 = .ok (.ifCond .ne 25, 3) := by decide +kernel
theorem dX6_isTokenSomewhere_63 : decode cX6_isTokenSomewhere 63 = .ok (.aload_n 0, 1) := by decide +kernel
theorem dX6_isTokenSomewhere_64 : decode cX6_isTokenSomewhere 64 = .ok (.getfield 17, 3) := by decide +kernel
theorem dX6_isTokenSomewhere_67 : decode cX6_isTokenSomewhere 67 = .ok (.aload_n 0, 1) := by decide +kernel
theorem dX6_isTokenSomewhere_68 : decode cX6_isTokenSomewhere 68 = .ok (.iload_n 2, 1) := by decide +kernel
theorem dX6_isTokenSomewhere_69 : decode cX6_isTokenSomewhere 69 = .ok (.iload_n 3, 1) := by decide +kernel
theorem dX6_isTokenSomewhere_70 : decode cX6_isTokenSomewhere 70 = .ok (.invokevirtual 69, 3) := by decide +kernel
theorem dX6_isTokenSomewhere_73 : decode cX6_isTokenSomewhere 73 = .ok (.iconst 1, 1) := by decide +kernel
theorem dX6_isTokenSomewhere_74 : decode cX6_isTokenSomewhere 74 = .ok (.iadd, 1) := by decide +kernel
theorem dX6_isTokenSomewhere_75 : decode cX6_isTokenSomewhere 75 = .ok (.iconst 2, 1) := by decide +kernel
theorem dX6_isTokenSomewhere_76 : decode cX6_isTokenSomewhere 76 = .ok (.iload 4, 2) := by decide +kernel
theorem dX6_isTokenSomewhere_78 : decode cX6_isTokenSomewhere 78 = .ok (.imul, 1) := by decide +kernel
theorem dX6_isTokenSomewhere_79 : decode cX6_isTokenSomewhere 79 = .ok (.iadd, 1) := by decide +kernel
theorem dX6_isTokenSomewhere_80 : decode cX6_isTokenSomewhere 80 = .ok (.iaload, 1) := by decide +kernel
theorem dX6_isTokenSomewhere_81 : decode cX6_isTokenSomewhere 81 = .ok (.iconst 2, 1) := by decide +kernel
theorem dX6_isTokenSomewhere_82 : decode cX6_isTokenSomewhere 82 = .ok (.if_icmp .ne 7, 3) := by decide +kernel
theorem dX6_isTokenSomewhere_85 : decode cX6_isTokenSomewhere 85 = .ok (.iconst 1, 1) := by decide +kernel
theorem dX6_isTokenSomewhere_86 : decode cX6_isTokenSomewhere 86 = .ok (.goto 4, 3) := by decide +kernel
theorem dX6_isTokenSomewhere_89 : decode cX6_isTokenSomewhere 89 = .ok (.iconst 0, 1) := by decide +kernel
theorem dX6_isTokenSomewhere_90 : decode cX6_isTokenSomewhere 90 = .ok (.istore_n 1, 1) := by decide +kernel
theorem dX6_isTokenSomewhere_91 : decode cX6_isTokenSomewhere 91 = .ok (.iinc 4 1, 3) := by decide +kernel
theorem dX6_isTokenSomewhere_94 : decode cX6_isTokenSomewhere 94 = .ok (.goto (-51), 3) := by decide +kernel
theorem dX6_isTokenSomewhere_97 : decode cX6_isTokenSomewhere 97 = .ok (.iinc 3 1, 3) := by decide +kernel
theorem dX6_isTokenSomewhere_100 : decode cX6_isTokenSomewhere 100 = .ok (.goto (-68), 3) := by decide +kernel
theorem dX6_isTokenSomewhere_103 : decode cX6_isTokenSomewhere 103 = .ok (.iinc 2 1, 3) := by decide +kernel
theorem dX6_isTokenSomewhere_106 : decode cX6_isTokenSomewhere 106 = .ok (.goto (-102), 3) := by decide +kernel
theorem dX6_isTokenSomewhere_109 : decode cX6_isTokenSomewhere 109 = .ok (.iload_n 1, 1) := by decide +kernel
theorem dX6_isTokenSomewhere_110 : decode cX6_isTokenSomewhere 110 = .ok (.ireturn, 1) := by decide +kernel
theorem dX6_more_0 : decode cX6_more 0 = .ok (.iload_n 0, 1) := by decide +kernel
theorem dX6_more_1 : decode cX6_more 1 = .ok (.iload_n 1, 1) := by decide +kernel
theorem dX6_more_2 : decode cX6_more 2 = .ok (.if_icmp .le 7, 3) := by decide +kernel
theorem dX6_more_5 : decode cX6_more 5 = .ok (.iload_n 0, 1) := by decide +kernel
theorem dX6_more_6 : decode cX6_more 6 = .ok (.goto 4, 3) := by decide +kernel
theorem dX6_more_9 : decode cX6_more 9 = .ok (.iload_n 1, 1) := by decide +kernel
theorem dX6_more_10 : decode cX6_more 10 = .ok (.ireturn, 1) := by decide +kernel
theorem dX6_goes_0 : decode cX6_goes 0 = .ok (.aload_n 0, 1) := by decide +kernel
theorem dX6_goes_1 : decode cX6_goes 1 = .ok (.getfield 73, 3) := by decide +kernel
theorem dX6_goes_4 : decode cX6_goes 4 = .ok (.ifCond .eq 15, 3) := by decide +kernel
theorem dX6_goes_7 : decode cX6_goes 7 = .ok (.aload_n 0, 1) := by decide +kernel
theorem dX6_goes_8 : decode cX6_goes 8 = .ok (.getfield 41, 3) := by decide +kernel
theorem dX6_goes_11 : decode cX6_goes 11 = .ok (.iconst 5, 1) := by decide +kernel
theorem dX6_goes_12 : decode cX6_goes 12 = .ok (.dup2, 1) := by decide +kernel
theorem dX6_goes_13 : decode cX6_goes 13 = .ok (.iaload, 1) := by decide +kernel
theorem dX6_goes_14 : decode cX6_goes 14 = .ok (.iconst 1, 1) := by decide +kernel
theorem dX6_goes_15 : decode cX6_goes 15 = .ok (.iadd, 1) := by decide +kernel
theorem dX6_goes_16 : decode cX6_goes 16 = .ok (.iastore, 1) := by decide +kernel
theorem dX6_goes_17 : decode cX6_goes 17 = .ok (.iconst 0, 1) := by decide +kernel
theorem dX6_goes_18 : decode cX6_goes 18 = .ok (.ireturn, 1) := by decide +kernel
theorem dX6_goes_19 : decode cX6_goes 19 = .ok (.aload_n 0, 1) := by decide +kernel
theorem dX6_goes_20 : decode cX6_goes 20 = .ok (.invokevirtual 162, 3) := by decide +kernel
theorem dX6_goes_23 : decode cX6_goes 23 = .ok (.iconst 1, 1) := by decide +kernel
theorem dX6_goes_24 : decode cX6_goes 24 = .ok (.ireturn, 1) := by decide +kernel
theorem dX6_visit_0 : decode cX6_visit 0 = .ok (.aload_n 0, 1) := by decide +kernel
theorem dX6_visit_1 : decode cX6_visit 1 = .ok (.iload_n 1, 1) := by decide +kernel
theorem dX6_visit_2 : decode cX6_visit 2 = .ok (.invokevirtual 165, 3) := by decide +kernel
theorem dX6_visit_5 : decode cX6_visit 5 = .ok (.aload_n 0, 1) := by decide +kernel
theorem dX6_visit_6 : decode cX6_visit 6 = .ok (.getfield 41, 3) := by decide +kernel
theorem dX6_visit_9 : decode cX6_visit 9 = .ok (.iconst 2, 1) := by decide +kernel
theorem dX6_visit_10 : decode cX6_visit 10 = .ok (.aload_n 0, 1) := by decide +kernel
theorem dX6_visit_11 : decode cX6_visit 11 = .ok (.getfield 41, 3) := by decide +kernel
theorem dX6_visit_14 : decode cX6_visit 14 = .ok (.iconst 2, 1) := by decide +kernel
theorem dX6_visit_15 : decode cX6_visit 15 = .ok (.iaload, 1) := by decide +kernel
theorem dX6_visit_16 : decode cX6_visit 16 = .ok (.aload_n 0, 1) := by decide +kernel
theorem dX6_visit_17 : decode cX6_visit 17 = .ok (.iconst 2, 1) := by decide +kernel
theorem dX6_visit_18 : decode cX6_visit 18 = .ok (.invokevirtual 168, 3) := by decide +kernel
theorem dX6_visit_21 : decode cX6_visit 21 = .ok (.invokestatic 171, 3) := by decide +kernel
theorem dX6_visit_24 : decode cX6_visit 24 = .ok (.iastore, 1) := by decide +kernel
theorem dX6_visit_25 : decode cX6_visit 25 = .ok (.aload_n 0, 1) := by decide +kernel
theorem dX6_visit_26 : decode cX6_visit 26 = .ok (.getfield 41, 3) := by decide +kernel
theorem dX6_visit_29 : decode cX6_visit 29 = .ok (.bipush 6, 2) := by decide +kernel
theorem dX6_visit_31 : decode cX6_visit 31 = .ok (.aload_n 0, 1) := by decide +kernel
theorem dX6_visit_32 : decode cX6_visit 32 = .ok (.getfield 41, 3) := by decide +kernel
theorem dX6_visit_35 : decode cX6_visit 35 = .ok (.bipush 6, 2) := by decide +kernel
theorem dX6_visit_37 : decode cX6_visit 37 = .ok (.iaload, 1) := by decide +kernel
theorem dX6_visit_38 : decode cX6_visit 38 = .ok (.aload_n 0, 1) := by decide +kernel
theorem dX6_visit_39 : decode cX6_visit 39 = .ok (.invokevirtual 174, 3) := by decide +kernel
theorem dX6_visit_42 : decode cX6_visit 42 = .ok (.invokestatic 171, 3) := by decide +kernel
theorem dX6_visit_45 : decode cX6_visit 45 = .ok (.iastore, 1) := by decide +kernel
theorem dX6_visit_46 : decode cX6_visit 46 = .ok (.aload_n 0, 1) := by decide +kernel
theorem dX6_visit_47 : decode cX6_visit 47 = .ok (.getfield 41, 3) := by decide +kernel
theorem dX6_visit_50 : decode cX6_visit 50 = .ok (.iconst 4, 1) := by decide +kernel
theorem dX6_visit_51 : decode cX6_visit 51 = .ok (.dup2, 1) := by decide +kernel
theorem dX6_visit_52 : decode cX6_visit 52 = .ok (.iaload, 1) := by decide +kernel
theorem dX6_visit_53 : decode cX6_visit 53 = .ok (.aload_n 0, 1) := by decide +kernel
theorem dX6_visit_54 : decode cX6_visit 54 = .ok (.getfield 66, 3) := by decide +kernel
theorem dX6_visit_57 : decode cX6_visit 57 = .ok (.ifCond .eq 22, 3) := by decide +kernel
theorem dX6_visit_60 : decode cX6_visit 60 = .ok (.aload_n 0, 1) := by decide +kernel
theorem dX6_visit_61 : decode cX6_visit 61 = .ok (.iconst 2, 1) := by decide +kernel
theorem dX6_visit_62 : decode cX6_visit 62 = .ok (.invokevirtual 168, 3) := by decide +kernel
theorem dX6_visit_65 : decode cX6_visit 65 = .ok (.ifCond .ne 14, 3) := by decide +kernel
theorem dX6_visit_68 : decode cX6_visit 68 = .ok (.aload_n 0, 1) := by decide +kernel
theorem dX6_visit_69 : decode cX6_visit 69 = .ok (.invokevirtual 177, 3) := by decide +kernel
theorem dX6_visit_72 : decode cX6_visit 72 = .ok (.ifCond .ne 7, 3) := by decide +kernel
theorem dX6_visit_75 : decode cX6_visit 75 = .ok (.iconst 1, 1) := by decide +kernel
theorem dX6_visit_76 : decode cX6_visit 76 = .ok (.goto 4, 3) := by decide +kernel
theorem dX6_visit_79 : decode cX6_visit 79 = .ok (.iconst 0, 1) := by decide +kernel
theorem dX6_visit_80 : decode cX6_visit 80 = .ok (.iadd, 1) := by decide +kernel
theorem dX6_visit_81 : decode cX6_visit 81 = .ok (.iastore, 1) := by decide +kernel
theorem dX6_visit_82 : decode cX6_visit 82 = .ok (.aload_n 0, 1) := by decide +kernel
theorem dX6_visit_83 : decode cX6_visit 83 = .ok (.iconst 1, 1) := by decide +kernel
theorem dX6_visit_84 : decode cX6_visit 84 = .ok (.invokevirtual 168, 3) := by decide +kernel
theorem dX6_visit_87 : decode cX6_visit 87 = .ok (.ifCond .le 7, 3) := by decide +kernel
theorem dX6_visit_90 : decode cX6_visit 90 = .ok (.iconst 1, 1) := by decide +kernel
theorem dX6_visit_91 : decode cX6_visit 91 = .ok (.goto 4, 3) := by decide +kernel
theorem dX6_visit_94 : decode cX6_visit 94 = .ok (.iconst 0, 1) := by decide +kernel
theorem dX6_visit_95 : decode cX6_visit 95 = .ok (.istore_n 2, 1) := by decide +kernel
theorem dX6_visit_96 : decode cX6_visit 96 = .ok (.iconst 0, 1) := by decide +kernel
theorem dX6_visit_97 : decode cX6_visit 97 = .ok (.istore_n 3, 1) := by decide +kernel
theorem dX6_visit_98 : decode cX6_visit 98 = .ok (.iconst 0, 1) := by decide +kernel
theorem dX6_visit_99 : decode cX6_visit 99 = .ok (.istore 4, 2) := by decide +kernel
theorem dX6_visit_101 : decode cX6_visit 101 = .ok (.iload 4, 2) := by decide +kernel
theorem dX6_visit_103 : decode cX6_visit 103 = .ok (.bipush 36, 2) := by decide +kernel
theorem dX6_visit_105 : decode cX6_visit 105 = .ok (.if_icmp .ge 54, 3) := by decide +kernel
theorem dX6_visit_108 : decode cX6_visit 108 = .ok (.aload_n 0, 1) := by decide +kernel
theorem dX6_visit_109 : decode cX6_visit 109 = .ok (.iload_n 1, 1) := by decide +kernel
theorem dX6_visit_110 : decode cX6_visit 110 = .ok (.invokevirtual 165, 3) := by decide +kernel
theorem dX6_visit_113 : decode cX6_visit 113 = .ok (.aload_n 0, 1) := by decide +kernel
theorem dX6_visit_114 : decode cX6_visit 114 = .ok (.getfield 17, 3) := by decide +kernel
theorem dX6_visit_117 : decode cX6_visit 117 = .ok (.sipush 140, 3) := by decide +kernel
theorem dX6_visit_120 : decode cX6_visit 120 = .ok (.bipush 25, 2) := by decide +kernel
theorem dX6_visit_122 : decode cX6_visit 122 = .ok (.iload 4, 2) := by decide +kernel
theorem dX6_visit_124 : decode cX6_visit 124 = .ok (.imul, 1) := by decide +kernel
theorem dX6_visit_125 : decode cX6_visit 125 = .ok (.iadd, 1) := by decide +kernel
theorem dX6_visit_126 : decode cX6_visit 126 = .ok (.iaload, 1) := by decide +kernel
theorem dX6_visit_127 : decode cX6_visit 127 = .ok (.ifCond .le 26, 3) := by decide +kernel
theorem dX6_visit_130 : decode cX6_visit 130 = .ok (.aload_n 0, 1) := by decide +kernel
theorem dX6_visit_131 : decode cX6_visit 131 = .ok (.iload 4, 2) := by decide +kernel
theorem dX6_visit_133 : decode cX6_visit 133 = .ok (.bipush 6, 2) := by decide +kernel
theorem dX6_visit_135 : decode cX6_visit 135 = .ok (.idiv, 1) := by decide +kernel
theorem dX6_visit_136 : decode cX6_visit 136 = .ok (.iload 4, 2) := by decide +kernel
theorem dX6_visit_138 : decode cX6_visit 138 = .ok (.bipush 6, 2) := by decide +kernel
theorem dX6_visit_140 : decode cX6_visit 140 = .ok (.irem, 1) := by decide +kernel
theorem dX6_visit_141 : decode cX6_visit 141 = .ok (.invokevirtual 129, 3) := by decide +kernel
theorem dX6_visit_144 : decode cX6_visit 144 = .ok (.istore 5, 2) := by decide +kernel
theorem dX6_visit_146 : decode cX6_visit 146 = .ok (.iload_n 3, 1) := by decide +kernel
theorem dX6_visit_147 : decode cX6_visit 147 = .ok (.aload_n 0, 1) := by decide +kernel
theorem dX6_visit_148 : decode cX6_visit 148 = .ok (.invokevirtual 180, 3) := by decide +kernel
theorem dX6_visit_151 : decode cX6_visit 151 = .ok (.iadd, 1) := by decide +kernel
theorem dX6_visit_152 : decode cX6_visit 152 = .ok (.istore_n 3, 1) := by decide +kernel
theorem dX6_visit_153 : decode cX6_visit 153 = .ok (.iinc 4 1, 3) := by decide +kernel
theorem dX6_visit_156 : decode cX6_visit 156 = .ok (.goto (-55), 3) := by decide +kernel
theorem dX6_visit_159 : decode cX6_visit 159 = .ok (.iconst 0, 1) := by decide +kernel
theorem dX6_visit_160 : decode cX6_visit 160 = .ok (.istore 4, 2) := by decide +kernel
theorem dX6_visit_162 : decode cX6_visit 162 = .ok (.iload 4, 2) := by decide +kernel
theorem dX6_visit_164 : decode cX6_visit 164 = .ok (.aload_n 0, 1) := by decide +kernel
theorem dX6_visit_165 : decode cX6_visit 165 = .ok (.getfield 7, 3) := by decide +kernel
theorem dX6_visit_168 : decode cX6_visit 168 = .ok (.if_icmp .ge 43, 3) := by decide +kernel
theorem dX6_visit_171 : decode cX6_visit 171 = .ok (.aload_n 0, 1) := by decide +kernel
theorem dX6_visit_172 : decode cX6_visit 172 = .ok (.iload_n 1, 1) := by decide +kernel
theorem dX6_visit_173 : decode cX6_visit 173 = .ok (.invokevirtual 165, 3) := by decide +kernel
theorem dX6_visit_176 : decode cX6_visit 176 = .ok (.aload_n 0, 1) := by decide +kernel
theorem dX6_visit_177 : decode cX6_visit 177 = .ok (.getfield 17, 3) := by decide +kernel
theorem dX6_visit_180 : decode cX6_visit 180 = .ok (.bipush 21, 2) := by decide +kernel
theorem dX6_visit_182 : decode cX6_visit 182 = .ok (.iload 4, 2) := by decide +kernel
theorem dX6_visit_184 : decode cX6_visit 184 = .ok (.imul, 1) := by decide +kernel
theorem dX6_visit_185 : decode cX6_visit 185 = .ok (.iconst 0, 1) := by decide +kernel
theorem dX6_visit_186 : decode cX6_visit 186 = .ok (.iadd, 1) := by decide +kernel
theorem dX6_visit_187 : decode cX6_visit 187 = .ok (.iaload, 1) := by decide +kernel
theorem dX6_visit_188 : decode cX6_visit 188 = .ok (.iconst 2, 1) := by decide +kernel
theorem dX6_visit_189 : decode cX6_visit 189 = .ok (.if_icmp .ne 16, 3) := by decide +kernel
theorem dX6_visit_192 : decode cX6_visit 192 = .ok (.aload_n 0, 1) := by decide +kernel
theorem dX6_visit_193 : decode cX6_visit 193 = .ok (.iload 4, 2) := by decide +kernel
theorem dX6_visit_195 : decode cX6_visit 195 = .ok (.invokevirtual 126, 3) := by decide +kernel
theorem dX6_visit_198 : decode cX6_visit 198 = .ok (.iload_n 3, 1) := by decide +kernel
theorem dX6_visit_199 : decode cX6_visit 199 = .ok (.aload_n 0, 1) := by decide +kernel
theorem dX6_visit_200 : decode cX6_visit 200 = .ok (.invokevirtual 180, 3) := by decide +kernel
theorem dX6_visit_203 : decode cX6_visit 203 = .ok (.iadd, 1) := by decide +kernel
theorem dX6_visit_204 : decode cX6_visit 204 = .ok (.istore_n 3, 1) := by decide +kernel
theorem dX6_visit_205 : decode cX6_visit 205 = .ok (.iinc 4 1, 3) := by decide +kernel
theorem dX6_visit_208 : decode cX6_visit 208 = .ok (.goto (-46), 3) := by decide +kernel
theorem dX6_visit_211 : decode cX6_visit 211 = .ok (.iload_n 3, 1) := by decide +kernel
theorem dX6_visit_212 : decode cX6_visit 212 = .ok (.ifCond .ne 31, 3) := by decide +kernel
theorem dX6_visit_215 : decode cX6_visit 215 = .ok (.aload_n 0, 1) := by decide +kernel
theorem dX6_visit_216 : decode cX6_visit 216 = .ok (.getfield 41, 3) := by decide +kernel
theorem dX6_visit_219 : decode cX6_visit 219 = .ok (.iconst 1, 1) := by decide +kernel
theorem dX6_visit_220 : decode cX6_visit 220 = .ok (.dup2, 1) := by decide +kernel
theorem dX6_visit_221 : decode cX6_visit 221 = .ok (.iaload, 1) := by decide +kernel
theorem dX6_visit_222 : decode cX6_visit 222 = .ok (.iconst 1, 1) := by decide +kernel
theorem dX6_visit_223 : decode cX6_visit 223 = .ok (.iadd, 1) := by decide +kernel
theorem dX6_visit_224 : decode cX6_visit 224 = .ok (.iastore, 1) := by decide +kernel
theorem dX6_visit_225 : decode cX6_visit 225 = .ok (.aload_n 0, 1) := by decide +kernel
theorem dX6_visit_226 : decode cX6_visit 226 = .ok (.getfield 41, 3) := by decide +kernel
theorem dX6_visit_229 : decode cX6_visit 229 = .ok (.iconst 3, 1) := by decide +kernel
theorem dX6_visit_230 : decode cX6_visit 230 = .ok (.dup2, 1) := by decide +kernel
theorem dX6_visit_231 : decode cX6_visit 231 = .ok (.iaload, 1) := by decide +kernel
theorem dX6_visit_232 : decode cX6_visit 232 = .ok (.iload_n 2, 1) := by decide +kernel
theorem dX6_visit_233 : decode cX6_visit 233 = .ok (.ifCond .eq 7, 3) := by decide +kernel
theorem dX6_visit_236 : decode cX6_visit 236 = .ok (.iconst 1, 1) := by decide +kernel
theorem dX6_visit_237 : decode cX6_visit 237 = .ok (.goto 4, 3) := by decide +kernel
theorem dX6_visit_240 : decode cX6_visit 240 = .ok (.iconst 0, 1) := by decide +kernel
theorem dX6_visit_241 : decode cX6_visit 241 = .ok (.iadd, 1) := by decide +kernel
theorem dX6_visit_242 : decode cX6_visit 242 = .ok (.iastore, 1) := by decide +kernel
theorem dX6_visit_243 : decode cX6_visit 243 = .ok (.return_, 1) := by decide +kernel
theorem dX6_pass_0 : decode cX6_pass 0 = .ok (.aload_n 0, 1) := by decide +kernel
theorem dX6_pass_1 : decode cX6_pass 1 = .ok (.getfield 60, 3) := by decide +kernel
theorem dX6_pass_4 : decode cX6_pass 4 = .ok (.bipush 15, 2) := by decide +kernel
theorem dX6_pass_6 : decode cX6_pass 6 = .ok (.if_icmp .ne 6, 3) := by decide +kernel
theorem dX6_pass_9 : decode cX6_pass 9 = .ok (.bipush (-3), 2) := by decide +kernel
theorem dX6_pass_11 : decode cX6_pass 11 = .ok (.ireturn, 1) := by decide +kernel
theorem dX6_pass_12 : decode cX6_pass 12 = .ok (.aload_n 0, 1) := by decide +kernel
theorem dX6_pass_13 : decode cX6_pass 13 = .ok (.dup, 1) := by decide +kernel
theorem dX6_pass_14 : decode cX6_pass 14 = .ok (.getfield 60, 3) := by decide +kernel
theorem dX6_pass_17 : decode cX6_pass 17 = .ok (.iconst 1, 1) := by decide +kernel
theorem dX6_pass_18 : decode cX6_pass 18 = .ok (.iadd, 1) := by decide +kernel
theorem dX6_pass_19 : decode cX6_pass 19 = .ok (.putfield 60, 3) := by decide +kernel
theorem dX6_pass_22 : decode cX6_pass 22 = .ok (.aload_n 0, 1) := by decide +kernel
theorem dX6_pass_23 : decode cX6_pass 23 = .ok (.invokevirtual 116, 3) := by decide +kernel
theorem dX6_pass_26 : decode cX6_pass 26 = .ok (.aload_n 0, 1) := by decide +kernel
theorem dX6_pass_27 : decode cX6_pass 27 = .ok (.iconst 0, 1) := by decide +kernel
theorem dX6_pass_28 : decode cX6_pass 28 = .ok (.putfield 23, 3) := by decide +kernel
theorem dX6_pass_31 : decode cX6_pass 31 = .ok (.aload_n 0, 1) := by decide +kernel
theorem dX6_pass_32 : decode cX6_pass 32 = .ok (.iconst 0, 1) := by decide +kernel
theorem dX6_pass_33 : decode cX6_pass 33 = .ok (.putfield 156, 3) := by decide +kernel
theorem dX6_pass_36 : decode cX6_pass 36 = .ok (.aload_n 0, 1) := by decide +kernel
theorem dX6_pass_37 : decode cX6_pass 37 = .ok (.iconst 0, 1) := by decide +kernel
theorem dX6_pass_38 : decode cX6_pass 38 = .ok (.putfield 159, 3) := by decide +kernel
theorem dX6_pass_41 : decode cX6_pass 41 = .ok (.iconst 0, 1) := by decide +kernel
theorem dX6_pass_42 : decode cX6_pass 42 = .ok (.istore_n 1, 1) := by decide +kernel
theorem dX6_pass_43 : decode cX6_pass 43 = .ok (.iload_n 1, 1) := by decide +kernel
theorem dX6_pass_44 : decode cX6_pass 44 = .ok (.sipush 1024, 3) := by decide +kernel
theorem dX6_pass_47 : decode cX6_pass 47 = .ok (.if_icmp .ge 16, 3) := by decide +kernel
theorem dX6_pass_50 : decode cX6_pass 50 = .ok (.aload_n 0, 1) := by decide +kernel
theorem dX6_pass_51 : decode cX6_pass 51 = .ok (.getfield 38, 3) := by decide +kernel
theorem dX6_pass_54 : decode cX6_pass 54 = .ok (.iload_n 1, 1) := by decide +kernel
theorem dX6_pass_55 : decode cX6_pass 55 = .ok (.iconst 0, 1) := by decide +kernel
theorem dX6_pass_56 : decode cX6_pass 56 = .ok (.iastore, 1) := by decide +kernel
theorem dX6_pass_57 : decode cX6_pass 57 = .ok (.iinc 1 1, 3) := by decide +kernel
theorem dX6_pass_60 : decode cX6_pass 60 = .ok (.goto (-17), 3) := by decide +kernel
theorem dX6_pass_63 : decode cX6_pass 63 = .ok (.iconst 0, 1) := by decide +kernel
theorem dX6_pass_64 : decode cX6_pass 64 = .ok (.istore_n 1, 1) := by decide +kernel
theorem dX6_pass_65 : decode cX6_pass 65 = .ok (.iload_n 1, 1) := by decide +kernel
theorem dX6_pass_66 : decode cX6_pass 66 = .ok (.bipush 7, 2) := by decide +kernel
theorem dX6_pass_68 : decode cX6_pass 68 = .ok (.if_icmp .ge 16, 3) := by decide +kernel
theorem dX6_pass_71 : decode cX6_pass 71 = .ok (.aload_n 0, 1) := by decide +kernel
theorem dX6_pass_72 : decode cX6_pass 72 = .ok (.getfield 41, 3) := by decide +kernel
theorem dX6_pass_75 : decode cX6_pass 75 = .ok (.iload_n 1, 1) := by decide +kernel
theorem dX6_pass_76 : decode cX6_pass 76 = .ok (.iconst 0, 1) := by decide +kernel
theorem dX6_pass_77 : decode cX6_pass 77 = .ok (.iastore, 1) := by decide +kernel
theorem dX6_pass_78 : decode cX6_pass 78 = .ok (.iinc 1 1, 3) := by decide +kernel
theorem dX6_pass_81 : decode cX6_pass 81 = .ok (.goto (-16), 3) := by decide +kernel
theorem dX6_pass_84 : decode cX6_pass 84 = .ok (.aload_n 0, 1) := by decide +kernel
theorem dX6_pass_85 : decode cX6_pass 85 = .ok (.invokevirtual 162, 3) := by decide +kernel
theorem dX6_pass_88 : decode cX6_pass 88 = .ok (.iconst 0, 1) := by decide +kernel
theorem dX6_pass_89 : decode cX6_pass 89 = .ok (.istore_n 1, 1) := by decide +kernel
theorem dX6_pass_90 : decode cX6_pass 90 = .ok (.iload_n 1, 1) := by decide +kernel
theorem dX6_pass_91 : decode cX6_pass 91 = .ok (.aload_n 0, 1) := by decide +kernel
theorem dX6_pass_92 : decode cX6_pass 92 = .ok (.getfield 156, 3) := by decide +kernel
theorem dX6_pass_95 : decode cX6_pass 95 = .ok (.if_icmp .ge 14, 3) := by decide +kernel
theorem dX6_pass_98 : decode cX6_pass 98 = .ok (.aload_n 0, 1) := by decide +kernel
theorem dX6_pass_99 : decode cX6_pass 99 = .ok (.iload_n 1, 1) := by decide +kernel
theorem dX6_pass_100 : decode cX6_pass 100 = .ok (.invokevirtual 183, 3) := by decide +kernel
theorem dX6_pass_103 : decode cX6_pass 103 = .ok (.iinc 1 1, 3) := by decide +kernel
theorem dX6_pass_106 : decode cX6_pass 106 = .ok (.goto (-16), 3) := by decide +kernel
theorem dX6_pass_109 : decode cX6_pass 109 = .ok (.aload_n 0, 1) := by decide +kernel
theorem dX6_pass_110 : decode cX6_pass 110 = .ok (.getfield 41, 3) := by decide +kernel
theorem dX6_pass_113 : decode cX6_pass 113 = .ok (.iconst 0, 1) := by decide +kernel
theorem dX6_pass_114 : decode cX6_pass 114 = .ok (.aload_n 0, 1) := by decide +kernel
theorem dX6_pass_115 : decode cX6_pass 115 = .ok (.getfield 156, 3) := by decide +kernel
theorem dX6_pass_118 : decode cX6_pass 118 = .ok (.iastore, 1) := by decide +kernel
theorem dX6_pass_119 : decode cX6_pass 119 = .ok (.aload_n 0, 1) := by decide +kernel
theorem dX6_pass_120 : decode cX6_pass 120 = .ok (.iconst 1, 1) := by decide +kernel
theorem dX6_pass_121 : decode cX6_pass 121 = .ok (.putfield 23, 3) := by decide +kernel
theorem dX6_pass_124 : decode cX6_pass 124 = .ok (.iconst 0, 1) := by decide +kernel
theorem dX6_pass_125 : decode cX6_pass 125 = .ok (.istore_n 1, 1) := by decide +kernel
theorem dX6_pass_126 : decode cX6_pass 126 = .ok (.iload_n 1, 1) := by decide +kernel
theorem dX6_pass_127 : decode cX6_pass 127 = .ok (.sipush 1040, 3) := by decide +kernel
theorem dX6_pass_130 : decode cX6_pass 130 = .ok (.if_icmp .ge 21, 3) := by decide +kernel
theorem dX6_pass_133 : decode cX6_pass 133 = .ok (.aload_n 0, 1) := by decide +kernel
theorem dX6_pass_134 : decode cX6_pass 134 = .ok (.getfield 17, 3) := by decide +kernel
theorem dX6_pass_137 : decode cX6_pass 137 = .ok (.iload_n 1, 1) := by decide +kernel
theorem dX6_pass_138 : decode cX6_pass 138 = .ok (.aload_n 0, 1) := by decide +kernel
theorem dX6_pass_139 : decode cX6_pass 139 = .ok (.getfield 31, 3) := by decide +kernel
theorem dX6_pass_142 : decode cX6_pass 142 = .ok (.iload_n 1, 1) := by decide +kernel
theorem dX6_pass_143 : decode cX6_pass 143 = .ok (.iaload, 1) := by decide +kernel
theorem dX6_pass_144 : decode cX6_pass 144 = .ok (.iastore, 1) := by decide +kernel
theorem dX6_pass_145 : decode cX6_pass 145 = .ok (.iinc 1 1, 3) := by decide +kernel
theorem dX6_pass_148 : decode cX6_pass 148 = .ok (.goto (-22), 3) := by decide +kernel
theorem dX6_pass_151 : decode cX6_pass 151 = .ok (.aload_n 0, 1) := by decide +kernel
theorem dX6_pass_152 : decode cX6_pass 152 = .ok (.getfield 159, 3) := by decide +kernel
theorem dX6_pass_155 : decode cX6_pass 155 = .ok (.ifCond .eq 8, 3) := by decide +kernel
theorem dX6_pass_158 : decode cX6_pass 158 = .ok (.bipush (-5), 2) := by decide +kernel
theorem dX6_pass_160 : decode cX6_pass 160 = .ok (.goto 7, 3) := by decide +kernel
theorem dX6_pass_163 : decode cX6_pass 163 = .ok (.aload_n 0, 1) := by decide +kernel
theorem dX6_pass_164 : decode cX6_pass 164 = .ok (.getfield 156, 3) := by decide +kernel
theorem dX6_pass_167 : decode cX6_pass 167 = .ok (.ireturn, 1) := by decide +kernel
theorem dX6_passed_0 : decode cX6_passed 0 = .ok (.iload_n 1, 1) := by decide +kernel
theorem dX6_passed_1 : decode cX6_passed 1 = .ok (.iconst 0, 1) := by decide +kernel
theorem dX6_passed_2 : decode cX6_passed 2 = .ok (.bipush 6, 2) := by decide +kernel
theorem dX6_passed_4 : decode cX6_passed 4 = .ok (.invokestatic 47, 3) := by decide +kernel
theorem dX6_passed_7 : decode cX6_passed 7 = .ok (.ifCond .eq 12, 3) := by decide +kernel
theorem dX6_passed_10 : decode cX6_passed 10 = .ok (.aload_n 0, 1) := by decide +kernel
theorem dX6_passed_11 : decode cX6_passed 11 = .ok (.getfield 41, 3) := by decide +kernel
theorem dX6_passed_14 : decode cX6_passed 14 = .ok (.iload_n 1, 1) := by decide +kernel
theorem dX6_passed_15 : decode cX6_passed 15 = .ok (.iaload, 1) := by decide +kernel
theorem dX6_passed_16 : decode cX6_passed 16 = .ok (.goto 4, 3) := by decide +kernel
theorem dX6_passed_19 : decode cX6_passed 19 = .ok (.iconst (-1), 1) := by decide +kernel
theorem dX6_passed_20 : decode cX6_passed 20 = .ok (.ireturn, 1) := by decide +kernel
theorem dX6_count_0 : decode cX6_count 0 = .ok (.iload_n 1, 1) := by decide +kernel
theorem dX6_count_1 : decode cX6_count 1 = .ok (.tableswitch 106 0 9 #[55, 60, 65, 72, 72, 72, 84, 89, 95, 101], 55) := by decide +kernel
theorem dX6_count_56 : decode cX6_count 56 = .ok (.aload_n 0, 1) := by decide +kernel
theorem dX6_count_57 : decode cX6_count 57 = .ok (.getfield 7, 3) := by decide +kernel
theorem dX6_count_60 : decode cX6_count 60 = .ok (.ireturn, 1) := by decide +kernel
theorem dX6_count_61 : decode cX6_count 61 = .ok (.aload_n 0, 1) := by decide +kernel
theorem dX6_count_62 : decode cX6_count 62 = .ok (.getfield 66, 3) := by decide +kernel
theorem dX6_count_65 : decode cX6_count 65 = .ok (.ireturn, 1) := by decide +kernel
theorem dX6_count_66 : decode cX6_count 66 = .ok (.aload_n 0, 1) := by decide +kernel
theorem dX6_count_67 : decode cX6_count 67 = .ok (.getfield 20, 3) := by decide +kernel
theorem dX6_count_70 : decode cX6_count 70 = .ok (.iconst 0, 1) := by decide +kernel
theorem dX6_count_71 : decode cX6_count 71 = .ok (.iaload, 1) := by decide +kernel
theorem dX6_count_72 : decode cX6_count 72 = .ok (.ireturn, 1) := by decide +kernel
theorem dX6_count_73 : decode cX6_count 73 = .ok (.aload_n 0, 1) := by decide +kernel
theorem dX6_count_74 : decode cX6_count 74 = .ok (.getfield 20, 3) := by decide +kernel
theorem dX6_count_77 : decode cX6_count 77 = .ok (.bipush 7, 2) := by decide +kernel
theorem dX6_count_79 : decode cX6_count 79 = .ok (.iload_n 1, 1) := by decide +kernel
theorem dX6_count_80 : decode cX6_count 80 = .ok (.iadd, 1) := by decide +kernel
theorem dX6_count_81 : decode cX6_count 81 = .ok (.iconst 3, 1) := by decide +kernel
theorem dX6_count_82 : decode cX6_count 82 = .ok (.isub, 1) := by decide +kernel
theorem dX6_count_83 : decode cX6_count 83 = .ok (.iaload, 1) := by decide +kernel
theorem dX6_count_84 : decode cX6_count 84 = .ok (.ireturn, 1) := by decide +kernel
theorem dX6_count_85 : decode cX6_count 85 = .ok (.aload_n 0, 1) := by decide +kernel
theorem dX6_count_86 : decode cX6_count 86 = .ok (.invokevirtual 174, 3) := by decide +kernel
theorem dX6_count_89 : decode cX6_count 89 = .ok (.ireturn, 1) := by decide +kernel
theorem dX6_count_90 : decode cX6_count 90 = .ok (.aload_n 0, 1) := by decide +kernel
theorem dX6_count_91 : decode cX6_count 91 = .ok (.iconst 2, 1) := by decide +kernel
theorem dX6_count_92 : decode cX6_count 92 = .ok (.invokevirtual 168, 3) := by decide +kernel
theorem dX6_count_95 : decode cX6_count 95 = .ok (.ireturn, 1) := by decide +kernel
theorem dX6_count_96 : decode cX6_count 96 = .ok (.aload_n 0, 1) := by decide +kernel
theorem dX6_count_97 : decode cX6_count 97 = .ok (.iconst 1, 1) := by decide +kernel
theorem dX6_count_98 : decode cX6_count 98 = .ok (.invokevirtual 168, 3) := by decide +kernel
theorem dX6_count_101 : decode cX6_count 101 = .ok (.ireturn, 1) := by decide +kernel
theorem dX6_count_102 : decode cX6_count 102 = .ok (.aload_n 0, 1) := by decide +kernel
theorem dX6_count_103 : decode cX6_count 103 = .ok (.getfield 54, 3) := by decide +kernel
theorem dX6_count_106 : decode cX6_count 106 = .ok (.ireturn, 1) := by decide +kernel
theorem dX6_count_107 : decode cX6_count 107 = .ok (.iconst (-1), 1) := by decide +kernel
theorem dX6_count_108 : decode cX6_count 108 = .ok (.ireturn, 1) := by decide +kernel
theorem dJ6_bitCount_0f7a4_0 : decode cJ6_bitCount_0f7a4 0 = .ok (.iload_n 0, 1) := by decide +kernel
theorem dJ6_bitCount_0f7a4_1 : decode cJ6_bitCount_0f7a4 1 = .ok (.iload_n 0, 1) := by decide +kernel
theorem dJ6_bitCount_0f7a4_2 : decode cJ6_bitCount_0f7a4 2 = .ok (.iconst 1, 1) := by decide +kernel
theorem dJ6_bitCount_0f7a4_3 : decode cJ6_bitCount_0f7a4 3 = .ok (.iushr, 1) := by decide +kernel
theorem dJ6_bitCount_0f7a4_4 : decode cJ6_bitCount_0f7a4 4 = .ok (.ldc_w 265, 3) := by decide +kernel
theorem dJ6_bitCount_0f7a4_7 : decode cJ6_bitCount_0f7a4 7 = .ok (.iand, 1) := by decide +kernel
theorem dJ6_bitCount_0f7a4_8 : decode cJ6_bitCount_0f7a4 8 = .ok (.isub, 1) := by decide +kernel
theorem dJ6_bitCount_0f7a4_9 : decode cJ6_bitCount_0f7a4 9 = .ok (.istore_n 0, 1) := by decide +kernel
theorem dJ6_bitCount_0f7a4_10 : decode cJ6_bitCount_0f7a4 10 = .ok (.iload_n 0, 1) := by decide +kernel
theorem dJ6_bitCount_0f7a4_11 : decode cJ6_bitCount_0f7a4 11 = .ok (.ldc_w 266, 3) := by decide +kernel
theorem dJ6_bitCount_0f7a4_14 : decode cJ6_bitCount_0f7a4 14 = .ok (.iand, 1) := by decide +kernel
theorem dJ6_bitCount_0f7a4_15 : decode cJ6_bitCount_0f7a4 15 = .ok (.iload_n 0, 1) := by decide +kernel
theorem dJ6_bitCount_0f7a4_16 : decode cJ6_bitCount_0f7a4 16 = .ok (.iconst 2, 1) := by decide +kernel
theorem dJ6_bitCount_0f7a4_17 : decode cJ6_bitCount_0f7a4 17 = .ok (.iushr, 1) := by decide +kernel
theorem dJ6_bitCount_0f7a4_18 : decode cJ6_bitCount_0f7a4 18 = .ok (.ldc_w 266, 3) := by decide +kernel
theorem dJ6_bitCount_0f7a4_21 : decode cJ6_bitCount_0f7a4 21 = .ok (.iand, 1) := by decide +kernel
theorem dJ6_bitCount_0f7a4_22 : decode cJ6_bitCount_0f7a4 22 = .ok (.iadd, 1) := by decide +kernel
theorem dJ6_bitCount_0f7a4_23 : decode cJ6_bitCount_0f7a4 23 = .ok (.istore_n 0, 1) := by decide +kernel
theorem dJ6_bitCount_0f7a4_24 : decode cJ6_bitCount_0f7a4 24 = .ok (.iload_n 0, 1) := by decide +kernel
theorem dJ6_bitCount_0f7a4_25 : decode cJ6_bitCount_0f7a4 25 = .ok (.iload_n 0, 1) := by decide +kernel
theorem dJ6_bitCount_0f7a4_26 : decode cJ6_bitCount_0f7a4 26 = .ok (.iconst 4, 1) := by decide +kernel
theorem dJ6_bitCount_0f7a4_27 : decode cJ6_bitCount_0f7a4 27 = .ok (.iushr, 1) := by decide +kernel
theorem dJ6_bitCount_0f7a4_28 : decode cJ6_bitCount_0f7a4 28 = .ok (.iadd, 1) := by decide +kernel
theorem dJ6_bitCount_0f7a4_29 : decode cJ6_bitCount_0f7a4 29 = .ok (.ldc_w 267, 3) := by decide +kernel
theorem dJ6_bitCount_0f7a4_32 : decode cJ6_bitCount_0f7a4 32 = .ok (.iand, 1) := by decide +kernel
theorem dJ6_bitCount_0f7a4_33 : decode cJ6_bitCount_0f7a4 33 = .ok (.istore_n 0, 1) := by decide +kernel
theorem dJ6_bitCount_0f7a4_34 : decode cJ6_bitCount_0f7a4 34 = .ok (.iload_n 0, 1) := by decide +kernel
theorem dJ6_bitCount_0f7a4_35 : decode cJ6_bitCount_0f7a4 35 = .ok (.iload_n 0, 1) := by decide +kernel
theorem dJ6_bitCount_0f7a4_36 : decode cJ6_bitCount_0f7a4 36 = .ok (.bipush 8, 2) := by decide +kernel
theorem dJ6_bitCount_0f7a4_38 : decode cJ6_bitCount_0f7a4 38 = .ok (.iushr, 1) := by decide +kernel
theorem dJ6_bitCount_0f7a4_39 : decode cJ6_bitCount_0f7a4 39 = .ok (.iadd, 1) := by decide +kernel
theorem dJ6_bitCount_0f7a4_40 : decode cJ6_bitCount_0f7a4 40 = .ok (.istore_n 0, 1) := by decide +kernel
theorem dJ6_bitCount_0f7a4_41 : decode cJ6_bitCount_0f7a4 41 = .ok (.iload_n 0, 1) := by decide +kernel
theorem dJ6_bitCount_0f7a4_42 : decode cJ6_bitCount_0f7a4 42 = .ok (.iload_n 0, 1) := by decide +kernel
theorem dJ6_bitCount_0f7a4_43 : decode cJ6_bitCount_0f7a4 43 = .ok (.bipush 16, 2) := by decide +kernel
theorem dJ6_bitCount_0f7a4_45 : decode cJ6_bitCount_0f7a4 45 = .ok (.iushr, 1) := by decide +kernel
theorem dJ6_bitCount_0f7a4_46 : decode cJ6_bitCount_0f7a4 46 = .ok (.iadd, 1) := by decide +kernel
theorem dJ6_bitCount_0f7a4_47 : decode cJ6_bitCount_0f7a4 47 = .ok (.istore_n 0, 1) := by decide +kernel
theorem dJ6_bitCount_0f7a4_48 : decode cJ6_bitCount_0f7a4 48 = .ok (.iload_n 0, 1) := by decide +kernel
theorem dJ6_bitCount_0f7a4_49 : decode cJ6_bitCount_0f7a4 49 = .ok (.bipush 63, 2) := by decide +kernel
theorem dJ6_bitCount_0f7a4_51 : decode cJ6_bitCount_0f7a4 51 = .ok (.iand, 1) := by decide +kernel
theorem dJ6_bitCount_0f7a4_52 : decode cJ6_bitCount_0f7a4 52 = .ok (.ireturn, 1) := by decide +kernel
theorem dJ7_fill_53178_0 : decode cJ7_fill_53178 0 = .ok (.iconst 0, 1) := by decide +kernel
theorem dJ7_fill_53178_1 : decode cJ7_fill_53178 1 = .ok (.istore_n 2, 1) := by decide +kernel
theorem dJ7_fill_53178_2 : decode cJ7_fill_53178 2 = .ok (.aload_n 0, 1) := by decide +kernel
theorem dJ7_fill_53178_3 : decode cJ7_fill_53178 3 = .ok (.arraylength, 1) := by decide +kernel
theorem dJ7_fill_53178_4 : decode cJ7_fill_53178 4 = .ok (.istore_n 3, 1) := by decide +kernel
theorem dJ7_fill_53178_5 : decode cJ7_fill_53178 5 = .ok (.iload_n 2, 1) := by decide +kernel
theorem dJ7_fill_53178_6 : decode cJ7_fill_53178 6 = .ok (.iload_n 3, 1) := by decide +kernel
theorem dJ7_fill_53178_7 : decode cJ7_fill_53178 7 = .ok (.if_icmp .ge 13, 3) := by decide +kernel
theorem dJ7_fill_53178_10 : decode cJ7_fill_53178 10 = .ok (.aload_n 0, 1) := by decide +kernel
theorem dJ7_fill_53178_11 : decode cJ7_fill_53178 11 = .ok (.iload_n 2, 1) := by decide +kernel
theorem dJ7_fill_53178_12 : decode cJ7_fill_53178 12 = .ok (.iload_n 1, 1) := by decide +kernel
theorem dJ7_fill_53178_13 : decode cJ7_fill_53178 13 = .ok (.iastore, 1) := by decide +kernel
theorem dJ7_fill_53178_14 : decode cJ7_fill_53178 14 = .ok (.iinc 2 1, 3) := by decide +kernel
theorem dJ7_fill_53178_17 : decode cJ7_fill_53178 17 = .ok (.goto (-12), 3) := by decide +kernel
theorem dJ7_fill_53178_20 : decode cJ7_fill_53178 20 = .ok (.return_, 1) := by decide +kernel
theorem dL_law_0 : decode cL_law 0 = .ok (.new 7, 3) := by decide +kernel
theorem dL_law_3 : decode cL_law 3 = .ok (.dup, 1) := by decide +kernel
theorem dL_law_4 : decode cL_law 4 = .ok (.invokespecial 9, 3) := by decide +kernel
theorem dL_law_7 : decode cL_law 7 = .ok (.astore_n 1, 1) := by decide +kernel
theorem dL_law_8 : decode cL_law 8 = .ok (.new 10, 3) := by decide +kernel
theorem dL_law_11 : decode cL_law 11 = .ok (.dup, 1) := by decide +kernel
theorem dL_law_12 : decode cL_law 12 = .ok (.invokespecial 12, 3) := by decide +kernel
theorem dL_law_15 : decode cL_law 15 = .ok (.astore_n 2, 1) := by decide +kernel
theorem dL_law_16 : decode cL_law 16 = .ok (.iconst 0, 1) := by decide +kernel
theorem dL_law_17 : decode cL_law 17 = .ok (.istore_n 3, 1) := by decide +kernel
theorem dL_law_18 : decode cL_law 18 = .ok (.iload_n 3, 1) := by decide +kernel
theorem dL_law_19 : decode cL_law 19 = .ok (.aload_n 0, 1) := by decide +kernel
theorem dL_law_20 : decode cL_law 20 = .ok (.arraylength, 1) := by decide +kernel
theorem dL_law_21 : decode cL_law 21 = .ok (.iconst 5, 1) := by decide +kernel
theorem dL_law_22 : decode cL_law 22 = .ok (.isub, 1) := by decide +kernel
theorem dL_law_23 : decode cL_law 23 = .ok (.if_icmp .gt 526, 3) := by decide +kernel
theorem dL_law_26 : decode cL_law 26 = .ok (.aload_n 0, 1) := by decide +kernel
theorem dL_law_27 : decode cL_law 27 = .ok (.iload_n 3, 1) := by decide +kernel
theorem dL_law_28 : decode cL_law 28 = .ok (.iaload, 1) := by decide +kernel
theorem dL_law_29 : decode cL_law 29 = .ok (.bipush 15, 2) := by decide +kernel
theorem dL_law_31 : decode cL_law 31 = .ok (.iand, 1) := by decide +kernel
theorem dL_law_32 : decode cL_law 32 = .ok (.tableswitch 511 0 14 #[76, 109, 142, 165, 188, 221, 254, 287, 320, 353, 406, 439, 452, 465, 488], 76) := by decide +kernel
theorem dL_law_108 : decode cL_law 108 = .ok (.aload_n 1, 1) := by decide +kernel
theorem dL_law_109 : decode cL_law 109 = .ok (.aload_n 0, 1) := by decide +kernel
theorem dL_law_110 : decode cL_law 110 = .ok (.iload_n 3, 1) := by decide +kernel
theorem dL_law_111 : decode cL_law 111 = .ok (.iconst 1, 1) := by decide +kernel
theorem dL_law_112 : decode cL_law 112 = .ok (.iadd, 1) := by decide +kernel
theorem dL_law_113 : decode cL_law 113 = .ok (.iaload, 1) := by decide +kernel
theorem dL_law_114 : decode cL_law 114 = .ok (.aload_n 0, 1) := by decide +kernel
theorem dL_law_115 : decode cL_law 115 = .ok (.iload_n 3, 1) := by decide +kernel
theorem dL_law_116 : decode cL_law 116 = .ok (.iconst 2, 1) := by decide +kernel
theorem dL_law_117 : decode cL_law 117 = .ok (.iadd, 1) := by decide +kernel
theorem dL_law_118 : decode cL_law 118 = .ok (.iaload, 1) := by decide +kernel
theorem dL_law_119 : decode cL_law 119 = .ok (.invokevirtual 13, 3) := by decide +kernel
theorem dL_law_122 : decode cL_law 122 = .ok (.aload_n 2, 1) := by decide +kernel
theorem dL_law_123 : decode cL_law 123 = .ok (.aload_n 0, 1) := by decide +kernel
theorem dL_law_124 : decode cL_law 124 = .ok (.iload_n 3, 1) := by decide +kernel
theorem dL_law_125 : decode cL_law 125 = .ok (.iconst 1, 1) := by decide +kernel
theorem dL_law_126 : decode cL_law 126 = .ok (.iadd, 1) := by decide +kernel
theorem dL_law_127 : decode cL_law 127 = .ok (.iaload, 1) := by decide +kernel
theorem dL_law_128 : decode cL_law 128 = .ok (.aload_n 0, 1) := by decide +kernel
theorem dL_law_129 : decode cL_law 129 = .ok (.iload_n 3, 1) := by decide +kernel
theorem dL_law_130 : decode cL_law 130 = .ok (.iconst 2, 1) := by decide +kernel
theorem dL_law_131 : decode cL_law 131 = .ok (.iadd, 1) := by decide +kernel
theorem dL_law_132 : decode cL_law 132 = .ok (.iaload, 1) := by decide +kernel
theorem dL_law_133 : decode cL_law 133 = .ok (.invokevirtual 17, 3) := by decide +kernel
theorem dL_law_136 : decode cL_law 136 = .ok (.if_icmp .eq 407, 3) := by decide +kernel
theorem dL_law_139 : decode cL_law 139 = .ok (.iconst 0, 1) := by decide +kernel
theorem dL_law_140 : decode cL_law 140 = .ok (.ireturn, 1) := by decide +kernel
theorem dL_law_141 : decode cL_law 141 = .ok (.aload_n 1, 1) := by decide +kernel
theorem dL_law_142 : decode cL_law 142 = .ok (.aload_n 0, 1) := by decide +kernel
theorem dL_law_143 : decode cL_law 143 = .ok (.iload_n 3, 1) := by decide +kernel
theorem dL_law_144 : decode cL_law 144 = .ok (.iconst 1, 1) := by decide +kernel
theorem dL_law_145 : decode cL_law 145 = .ok (.iadd, 1) := by decide +kernel
theorem dL_law_146 : decode cL_law 146 = .ok (.iaload, 1) := by decide +kernel
theorem dL_law_147 : decode cL_law 147 = .ok (.aload_n 0, 1) := by decide +kernel
theorem dL_law_148 : decode cL_law 148 = .ok (.iload_n 3, 1) := by decide +kernel
theorem dL_law_149 : decode cL_law 149 = .ok (.iconst 2, 1) := by decide +kernel
theorem dL_law_150 : decode cL_law 150 = .ok (.iadd, 1) := by decide +kernel
theorem dL_law_151 : decode cL_law 151 = .ok (.iaload, 1) := by decide +kernel
theorem dL_law_152 : decode cL_law 152 = .ok (.invokevirtual 18, 3) := by decide +kernel
theorem dL_law_155 : decode cL_law 155 = .ok (.aload_n 2, 1) := by decide +kernel
theorem dL_law_156 : decode cL_law 156 = .ok (.aload_n 0, 1) := by decide +kernel
theorem dL_law_157 : decode cL_law 157 = .ok (.iload_n 3, 1) := by decide +kernel
theorem dL_law_158 : decode cL_law 158 = .ok (.iconst 1, 1) := by decide +kernel
theorem dL_law_159 : decode cL_law 159 = .ok (.iadd, 1) := by decide +kernel
theorem dL_law_160 : decode cL_law 160 = .ok (.iaload, 1) := by decide +kernel
theorem dL_law_161 : decode cL_law 161 = .ok (.aload_n 0, 1) := by decide +kernel
theorem dL_law_162 : decode cL_law 162 = .ok (.iload_n 3, 1) := by decide +kernel
theorem dL_law_163 : decode cL_law 163 = .ok (.iconst 2, 1) := by decide +kernel
theorem dL_law_164 : decode cL_law 164 = .ok (.iadd, 1) := by decide +kernel
theorem dL_law_165 : decode cL_law 165 = .ok (.iaload, 1) := by decide +kernel
theorem dL_law_166 : decode cL_law 166 = .ok (.invokevirtual 21, 3) := by decide +kernel
theorem dL_law_169 : decode cL_law 169 = .ok (.if_icmp .eq 374, 3) := by decide +kernel
theorem dL_law_172 : decode cL_law 172 = .ok (.iconst 0, 1) := by decide +kernel
theorem dL_law_173 : decode cL_law 173 = .ok (.ireturn, 1) := by decide +kernel
theorem dL_law_174 : decode cL_law 174 = .ok (.aload_n 1, 1) := by decide +kernel
theorem dL_law_175 : decode cL_law 175 = .ok (.aload_n 0, 1) := by decide +kernel
theorem dL_law_176 : decode cL_law 176 = .ok (.iload_n 3, 1) := by decide +kernel
theorem dL_law_177 : decode cL_law 177 = .ok (.iconst 1, 1) := by decide +kernel
theorem dL_law_178 : decode cL_law 178 = .ok (.iadd, 1) := by decide +kernel
theorem dL_law_179 : decode cL_law 179 = .ok (.iaload, 1) := by decide +kernel
theorem dL_law_180 : decode cL_law 180 = .ok (.invokevirtual 22, 3) := by decide +kernel
theorem dL_law_183 : decode cL_law 183 = .ok (.aload_n 2, 1) := by decide +kernel
theorem dL_law_184 : decode cL_law 184 = .ok (.aload_n 0, 1) := by decide +kernel
theorem dL_law_185 : decode cL_law 185 = .ok (.iload_n 3, 1) := by decide +kernel
theorem dL_law_186 : decode cL_law 186 = .ok (.iconst 1, 1) := by decide +kernel
theorem dL_law_187 : decode cL_law 187 = .ok (.iadd, 1) := by decide +kernel
theorem dL_law_188 : decode cL_law 188 = .ok (.iaload, 1) := by decide +kernel
theorem dL_law_189 : decode cL_law 189 = .ok (.invokevirtual 26, 3) := by decide +kernel
theorem dL_law_192 : decode cL_law 192 = .ok (.if_icmp .eq 351, 3) := by decide +kernel
theorem dL_law_195 : decode cL_law 195 = .ok (.iconst 0, 1) := by decide +kernel
theorem dL_law_196 : decode cL_law 196 = .ok (.ireturn, 1) := by decide +kernel
theorem dL_law_197 : decode cL_law 197 = .ok (.aload_n 1, 1) := by decide +kernel
theorem dL_law_198 : decode cL_law 198 = .ok (.aload_n 0, 1) := by decide +kernel
theorem dL_law_199 : decode cL_law 199 = .ok (.iload_n 3, 1) := by decide +kernel
theorem dL_law_200 : decode cL_law 200 = .ok (.iconst 1, 1) := by decide +kernel
theorem dL_law_201 : decode cL_law 201 = .ok (.iadd, 1) := by decide +kernel
theorem dL_law_202 : decode cL_law 202 = .ok (.iaload, 1) := by decide +kernel
theorem dL_law_203 : decode cL_law 203 = .ok (.invokevirtual 27, 3) := by decide +kernel
theorem dL_law_206 : decode cL_law 206 = .ok (.aload_n 2, 1) := by decide +kernel
theorem dL_law_207 : decode cL_law 207 = .ok (.aload_n 0, 1) := by decide +kernel
theorem dL_law_208 : decode cL_law 208 = .ok (.iload_n 3, 1) := by decide +kernel
theorem dL_law_209 : decode cL_law 209 = .ok (.iconst 1, 1) := by decide +kernel
theorem dL_law_210 : decode cL_law 210 = .ok (.iadd, 1) := by decide +kernel
theorem dL_law_211 : decode cL_law 211 = .ok (.iaload, 1) := by decide +kernel
theorem dL_law_212 : decode cL_law 212 = .ok (.invokevirtual 30, 3) := by decide +kernel
theorem dL_law_215 : decode cL_law 215 = .ok (.if_icmp .eq 328, 3) := by decide +kernel
theorem dL_law_218 : decode cL_law 218 = .ok (.iconst 0, 1) := by decide +kernel
theorem dL_law_219 : decode cL_law 219 = .ok (.ireturn, 1) := by decide +kernel
theorem dL_law_220 : decode cL_law 220 = .ok (.aload_n 1, 1) := by decide +kernel
theorem dL_law_221 : decode cL_law 221 = .ok (.aload_n 0, 1) := by decide +kernel
theorem dL_law_222 : decode cL_law 222 = .ok (.iload_n 3, 1) := by decide +kernel
theorem dL_law_223 : decode cL_law 223 = .ok (.iconst 1, 1) := by decide +kernel
theorem dL_law_224 : decode cL_law 224 = .ok (.iadd, 1) := by decide +kernel
theorem dL_law_225 : decode cL_law 225 = .ok (.iaload, 1) := by decide +kernel
theorem dL_law_226 : decode cL_law 226 = .ok (.aload_n 0, 1) := by decide +kernel
theorem dL_law_227 : decode cL_law 227 = .ok (.iload_n 3, 1) := by decide +kernel
theorem dL_law_228 : decode cL_law 228 = .ok (.iconst 2, 1) := by decide +kernel
theorem dL_law_229 : decode cL_law 229 = .ok (.iadd, 1) := by decide +kernel
theorem dL_law_230 : decode cL_law 230 = .ok (.iaload, 1) := by decide +kernel
theorem dL_law_231 : decode cL_law 231 = .ok (.invokevirtual 31, 3) := by decide +kernel
theorem dL_law_234 : decode cL_law 234 = .ok (.aload_n 2, 1) := by decide +kernel
theorem dL_law_235 : decode cL_law 235 = .ok (.aload_n 0, 1) := by decide +kernel
theorem dL_law_236 : decode cL_law 236 = .ok (.iload_n 3, 1) := by decide +kernel
theorem dL_law_237 : decode cL_law 237 = .ok (.iconst 1, 1) := by decide +kernel
theorem dL_law_238 : decode cL_law 238 = .ok (.iadd, 1) := by decide +kernel
theorem dL_law_239 : decode cL_law 239 = .ok (.iaload, 1) := by decide +kernel
theorem dL_law_240 : decode cL_law 240 = .ok (.aload_n 0, 1) := by decide +kernel
theorem dL_law_241 : decode cL_law 241 = .ok (.iload_n 3, 1) := by decide +kernel
theorem dL_law_242 : decode cL_law 242 = .ok (.iconst 2, 1) := by decide +kernel
theorem dL_law_243 : decode cL_law 243 = .ok (.iadd, 1) := by decide +kernel
theorem dL_law_244 : decode cL_law 244 = .ok (.iaload, 1) := by decide +kernel
theorem dL_law_245 : decode cL_law 245 = .ok (.invokevirtual 34, 3) := by decide +kernel
theorem dL_law_248 : decode cL_law 248 = .ok (.if_icmp .eq 295, 3) := by decide +kernel
theorem dL_law_251 : decode cL_law 251 = .ok (.iconst 0, 1) := by decide +kernel
theorem dL_law_252 : decode cL_law 252 = .ok (.ireturn, 1) := by decide +kernel
theorem dL_law_253 : decode cL_law 253 = .ok (.aload_n 1, 1) := by decide +kernel
theorem dL_law_254 : decode cL_law 254 = .ok (.aload_n 0, 1) := by decide +kernel
theorem dL_law_255 : decode cL_law 255 = .ok (.iload_n 3, 1) := by decide +kernel
theorem dL_law_256 : decode cL_law 256 = .ok (.iconst 1, 1) := by decide +kernel
theorem dL_law_257 : decode cL_law 257 = .ok (.iadd, 1) := by decide +kernel
theorem dL_law_258 : decode cL_law 258 = .ok (.iaload, 1) := by decide +kernel
theorem dL_law_259 : decode cL_law 259 = .ok (.aload_n 0, 1) := by decide +kernel
theorem dL_law_260 : decode cL_law 260 = .ok (.iload_n 3, 1) := by decide +kernel
theorem dL_law_261 : decode cL_law 261 = .ok (.iconst 2, 1) := by decide +kernel
theorem dL_law_262 : decode cL_law 262 = .ok (.iadd, 1) := by decide +kernel
theorem dL_law_263 : decode cL_law 263 = .ok (.iaload, 1) := by decide +kernel
theorem dL_law_264 : decode cL_law 264 = .ok (.invokevirtual 35, 3) := by decide +kernel
theorem dL_law_267 : decode cL_law 267 = .ok (.aload_n 2, 1) := by decide +kernel
theorem dL_law_268 : decode cL_law 268 = .ok (.aload_n 0, 1) := by decide +kernel
theorem dL_law_269 : decode cL_law 269 = .ok (.iload_n 3, 1) := by decide +kernel
theorem dL_law_270 : decode cL_law 270 = .ok (.iconst 1, 1) := by decide +kernel
theorem dL_law_271 : decode cL_law 271 = .ok (.iadd, 1) := by decide +kernel
theorem dL_law_272 : decode cL_law 272 = .ok (.iaload, 1) := by decide +kernel
theorem dL_law_273 : decode cL_law 273 = .ok (.aload_n 0, 1) := by decide +kernel
theorem dL_law_274 : decode cL_law 274 = .ok (.iload_n 3, 1) := by decide +kernel
theorem dL_law_275 : decode cL_law 275 = .ok (.iconst 2, 1) := by decide +kernel
theorem dL_law_276 : decode cL_law 276 = .ok (.iadd, 1) := by decide +kernel
theorem dL_law_277 : decode cL_law 277 = .ok (.iaload, 1) := by decide +kernel
theorem dL_law_278 : decode cL_law 278 = .ok (.invokevirtual 38, 3) := by decide +kernel
theorem dL_law_281 : decode cL_law 281 = .ok (.if_icmp .eq 262, 3) := by decide +kernel
theorem dL_law_284 : decode cL_law 284 = .ok (.iconst 0, 1) := by decide +kernel
theorem dL_law_285 : decode cL_law 285 = .ok (.ireturn, 1) := by decide +kernel
theorem dL_law_286 : decode cL_law 286 = .ok (.aload_n 1, 1) := by decide +kernel
theorem dL_law_287 : decode cL_law 287 = .ok (.aload_n 0, 1) := by decide +kernel
theorem dL_law_288 : decode cL_law 288 = .ok (.iload_n 3, 1) := by decide +kernel
theorem dL_law_289 : decode cL_law 289 = .ok (.iconst 1, 1) := by decide +kernel
theorem dL_law_290 : decode cL_law 290 = .ok (.iadd, 1) := by decide +kernel
theorem dL_law_291 : decode cL_law 291 = .ok (.iaload, 1) := by decide +kernel
theorem dL_law_292 : decode cL_law 292 = .ok (.aload_n 0, 1) := by decide +kernel
theorem dL_law_293 : decode cL_law 293 = .ok (.iload_n 3, 1) := by decide +kernel
theorem dL_law_294 : decode cL_law 294 = .ok (.iconst 2, 1) := by decide +kernel
theorem dL_law_295 : decode cL_law 295 = .ok (.iadd, 1) := by decide +kernel
theorem dL_law_296 : decode cL_law 296 = .ok (.iaload, 1) := by decide +kernel
theorem dL_law_297 : decode cL_law 297 = .ok (.invokevirtual 39, 3) := by decide +kernel
theorem dL_law_300 : decode cL_law 300 = .ok (.aload_n 2, 1) := by decide +kernel
theorem dL_law_301 : decode cL_law 301 = .ok (.aload_n 0, 1) := by decide +kernel
theorem dL_law_302 : decode cL_law 302 = .ok (.iload_n 3, 1) := by decide +kernel
theorem dL_law_303 : decode cL_law 303 = .ok (.iconst 1, 1) := by decide +kernel
theorem dL_law_304 : decode cL_law 304 = .ok (.iadd, 1) := by decide +kernel
theorem dL_law_305 : decode cL_law 305 = .ok (.iaload, 1) := by decide +kernel
theorem dL_law_306 : decode cL_law 306 = .ok (.aload_n 0, 1) := by decide +kernel
theorem dL_law_307 : decode cL_law 307 = .ok (.iload_n 3, 1) := by decide +kernel
theorem dL_law_308 : decode cL_law 308 = .ok (.iconst 2, 1) := by decide +kernel
theorem dL_law_309 : decode cL_law 309 = .ok (.iadd, 1) := by decide +kernel
theorem dL_law_310 : decode cL_law 310 = .ok (.iaload, 1) := by decide +kernel
theorem dL_law_311 : decode cL_law 311 = .ok (.invokevirtual 42, 3) := by decide +kernel
theorem dL_law_314 : decode cL_law 314 = .ok (.if_icmp .eq 229, 3) := by decide +kernel
theorem dL_law_317 : decode cL_law 317 = .ok (.iconst 0, 1) := by decide +kernel
theorem dL_law_318 : decode cL_law 318 = .ok (.ireturn, 1) := by decide +kernel
theorem dL_law_319 : decode cL_law 319 = .ok (.aload_n 1, 1) := by decide +kernel
theorem dL_law_320 : decode cL_law 320 = .ok (.aload_n 0, 1) := by decide +kernel
theorem dL_law_321 : decode cL_law 321 = .ok (.iload_n 3, 1) := by decide +kernel
theorem dL_law_322 : decode cL_law 322 = .ok (.iconst 1, 1) := by decide +kernel
theorem dL_law_323 : decode cL_law 323 = .ok (.iadd, 1) := by decide +kernel
theorem dL_law_324 : decode cL_law 324 = .ok (.iaload, 1) := by decide +kernel
theorem dL_law_325 : decode cL_law 325 = .ok (.aload_n 0, 1) := by decide +kernel
theorem dL_law_326 : decode cL_law 326 = .ok (.iload_n 3, 1) := by decide +kernel
theorem dL_law_327 : decode cL_law 327 = .ok (.iconst 2, 1) := by decide +kernel
theorem dL_law_328 : decode cL_law 328 = .ok (.iadd, 1) := by decide +kernel
theorem dL_law_329 : decode cL_law 329 = .ok (.iaload, 1) := by decide +kernel
theorem dL_law_330 : decode cL_law 330 = .ok (.invokevirtual 43, 3) := by decide +kernel
theorem dL_law_333 : decode cL_law 333 = .ok (.aload_n 2, 1) := by decide +kernel
theorem dL_law_334 : decode cL_law 334 = .ok (.aload_n 0, 1) := by decide +kernel
theorem dL_law_335 : decode cL_law 335 = .ok (.iload_n 3, 1) := by decide +kernel
theorem dL_law_336 : decode cL_law 336 = .ok (.iconst 1, 1) := by decide +kernel
theorem dL_law_337 : decode cL_law 337 = .ok (.iadd, 1) := by decide +kernel
theorem dL_law_338 : decode cL_law 338 = .ok (.iaload, 1) := by decide +kernel
theorem dL_law_339 : decode cL_law 339 = .ok (.aload_n 0, 1) := by decide +kernel
theorem dL_law_340 : decode cL_law 340 = .ok (.iload_n 3, 1) := by decide +kernel
theorem dL_law_341 : decode cL_law 341 = .ok (.iconst 2, 1) := by decide +kernel
theorem dL_law_342 : decode cL_law 342 = .ok (.iadd, 1) := by decide +kernel
theorem dL_law_343 : decode cL_law 343 = .ok (.iaload, 1) := by decide +kernel
theorem dL_law_344 : decode cL_law 344 = .ok (.invokevirtual 46, 3) := by decide +kernel
theorem dL_law_347 : decode cL_law 347 = .ok (.if_icmp .eq 196, 3) := by decide +kernel
theorem dL_law_350 : decode cL_law 350 = .ok (.iconst 0, 1) := by decide +kernel
theorem dL_law_351 : decode cL_law 351 = .ok (.ireturn, 1) := by decide +kernel
theorem dL_law_352 : decode cL_law 352 = .ok (.aload_n 1, 1) := by decide +kernel
theorem dL_law_353 : decode cL_law 353 = .ok (.aload_n 0, 1) := by decide +kernel
theorem dL_law_354 : decode cL_law 354 = .ok (.iload_n 3, 1) := by decide +kernel
theorem dL_law_355 : decode cL_law 355 = .ok (.iconst 1, 1) := by decide +kernel
theorem dL_law_356 : decode cL_law 356 = .ok (.iadd, 1) := by decide +kernel
theorem dL_law_357 : decode cL_law 357 = .ok (.iaload, 1) := by decide +kernel
theorem dL_law_358 : decode cL_law 358 = .ok (.aload_n 0, 1) := by decide +kernel
theorem dL_law_359 : decode cL_law 359 = .ok (.iload_n 3, 1) := by decide +kernel
theorem dL_law_360 : decode cL_law 360 = .ok (.iconst 2, 1) := by decide +kernel
theorem dL_law_361 : decode cL_law 361 = .ok (.iadd, 1) := by decide +kernel
theorem dL_law_362 : decode cL_law 362 = .ok (.iaload, 1) := by decide +kernel
theorem dL_law_363 : decode cL_law 363 = .ok (.invokevirtual 47, 3) := by decide +kernel
theorem dL_law_366 : decode cL_law 366 = .ok (.aload_n 2, 1) := by decide +kernel
theorem dL_law_367 : decode cL_law 367 = .ok (.aload_n 0, 1) := by decide +kernel
theorem dL_law_368 : decode cL_law 368 = .ok (.iload_n 3, 1) := by decide +kernel
theorem dL_law_369 : decode cL_law 369 = .ok (.iconst 1, 1) := by decide +kernel
theorem dL_law_370 : decode cL_law 370 = .ok (.iadd, 1) := by decide +kernel
theorem dL_law_371 : decode cL_law 371 = .ok (.iaload, 1) := by decide +kernel
theorem dL_law_372 : decode cL_law 372 = .ok (.aload_n 0, 1) := by decide +kernel
theorem dL_law_373 : decode cL_law 373 = .ok (.iload_n 3, 1) := by decide +kernel
theorem dL_law_374 : decode cL_law 374 = .ok (.iconst 2, 1) := by decide +kernel
theorem dL_law_375 : decode cL_law 375 = .ok (.iadd, 1) := by decide +kernel
theorem dL_law_376 : decode cL_law 376 = .ok (.iaload, 1) := by decide +kernel
theorem dL_law_377 : decode cL_law 377 = .ok (.invokevirtual 50, 3) := by decide +kernel
theorem dL_law_380 : decode cL_law 380 = .ok (.if_icmp .eq 163, 3) := by decide +kernel
theorem dL_law_383 : decode cL_law 383 = .ok (.iconst 0, 1) := by decide +kernel
theorem dL_law_384 : decode cL_law 384 = .ok (.ireturn, 1) := by decide +kernel
theorem dL_law_385 : decode cL_law 385 = .ok (.aload_n 1, 1) := by decide +kernel
theorem dL_law_386 : decode cL_law 386 = .ok (.aload_n 0, 1) := by decide +kernel
theorem dL_law_387 : decode cL_law 387 = .ok (.iload_n 3, 1) := by decide +kernel
theorem dL_law_388 : decode cL_law 388 = .ok (.iconst 1, 1) := by decide +kernel
theorem dL_law_389 : decode cL_law 389 = .ok (.iadd, 1) := by decide +kernel
theorem dL_law_390 : decode cL_law 390 = .ok (.iaload, 1) := by decide +kernel
theorem dL_law_391 : decode cL_law 391 = .ok (.aload_n 0, 1) := by decide +kernel
theorem dL_law_392 : decode cL_law 392 = .ok (.iload_n 3, 1) := by decide +kernel
theorem dL_law_393 : decode cL_law 393 = .ok (.iconst 2, 1) := by decide +kernel
theorem dL_law_394 : decode cL_law 394 = .ok (.iadd, 1) := by decide +kernel
theorem dL_law_395 : decode cL_law 395 = .ok (.iaload, 1) := by decide +kernel
theorem dL_law_396 : decode cL_law 396 = .ok (.aload_n 0, 1) := by decide +kernel
theorem dL_law_397 : decode cL_law 397 = .ok (.iload_n 3, 1) := by decide +kernel
theorem dL_law_398 : decode cL_law 398 = .ok (.iconst 3, 1) := by decide +kernel
theorem dL_law_399 : decode cL_law 399 = .ok (.iadd, 1) := by decide +kernel
theorem dL_law_400 : decode cL_law 400 = .ok (.iaload, 1) := by decide +kernel
theorem dL_law_401 : decode cL_law 401 = .ok (.aload_n 0, 1) := by decide +kernel
theorem dL_law_402 : decode cL_law 402 = .ok (.iload_n 3, 1) := by decide +kernel
theorem dL_law_403 : decode cL_law 403 = .ok (.iconst 4, 1) := by decide +kernel
theorem dL_law_404 : decode cL_law 404 = .ok (.iadd, 1) := by decide +kernel
theorem dL_law_405 : decode cL_law 405 = .ok (.iaload, 1) := by decide +kernel
theorem dL_law_406 : decode cL_law 406 = .ok (.invokevirtual 51, 3) := by decide +kernel
theorem dL_law_409 : decode cL_law 409 = .ok (.aload_n 2, 1) := by decide +kernel
theorem dL_law_410 : decode cL_law 410 = .ok (.aload_n 0, 1) := by decide +kernel
theorem dL_law_411 : decode cL_law 411 = .ok (.iload_n 3, 1) := by decide +kernel
theorem dL_law_412 : decode cL_law 412 = .ok (.iconst 1, 1) := by decide +kernel
theorem dL_law_413 : decode cL_law 413 = .ok (.iadd, 1) := by decide +kernel
theorem dL_law_414 : decode cL_law 414 = .ok (.iaload, 1) := by decide +kernel
theorem dL_law_415 : decode cL_law 415 = .ok (.aload_n 0, 1) := by decide +kernel
theorem dL_law_416 : decode cL_law 416 = .ok (.iload_n 3, 1) := by decide +kernel
theorem dL_law_417 : decode cL_law 417 = .ok (.iconst 2, 1) := by decide +kernel
theorem dL_law_418 : decode cL_law 418 = .ok (.iadd, 1) := by decide +kernel
theorem dL_law_419 : decode cL_law 419 = .ok (.iaload, 1) := by decide +kernel
theorem dL_law_420 : decode cL_law 420 = .ok (.aload_n 0, 1) := by decide +kernel
theorem dL_law_421 : decode cL_law 421 = .ok (.iload_n 3, 1) := by decide +kernel
theorem dL_law_422 : decode cL_law 422 = .ok (.iconst 3, 1) := by decide +kernel
theorem dL_law_423 : decode cL_law 423 = .ok (.iadd, 1) := by decide +kernel
theorem dL_law_424 : decode cL_law 424 = .ok (.iaload, 1) := by decide +kernel
theorem dL_law_425 : decode cL_law 425 = .ok (.aload_n 0, 1) := by decide +kernel
theorem dL_law_426 : decode cL_law 426 = .ok (.iload_n 3, 1) := by decide +kernel
theorem dL_law_427 : decode cL_law 427 = .ok (.iconst 4, 1) := by decide +kernel
theorem dL_law_428 : decode cL_law 428 = .ok (.iadd, 1) := by decide +kernel
theorem dL_law_429 : decode cL_law 429 = .ok (.iaload, 1) := by decide +kernel
theorem dL_law_430 : decode cL_law 430 = .ok (.invokevirtual 55, 3) := by decide +kernel
theorem dL_law_433 : decode cL_law 433 = .ok (.if_icmp .eq 110, 3) := by decide +kernel
theorem dL_law_436 : decode cL_law 436 = .ok (.iconst 0, 1) := by decide +kernel
theorem dL_law_437 : decode cL_law 437 = .ok (.ireturn, 1) := by decide +kernel
theorem dL_law_438 : decode cL_law 438 = .ok (.aload_n 1, 1) := by decide +kernel
theorem dL_law_439 : decode cL_law 439 = .ok (.aload_n 0, 1) := by decide +kernel
theorem dL_law_440 : decode cL_law 440 = .ok (.iload_n 3, 1) := by decide +kernel
theorem dL_law_441 : decode cL_law 441 = .ok (.iconst 1, 1) := by decide +kernel
theorem dL_law_442 : decode cL_law 442 = .ok (.iadd, 1) := by decide +kernel
theorem dL_law_443 : decode cL_law 443 = .ok (.iaload, 1) := by decide +kernel
theorem dL_law_444 : decode cL_law 444 = .ok (.aload_n 0, 1) := by decide +kernel
theorem dL_law_445 : decode cL_law 445 = .ok (.iload_n 3, 1) := by decide +kernel
theorem dL_law_446 : decode cL_law 446 = .ok (.iconst 2, 1) := by decide +kernel
theorem dL_law_447 : decode cL_law 447 = .ok (.iadd, 1) := by decide +kernel
theorem dL_law_448 : decode cL_law 448 = .ok (.iaload, 1) := by decide +kernel
theorem dL_law_449 : decode cL_law 449 = .ok (.invokevirtual 56, 3) := by decide +kernel
theorem dL_law_452 : decode cL_law 452 = .ok (.aload_n 2, 1) := by decide +kernel
theorem dL_law_453 : decode cL_law 453 = .ok (.aload_n 0, 1) := by decide +kernel
theorem dL_law_454 : decode cL_law 454 = .ok (.iload_n 3, 1) := by decide +kernel
theorem dL_law_455 : decode cL_law 455 = .ok (.iconst 1, 1) := by decide +kernel
theorem dL_law_456 : decode cL_law 456 = .ok (.iadd, 1) := by decide +kernel
theorem dL_law_457 : decode cL_law 457 = .ok (.iaload, 1) := by decide +kernel
theorem dL_law_458 : decode cL_law 458 = .ok (.aload_n 0, 1) := by decide +kernel
theorem dL_law_459 : decode cL_law 459 = .ok (.iload_n 3, 1) := by decide +kernel
theorem dL_law_460 : decode cL_law 460 = .ok (.iconst 2, 1) := by decide +kernel
theorem dL_law_461 : decode cL_law 461 = .ok (.iadd, 1) := by decide +kernel
theorem dL_law_462 : decode cL_law 462 = .ok (.iaload, 1) := by decide +kernel
theorem dL_law_463 : decode cL_law 463 = .ok (.invokevirtual 59, 3) := by decide +kernel
theorem dL_law_466 : decode cL_law 466 = .ok (.if_icmp .eq 77, 3) := by decide +kernel
theorem dL_law_469 : decode cL_law 469 = .ok (.iconst 0, 1) := by decide +kernel
theorem dL_law_470 : decode cL_law 470 = .ok (.ireturn, 1) := by decide +kernel
theorem dL_law_471 : decode cL_law 471 = .ok (.aload_n 1, 1) := by decide +kernel
theorem dL_law_472 : decode cL_law 472 = .ok (.invokevirtual 60, 3) := by decide +kernel
theorem dL_law_475 : decode cL_law 475 = .ok (.aload_n 2, 1) := by decide +kernel
theorem dL_law_476 : decode cL_law 476 = .ok (.invokevirtual 64, 3) := by decide +kernel
theorem dL_law_479 : decode cL_law 479 = .ok (.if_icmp .eq 64, 3) := by decide +kernel
theorem dL_law_482 : decode cL_law 482 = .ok (.iconst 0, 1) := by decide +kernel
theorem dL_law_483 : decode cL_law 483 = .ok (.ireturn, 1) := by decide +kernel
theorem dL_law_484 : decode cL_law 484 = .ok (.aload_n 1, 1) := by decide +kernel
theorem dL_law_485 : decode cL_law 485 = .ok (.invokevirtual 65, 3) := by decide +kernel
theorem dL_law_488 : decode cL_law 488 = .ok (.aload_n 2, 1) := by decide +kernel
theorem dL_law_489 : decode cL_law 489 = .ok (.invokevirtual 68, 3) := by decide +kernel
theorem dL_law_492 : decode cL_law 492 = .ok (.if_icmp .eq 51, 3) := by decide +kernel
theorem dL_law_495 : decode cL_law 495 = .ok (.iconst 0, 1) := by decide +kernel
theorem dL_law_496 : decode cL_law 496 = .ok (.ireturn, 1) := by decide +kernel
theorem dL_law_497 : decode cL_law 497 = .ok (.aload_n 1, 1) := by decide +kernel
theorem dL_law_498 : decode cL_law 498 = .ok (.aload_n 0, 1) := by decide +kernel
theorem dL_law_499 : decode cL_law 499 = .ok (.iload_n 3, 1) := by decide +kernel
theorem dL_law_500 : decode cL_law 500 = .ok (.iconst 1, 1) := by decide +kernel
theorem dL_law_501 : decode cL_law 501 = .ok (.iadd, 1) := by decide +kernel
theorem dL_law_502 : decode cL_law 502 = .ok (.iaload, 1) := by decide +kernel
theorem dL_law_503 : decode cL_law 503 = .ok (.invokevirtual 69, 3) := by decide +kernel
theorem dL_law_506 : decode cL_law 506 = .ok (.aload_n 2, 1) := by decide +kernel
theorem dL_law_507 : decode cL_law 507 = .ok (.aload_n 0, 1) := by decide +kernel
theorem dL_law_508 : decode cL_law 508 = .ok (.iload_n 3, 1) := by decide +kernel
theorem dL_law_509 : decode cL_law 509 = .ok (.iconst 1, 1) := by decide +kernel
theorem dL_law_510 : decode cL_law 510 = .ok (.iadd, 1) := by decide +kernel
theorem dL_law_511 : decode cL_law 511 = .ok (.iaload, 1) := by decide +kernel
theorem dL_law_512 : decode cL_law 512 = .ok (.invokevirtual 72, 3) := by decide +kernel
theorem dL_law_515 : decode cL_law 515 = .ok (.if_icmp .eq 28, 3) := by decide +kernel
theorem dL_law_518 : decode cL_law 518 = .ok (.iconst 0, 1) := by decide +kernel
theorem dL_law_519 : decode cL_law 519 = .ok (.ireturn, 1) := by decide +kernel
theorem dL_law_520 : decode cL_law 520 = .ok (.aload_n 1, 1) := by decide +kernel
theorem dL_law_521 : decode cL_law 521 = .ok (.aload_n 0, 1) := by decide +kernel
theorem dL_law_522 : decode cL_law 522 = .ok (.iload_n 3, 1) := by decide +kernel
theorem dL_law_523 : decode cL_law 523 = .ok (.iconst 1, 1) := by decide +kernel
theorem dL_law_524 : decode cL_law 524 = .ok (.iadd, 1) := by decide +kernel
theorem dL_law_525 : decode cL_law 525 = .ok (.iaload, 1) := by decide +kernel
theorem dL_law_526 : decode cL_law 526 = .ok (.invokevirtual 73, 3) := by decide +kernel
theorem dL_law_529 : decode cL_law 529 = .ok (.aload_n 2, 1) := by decide +kernel
theorem dL_law_530 : decode cL_law 530 = .ok (.aload_n 0, 1) := by decide +kernel
theorem dL_law_531 : decode cL_law 531 = .ok (.iload_n 3, 1) := by decide +kernel
theorem dL_law_532 : decode cL_law 532 = .ok (.iconst 1, 1) := by decide +kernel
theorem dL_law_533 : decode cL_law 533 = .ok (.iadd, 1) := by decide +kernel
theorem dL_law_534 : decode cL_law 534 = .ok (.iaload, 1) := by decide +kernel
theorem dL_law_535 : decode cL_law 535 = .ok (.invokevirtual 76, 3) := by decide +kernel
theorem dL_law_538 : decode cL_law 538 = .ok (.if_icmp .eq 5, 3) := by decide +kernel
theorem dL_law_541 : decode cL_law 541 = .ok (.iconst 0, 1) := by decide +kernel
theorem dL_law_542 : decode cL_law 542 = .ok (.ireturn, 1) := by decide +kernel
theorem dL_law_543 : decode cL_law 543 = .ok (.iinc 3 5, 3) := by decide +kernel
theorem dL_law_546 : decode cL_law 546 = .ok (.goto (-528), 3) := by decide +kernel
theorem dL_law_549 : decode cL_law 549 = .ok (.iconst 1, 1) := by decide +kernel
theorem dL_law_550 : decode cL_law 550 = .ok (.ireturn, 1) := by decide +kernel
