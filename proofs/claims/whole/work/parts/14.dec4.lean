theorem dX4_isIn_0 : decode cX4_isIn 0 = .ok (.iload_n 0, 1) := by decide +kernel
theorem dX4_isIn_1 : decode cX4_isIn 1 = .ok (.iload_n 1, 1) := by decide +kernel
theorem dX4_isIn_2 : decode cX4_isIn 2 = .ok (.if_icmp .lt 12, 3) := by decide +kernel
theorem dX4_isIn_5 : decode cX4_isIn 5 = .ok (.iload_n 0, 1) := by decide +kernel
theorem dX4_isIn_6 : decode cX4_isIn 6 = .ok (.iload_n 2, 1) := by decide +kernel
theorem dX4_isIn_7 : decode cX4_isIn 7 = .ok (.if_icmp .gt 7, 3) := by decide +kernel
theorem dX4_isIn_10 : decode cX4_isIn 10 = .ok (.iconst 1, 1) := by decide +kernel
theorem dX4_isIn_11 : decode cX4_isIn 11 = .ok (.goto 4, 3) := by decide +kernel
theorem dX4_isIn_14 : decode cX4_isIn 14 = .ok (.iconst 0, 1) := by decide +kernel
theorem dX4_isIn_15 : decode cX4_isIn 15 = .ok (.ireturn, 1) := by decide +kernel
theorem dX4_has_0 : decode cX4_has 0 = .ok (.iload_n 0, 1) := by decide +kernel
theorem dX4_has_1 : decode cX4_has 1 = .ok (.iload_n 1, 1) := by decide +kernel
theorem dX4_has_2 : decode cX4_has 2 = .ok (.ishr, 1) := by decide +kernel
theorem dX4_has_3 : decode cX4_has 3 = .ok (.iconst 1, 1) := by decide +kernel
theorem dX4_has_4 : decode cX4_has 4 = .ok (.iand, 1) := by decide +kernel
theorem dX4_has_5 : decode cX4_has 5 = .ok (.iconst 1, 1) := by decide +kernel
theorem dX4_has_6 : decode cX4_has 6 = .ok (.if_icmp .ne 7, 3) := by decide +kernel
theorem dX4_has_9 : decode cX4_has 9 = .ok (.iconst 1, 1) := by decide +kernel
theorem dX4_has_10 : decode cX4_has 10 = .ok (.goto 4, 3) := by decide +kernel
theorem dX4_has_13 : decode cX4_has 13 = .ok (.iconst 0, 1) := by decide +kernel
theorem dX4_has_14 : decode cX4_has 14 = .ok (.ireturn, 1) := by decide +kernel
theorem dX4_isStream_0 : decode cX4_isStream 0 = .ok (.iload_n 0, 1) := by decide +kernel
theorem dX4_isStream_1 : decode cX4_isStream 1 = .ok (.iconst 0, 1) := by decide +kernel
theorem dX4_isStream_2 : decode cX4_isStream 2 = .ok (.bipush 7, 2) := by decide +kernel
theorem dX4_isStream_4 : decode cX4_isStream 4 = .ok (.invokestatic 35, 3) := by decide +kernel
theorem dX4_isStream_7 : decode cX4_isStream 7 = .ok (.ireturn, 1) := by decide +kernel
theorem dX4_isOpen_0 : decode cX4_isOpen 0 = .ok (.aload_n 0, 1) := by decide +kernel
theorem dX4_isOpen_1 : decode cX4_isOpen 1 = .ok (.getfield 7, 3) := by decide +kernel
theorem dX4_isOpen_4 : decode cX4_isOpen 4 = .ok (.iconst 0, 1) := by decide +kernel
theorem dX4_isOpen_5 : decode cX4_isOpen 5 = .ok (.iload_n 1, 1) := by decide +kernel
theorem dX4_isOpen_6 : decode cX4_isOpen 6 = .ok (.iadd, 1) := by decide +kernel
theorem dX4_isOpen_7 : decode cX4_isOpen 7 = .ok (.iaload, 1) := by decide +kernel
theorem dX4_isOpen_8 : decode cX4_isOpen 8 = .ok (.iconst 1, 1) := by decide +kernel
theorem dX4_isOpen_9 : decode cX4_isOpen 9 = .ok (.if_icmp .ne 7, 3) := by decide +kernel
theorem dX4_isOpen_12 : decode cX4_isOpen 12 = .ok (.iconst 1, 1) := by decide +kernel
theorem dX4_isOpen_13 : decode cX4_isOpen 13 = .ok (.goto 4, 3) := by decide +kernel
theorem dX4_isOpen_16 : decode cX4_isOpen 16 = .ok (.iconst 0, 1) := by decide +kernel
theorem dX4_isOpen_17 : decode cX4_isOpen 17 = .ok (.ireturn, 1) := by decide +kernel
theorem dX4_remember_0 : decode cX4_remember 0 = .ok (.aload_n 0, 1) := by decide +kernel
theorem dX4_remember_1 : decode cX4_remember 1 = .ok (.getfield 39, 3) := by decide +kernel
theorem dX4_remember_4 : decode cX4_remember 4 = .ok (.bipush 8, 2) := by decide +kernel
theorem dX4_remember_6 : decode cX4_remember 6 = .ok (.if_icmp .ne 44, 3) := by decide +kernel
theorem dX4_remember_9 : decode cX4_remember 9 = .ok (.iconst 0, 1) := by decide +kernel
theorem dX4_remember_10 : decode cX4_remember 10 = .ok (.istore_n 1, 1) := by decide +kernel
theorem dX4_remember_11 : decode cX4_remember 11 = .ok (.iload_n 1, 1) := by decide +kernel
theorem dX4_remember_12 : decode cX4_remember 12 = .ok (.sipush 2996, 3) := by decide +kernel
theorem dX4_remember_15 : decode cX4_remember 15 = .ok (.if_icmp .ge 25, 3) := by decide +kernel
theorem dX4_remember_18 : decode cX4_remember 18 = .ok (.aload_n 0, 1) := by decide +kernel
theorem dX4_remember_19 : decode cX4_remember 19 = .ok (.getfield 13, 3) := by decide +kernel
theorem dX4_remember_22 : decode cX4_remember 22 = .ok (.iload_n 1, 1) := by decide +kernel
theorem dX4_remember_23 : decode cX4_remember 23 = .ok (.aload_n 0, 1) := by decide +kernel
theorem dX4_remember_24 : decode cX4_remember 24 = .ok (.getfield 13, 3) := by decide +kernel
theorem dX4_remember_27 : decode cX4_remember 27 = .ok (.iload_n 1, 1) := by decide +kernel
theorem dX4_remember_28 : decode cX4_remember 28 = .ok (.sipush 428, 3) := by decide +kernel
theorem dX4_remember_31 : decode cX4_remember 31 = .ok (.iadd, 1) := by decide +kernel
theorem dX4_remember_32 : decode cX4_remember 32 = .ok (.iaload, 1) := by decide +kernel
theorem dX4_remember_33 : decode cX4_remember 33 = .ok (.iastore, 1) := by decide +kernel
theorem dX4_remember_34 : decode cX4_remember 34 = .ok (.iinc 1 1, 3) := by decide +kernel
theorem dX4_remember_37 : decode cX4_remember 37 = .ok (.goto (-26), 3) := by decide +kernel
theorem dX4_remember_40 : decode cX4_remember 40 = .ok (.aload_n 0, 1) := by decide +kernel
theorem dX4_remember_41 : decode cX4_remember 41 = .ok (.dup, 1) := by decide +kernel
theorem dX4_remember_42 : decode cX4_remember 42 = .ok (.getfield 39, 3) := by decide +kernel
theorem dX4_remember_45 : decode cX4_remember 45 = .ok (.iconst 1, 1) := by decide +kernel
theorem dX4_remember_46 : decode cX4_remember 46 = .ok (.isub, 1) := by decide +kernel
theorem dX4_remember_47 : decode cX4_remember 47 = .ok (.putfield 39, 3) := by decide +kernel
theorem dX4_remember_50 : decode cX4_remember 50 = .ok (.iconst 0, 1) := by decide +kernel
theorem dX4_remember_51 : decode cX4_remember 51 = .ok (.istore_n 1, 1) := by decide +kernel
theorem dX4_remember_52 : decode cX4_remember 52 = .ok (.iload_n 1, 1) := by decide +kernel
theorem dX4_remember_53 : decode cX4_remember 53 = .ok (.sipush 428, 3) := by decide +kernel
theorem dX4_remember_56 : decode cX4_remember 56 = .ok (.if_icmp .ge 30, 3) := by decide +kernel
theorem dX4_remember_59 : decode cX4_remember 59 = .ok (.aload_n 0, 1) := by decide +kernel
theorem dX4_remember_60 : decode cX4_remember 60 = .ok (.getfield 13, 3) := by decide +kernel
theorem dX4_remember_63 : decode cX4_remember 63 = .ok (.sipush 428, 3) := by decide +kernel
theorem dX4_remember_66 : decode cX4_remember 66 = .ok (.aload_n 0, 1) := by decide +kernel
theorem dX4_remember_67 : decode cX4_remember 67 = .ok (.getfield 39, 3) := by decide +kernel
theorem dX4_remember_70 : decode cX4_remember 70 = .ok (.imul, 1) := by decide +kernel
theorem dX4_remember_71 : decode cX4_remember 71 = .ok (.iload_n 1, 1) := by decide +kernel
theorem dX4_remember_72 : decode cX4_remember 72 = .ok (.iadd, 1) := by decide +kernel
theorem dX4_remember_73 : decode cX4_remember 73 = .ok (.aload_n 0, 1) := by decide +kernel
theorem dX4_remember_74 : decode cX4_remember 74 = .ok (.getfield 7, 3) := by decide +kernel
theorem dX4_remember_77 : decode cX4_remember 77 = .ok (.iload_n 1, 1) := by decide +kernel
theorem dX4_remember_78 : decode cX4_remember 78 = .ok (.iaload, 1) := by decide +kernel
theorem dX4_remember_79 : decode cX4_remember 79 = .ok (.iastore, 1) := by decide +kernel
theorem dX4_remember_80 : decode cX4_remember 80 = .ok (.iinc 1 1, 3) := by decide +kernel
theorem dX4_remember_83 : decode cX4_remember 83 = .ok (.goto (-31), 3) := by decide +kernel
theorem dX4_remember_86 : decode cX4_remember 86 = .ok (.aload_n 0, 1) := by decide +kernel
theorem dX4_remember_87 : decode cX4_remember 87 = .ok (.dup, 1) := by decide +kernel
theorem dX4_remember_88 : decode cX4_remember 88 = .ok (.getfield 39, 3) := by decide +kernel
theorem dX4_remember_91 : decode cX4_remember 91 = .ok (.iconst 1, 1) := by decide +kernel
theorem dX4_remember_92 : decode cX4_remember 92 = .ok (.iadd, 1) := by decide +kernel
theorem dX4_remember_93 : decode cX4_remember 93 = .ok (.putfield 39, 3) := by decide +kernel
theorem dX4_remember_96 : decode cX4_remember 96 = .ok (.return_, 1) := by decide +kernel
theorem dX4_frameAt_0 : decode cX4_frameAt 0 = .ok (.aload_n 0, 1) := by decide +kernel
theorem dX4_frameAt_1 : decode cX4_frameAt 1 = .ok (.getfield 7, 3) := by decide +kernel
theorem dX4_frameAt_4 : decode cX4_frameAt 4 = .ok (.bipush 32, 2) := by decide +kernel
theorem dX4_frameAt_6 : decode cX4_frameAt 6 = .ok (.bipush 18, 2) := by decide +kernel
theorem dX4_frameAt_8 : decode cX4_frameAt 8 = .ok (.iload_n 1, 1) := by decide +kernel
theorem dX4_frameAt_9 : decode cX4_frameAt 9 = .ok (.imul, 1) := by decide +kernel
theorem dX4_frameAt_10 : decode cX4_frameAt 10 = .ok (.iadd, 1) := by decide +kernel
theorem dX4_frameAt_11 : decode cX4_frameAt 11 = .ok (.iconst 3, 1) := by decide +kernel
theorem dX4_frameAt_12 : decode cX4_frameAt 12 = .ok (.iload_n 2, 1) := by decide +kernel
theorem dX4_frameAt_13 : decode cX4_frameAt 13 = .ok (.imul, 1) := by decide +kernel
theorem dX4_frameAt_14 : decode cX4_frameAt 14 = .ok (.iadd, 1) := by decide +kernel
theorem dX4_frameAt_15 : decode cX4_frameAt 15 = .ok (.iload_n 3, 1) := by decide +kernel
theorem dX4_frameAt_16 : decode cX4_frameAt 16 = .ok (.iadd, 1) := by decide +kernel
theorem dX4_frameAt_17 : decode cX4_frameAt 17 = .ok (.iaload, 1) := by decide +kernel
theorem dX4_frameAt_18 : decode cX4_frameAt 18 = .ok (.ireturn, 1) := by decide +kernel
theorem dX4_orderOf_0 : decode cX4_orderOf 0 = .ok (.iload_n 0, 1) := by decide +kernel
theorem dX4_orderOf_1 : decode cX4_orderOf 1 = .ok (.ifCond .ge 9, 3) := by decide +kernel
theorem dX4_orderOf_4 : decode cX4_orderOf 4 = .ok (.sipush 176, 3) := by decide +kernel
theorem dX4_orderOf_7 : decode cX4_orderOf 7 = .ok (.goto 11, 3) := by decide +kernel
theorem dX4_orderOf_10 : decode cX4_orderOf 10 = .ok (.sipush 185, 3) := by decide +kernel
theorem dX4_orderOf_13 : decode cX4_orderOf 13 = .ok (.bipush 8, 2) := by decide +kernel
theorem dX4_orderOf_15 : decode cX4_orderOf 15 = .ok (.iload_n 0, 1) := by decide +kernel
theorem dX4_orderOf_16 : decode cX4_orderOf 16 = .ok (.imul, 1) := by decide +kernel
theorem dX4_orderOf_17 : decode cX4_orderOf 17 = .ok (.iadd, 1) := by decide +kernel
theorem dX4_orderOf_18 : decode cX4_orderOf 18 = .ok (.ireturn, 1) := by decide +kernel
theorem dX4_isOrder_0 : decode cX4_isOrder 0 = .ok (.iload_n 1, 1) := by decide +kernel
theorem dX4_isOrder_1 : decode cX4_isOrder 1 = .ok (.iconst (-1), 1) := by decide +kernel
theorem dX4_isOrder_2 : decode cX4_isOrder 2 = .ok (.aload_n 0, 1) := by decide +kernel
theorem dX4_isOrder_3 : decode cX4_isOrder 3 = .ok (.getfield 7, 3) := by decide +kernel
theorem dX4_isOrder_6 : decode cX4_isOrder 6 = .ok (.sipush 184, 3) := by decide +kernel
theorem dX4_isOrder_9 : decode cX4_isOrder 9 = .ok (.iaload, 1) := by decide +kernel
theorem dX4_isOrder_10 : decode cX4_isOrder 10 = .ok (.invokestatic 35, 3) := by decide +kernel
theorem dX4_isOrder_13 : decode cX4_isOrder 13 = .ok (.ireturn, 1) := by decide +kernel
theorem dX4_layAfter_0 : decode cX4_layAfter 0 = .ok (.iconst 0, 1) := by decide +kernel
theorem dX4_layAfter_1 : decode cX4_layAfter 1 = .ok (.istore_n 2, 1) := by decide +kernel
theorem dX4_layAfter_2 : decode cX4_layAfter 2 = .ok (.iload_n 2, 1) := by decide +kernel
theorem dX4_layAfter_3 : decode cX4_layAfter 3 = .ok (.bipush 8, 2) := by decide +kernel
theorem dX4_layAfter_5 : decode cX4_layAfter 5 = .ok (.if_icmp .ge 23, 3) := by decide +kernel
theorem dX4_layAfter_8 : decode cX4_layAfter 8 = .ok (.aload_n 0, 1) := by decide +kernel
theorem dX4_layAfter_9 : decode cX4_layAfter 9 = .ok (.getfield 19, 3) := by decide +kernel
theorem dX4_layAfter_12 : decode cX4_layAfter 12 = .ok (.iload_n 2, 1) := by decide +kernel
theorem dX4_layAfter_13 : decode cX4_layAfter 13 = .ok (.aload_n 0, 1) := by decide +kernel
theorem dX4_layAfter_14 : decode cX4_layAfter 14 = .ok (.getfield 7, 3) := by decide +kernel
theorem dX4_layAfter_17 : decode cX4_layAfter 17 = .ok (.iload_n 1, 1) := by decide +kernel
theorem dX4_layAfter_18 : decode cX4_layAfter 18 = .ok (.iload_n 2, 1) := by decide +kernel
theorem dX4_layAfter_19 : decode cX4_layAfter 19 = .ok (.iadd, 1) := by decide +kernel
theorem dX4_layAfter_20 : decode cX4_layAfter 20 = .ok (.iaload, 1) := by decide +kernel
theorem dX4_layAfter_21 : decode cX4_layAfter 21 = .ok (.iastore, 1) := by decide +kernel
theorem dX4_layAfter_22 : decode cX4_layAfter 22 = .ok (.iinc 2 1, 3) := by decide +kernel
theorem dX4_layAfter_25 : decode cX4_layAfter 25 = .ok (.goto (-23), 3) := by decide +kernel
theorem dX4_layAfter_28 : decode cX4_layAfter 28 = .ok (.iconst 0, 1) := by decide +kernel
theorem dX4_layAfter_29 : decode cX4_layAfter 29 = .ok (.istore_n 2, 1) := by decide +kernel
theorem dX4_layAfter_30 : decode cX4_layAfter 30 = .ok (.iload_n 2, 1) := by decide +kernel
theorem dX4_layAfter_31 : decode cX4_layAfter 31 = .ok (.bipush 8, 2) := by decide +kernel
theorem dX4_layAfter_33 : decode cX4_layAfter 33 = .ok (.if_icmp .ge 55, 3) := by decide +kernel
theorem dX4_layAfter_36 : decode cX4_layAfter 36 = .ok (.iconst 0, 1) := by decide +kernel
theorem dX4_layAfter_37 : decode cX4_layAfter 37 = .ok (.istore_n 3, 1) := by decide +kernel
theorem dX4_layAfter_38 : decode cX4_layAfter 38 = .ok (.iload_n 3, 1) := by decide +kernel
theorem dX4_layAfter_39 : decode cX4_layAfter 39 = .ok (.bipush 8, 2) := by decide +kernel
theorem dX4_layAfter_41 : decode cX4_layAfter 41 = .ok (.if_icmp .ge 41, 3) := by decide +kernel
theorem dX4_layAfter_44 : decode cX4_layAfter 44 = .ok (.aload_n 0, 1) := by decide +kernel
theorem dX4_layAfter_45 : decode cX4_layAfter 45 = .ok (.getfield 19, 3) := by decide +kernel
theorem dX4_layAfter_48 : decode cX4_layAfter 48 = .ok (.iload_n 3, 1) := by decide +kernel
theorem dX4_layAfter_49 : decode cX4_layAfter 49 = .ok (.dup2, 1) := by decide +kernel
theorem dX4_layAfter_50 : decode cX4_layAfter 50 = .ok (.iaload, 1) := by decide +kernel
theorem dX4_layAfter_51 : decode cX4_layAfter 51 = .ok (.aload_n 0, 1) := by decide +kernel
theorem dX4_layAfter_52 : decode cX4_layAfter 52 = .ok (.getfield 19, 3) := by decide +kernel
theorem dX4_layAfter_55 : decode cX4_layAfter 55 = .ok (.iload_n 3, 1) := by decide +kernel
theorem dX4_layAfter_56 : decode cX4_layAfter 56 = .ok (.iaload, 1) := by decide +kernel
theorem dX4_layAfter_57 : decode cX4_layAfter 57 = .ok (.iload_n 2, 1) := by decide +kernel
theorem dX4_layAfter_58 : decode cX4_layAfter 58 = .ok (.invokestatic 43, 3) := by decide +kernel
theorem dX4_layAfter_61 : decode cX4_layAfter 61 = .ok (.ifCond .eq 12, 3) := by decide +kernel
theorem dX4_layAfter_64 : decode cX4_layAfter 64 = .ok (.aload_n 0, 1) := by decide +kernel
theorem dX4_layAfter_65 : decode cX4_layAfter 65 = .ok (.getfield 19, 3) := by decide +kernel
theorem dX4_layAfter_68 : decode cX4_layAfter 68 = .ok (.iload_n 2, 1) := by decide +kernel
theorem dX4_layAfter_69 : decode cX4_layAfter 69 = .ok (.iaload, 1) := by decide +kernel
theorem dX4_layAfter_70 : decode cX4_layAfter 70 = .ok (.goto 4, 3) := by decide +kernel
theorem dX4_layAfter_73 : decode cX4_layAfter 73 = .ok (.iconst 0, 1) := by decide +kernel
theorem dX4_layAfter_74 : decode cX4_layAfter 74 = .ok (.ior, 1) := by decide +kernel
theorem dX4_layAfter_75 : decode cX4_layAfter 75 = .ok (.iastore, 1) := by decide +kernel
theorem dX4_layAfter_76 : decode cX4_layAfter 76 = .ok (.iinc 3 1, 3) := by decide +kernel
theorem dX4_layAfter_79 : decode cX4_layAfter 79 = .ok (.goto (-41), 3) := by decide +kernel
theorem dX4_layAfter_82 : decode cX4_layAfter 82 = .ok (.iinc 2 1, 3) := by decide +kernel
theorem dX4_layAfter_85 : decode cX4_layAfter 85 = .ok (.goto (-55), 3) := by decide +kernel
theorem dX4_layAfter_88 : decode cX4_layAfter 88 = .ok (.return_, 1) := by decide +kernel
theorem dX4_size_0 : decode cX4_size 0 = .ok (.iconst 0, 1) := by decide +kernel
theorem dX4_size_1 : decode cX4_size 1 = .ok (.istore_n 1, 1) := by decide +kernel
theorem dX4_size_2 : decode cX4_size 2 = .ok (.iconst 0, 1) := by decide +kernel
theorem dX4_size_3 : decode cX4_size 3 = .ok (.istore_n 2, 1) := by decide +kernel
theorem dX4_size_4 : decode cX4_size 4 = .ok (.iload_n 2, 1) := by decide +kernel
theorem dX4_size_5 : decode cX4_size 5 = .ok (.bipush 8, 2) := by decide +kernel
theorem dX4_size_7 : decode cX4_size 7 = .ok (.if_icmp .ge 17, 3) := by decide +kernel
theorem dX4_size_10 : decode cX4_size 10 = .ok (.iload_n 1, 1) := by decide +kernel
theorem dX4_size_11 : decode cX4_size 11 = .ok (.iload_n 0, 1) := by decide +kernel
theorem dX4_size_12 : decode cX4_size 12 = .ok (.iload_n 2, 1) := by decide +kernel
theorem dX4_size_13 : decode cX4_size 13 = .ok (.ishr, 1) := by decide +kernel
theorem dX4_size_14 : decode cX4_size 14 = .ok (.iconst 1, 1) := by decide +kernel
theorem dX4_size_15 : decode cX4_size 15 = .ok (.iand, 1) := by decide +kernel
theorem dX4_size_16 : decode cX4_size 16 = .ok (.iadd, 1) := by decide +kernel
theorem dX4_size_17 : decode cX4_size 17 = .ok (.istore_n 1, 1) := by decide +kernel
theorem dX4_size_18 : decode cX4_size 18 = .ok (.iinc 2 1, 3) := by decide +kernel
theorem dX4_size_21 : decode cX4_size 21 = .ok (.goto (-17), 3) := by decide +kernel
theorem dX4_size_24 : decode cX4_size 24 = .ok (.iload_n 1, 1) := by decide +kernel
theorem dX4_size_25 : decode cX4_size 25 = .ok (.ireturn, 1) := by decide +kernel
theorem dX4_edges_0 : decode cX4_edges 0 = .ok (.iconst 0, 1) := by decide +kernel
theorem dX4_edges_1 : decode cX4_edges 1 = .ok (.istore_n 2, 1) := by decide +kernel
theorem dX4_edges_2 : decode cX4_edges 2 = .ok (.iconst 0, 1) := by decide +kernel
theorem dX4_edges_3 : decode cX4_edges 3 = .ok (.istore_n 3, 1) := by decide +kernel
theorem dX4_edges_4 : decode cX4_edges 4 = .ok (.iload_n 3, 1) := by decide +kernel
theorem dX4_edges_5 : decode cX4_edges 5 = .ok (.bipush 8, 2) := by decide +kernel
theorem dX4_edges_7 : decode cX4_edges 7 = .ok (.if_icmp .ge 23, 3) := by decide +kernel
theorem dX4_edges_10 : decode cX4_edges 10 = .ok (.iload_n 2, 1) := by decide +kernel
theorem dX4_edges_11 : decode cX4_edges 11 = .ok (.aload_n 0, 1) := by decide +kernel
theorem dX4_edges_12 : decode cX4_edges 12 = .ok (.getfield 7, 3) := by decide +kernel
theorem dX4_edges_15 : decode cX4_edges 15 = .ok (.iload_n 1, 1) := by decide +kernel
theorem dX4_edges_16 : decode cX4_edges 16 = .ok (.iload_n 3, 1) := by decide +kernel
theorem dX4_edges_17 : decode cX4_edges 17 = .ok (.iadd, 1) := by decide +kernel
theorem dX4_edges_18 : decode cX4_edges 18 = .ok (.iaload, 1) := by decide +kernel
theorem dX4_edges_19 : decode cX4_edges 19 = .ok (.invokestatic 47, 3) := by decide +kernel
theorem dX4_edges_22 : decode cX4_edges 22 = .ok (.iadd, 1) := by decide +kernel
theorem dX4_edges_23 : decode cX4_edges 23 = .ok (.istore_n 2, 1) := by decide +kernel
theorem dX4_edges_24 : decode cX4_edges 24 = .ok (.iinc 3 1, 3) := by decide +kernel
theorem dX4_edges_27 : decode cX4_edges 27 = .ok (.goto (-23), 3) := by decide +kernel
theorem dX4_edges_30 : decode cX4_edges 30 = .ok (.iload_n 2, 1) := by decide +kernel
theorem dX4_edges_31 : decode cX4_edges 31 = .ok (.ireturn, 1) := by decide +kernel
theorem dX4_blocking_0 : decode cX4_blocking 0 = .ok (.aload_n 0, 1) := by decide +kernel
theorem dX4_blocking_1 : decode cX4_blocking 1 = .ok (.iload_n 1, 1) := by decide +kernel
theorem dX4_blocking_2 : decode cX4_blocking 2 = .ok (.iconst 0, 1) := by decide +kernel
theorem dX4_blocking_3 : decode cX4_blocking 3 = .ok (.iconst 2, 1) := by decide +kernel
theorem dX4_blocking_4 : decode cX4_blocking 4 = .ok (.invokevirtual 51, 3) := by decide +kernel
theorem dX4_blocking_7 : decode cX4_blocking 7 = .ok (.istore_n 2, 1) := by decide +kernel
theorem dX4_blocking_8 : decode cX4_blocking 8 = .ok (.aload_n 0, 1) := by decide +kernel
theorem dX4_blocking_9 : decode cX4_blocking 9 = .ok (.iload_n 2, 1) := by decide +kernel
theorem dX4_blocking_10 : decode cX4_blocking 10 = .ok (.invokestatic 55, 3) := by decide +kernel
theorem dX4_blocking_13 : decode cX4_blocking 13 = .ok (.invokevirtual 58, 3) := by decide +kernel
theorem dX4_blocking_16 : decode cX4_blocking 16 = .ok (.iconst 0, 1) := by decide +kernel
theorem dX4_blocking_17 : decode cX4_blocking 17 = .ok (.istore_n 3, 1) := by decide +kernel
theorem dX4_blocking_18 : decode cX4_blocking 18 = .ok (.iconst 0, 1) := by decide +kernel
theorem dX4_blocking_19 : decode cX4_blocking 19 = .ok (.istore 4, 2) := by decide +kernel
theorem dX4_blocking_21 : decode cX4_blocking 21 = .ok (.iload 4, 2) := by decide +kernel
theorem dX4_blocking_23 : decode cX4_blocking 23 = .ok (.bipush 8, 2) := by decide +kernel
theorem dX4_blocking_25 : decode cX4_blocking 25 = .ok (.if_icmp .ge 74, 3) := by decide +kernel
theorem dX4_blocking_28 : decode cX4_blocking 28 = .ok (.iconst 0, 1) := by decide +kernel
theorem dX4_blocking_29 : decode cX4_blocking 29 = .ok (.istore 5, 2) := by decide +kernel
theorem dX4_blocking_31 : decode cX4_blocking 31 = .ok (.iload 5, 2) := by decide +kernel
theorem dX4_blocking_33 : decode cX4_blocking 33 = .ok (.aload_n 0, 1) := by decide +kernel
theorem dX4_blocking_34 : decode cX4_blocking 34 = .ok (.getfield 7, 3) := by decide +kernel
theorem dX4_blocking_37 : decode cX4_blocking 37 = .ok (.bipush 24, 2) := by decide +kernel
theorem dX4_blocking_39 : decode cX4_blocking 39 = .ok (.iload 4, 2) := by decide +kernel
theorem dX4_blocking_41 : decode cX4_blocking 41 = .ok (.iadd, 1) := by decide +kernel
theorem dX4_blocking_42 : decode cX4_blocking 42 = .ok (.iaload, 1) := by decide +kernel
theorem dX4_blocking_43 : decode cX4_blocking 43 = .ok (.if_icmp .ge 50, 3) := by decide +kernel
theorem dX4_blocking_46 : decode cX4_blocking 46 = .ok (.iload 4, 2) := by decide +kernel
theorem dX4_blocking_48 : decode cX4_blocking 48 = .ok (.iload_n 1, 1) := by decide +kernel
theorem dX4_blocking_49 : decode cX4_blocking 49 = .ok (.if_icmp .eq 44, 3) := by decide +kernel
theorem dX4_blocking_52 : decode cX4_blocking 52 = .ok (.aload_n 0, 1) := by decide +kernel
theorem dX4_blocking_53 : decode cX4_blocking 53 = .ok (.getfield 19, 3) := by decide +kernel
theorem dX4_blocking_56 : decode cX4_blocking 56 = .ok (.iload 4, 2) := by decide +kernel
theorem dX4_blocking_58 : decode cX4_blocking 58 = .ok (.iaload, 1) := by decide +kernel
theorem dX4_blocking_59 : decode cX4_blocking 59 = .ok (.iload_n 1, 1) := by decide +kernel
theorem dX4_blocking_60 : decode cX4_blocking 60 = .ok (.invokestatic 43, 3) := by decide +kernel
theorem dX4_blocking_63 : decode cX4_blocking 63 = .ok (.ifCond .eq 30, 3) := by decide +kernel
theorem dX4_blocking_66 : decode cX4_blocking 66 = .ok (.iload_n 3, 1) := by decide +kernel
theorem dX4_blocking_67 : decode cX4_blocking 67 = .ok (.aload_n 0, 1) := by decide +kernel
theorem dX4_blocking_68 : decode cX4_blocking 68 = .ok (.iload 4, 2) := by decide +kernel
theorem dX4_blocking_70 : decode cX4_blocking 70 = .ok (.iload 5, 2) := by decide +kernel
theorem dX4_blocking_72 : decode cX4_blocking 72 = .ok (.iconst 2, 1) := by decide +kernel
theorem dX4_blocking_73 : decode cX4_blocking 73 = .ok (.invokevirtual 51, 3) := by decide +kernel
theorem dX4_blocking_76 : decode cX4_blocking 76 = .ok (.iload_n 2, 1) := by decide +kernel
theorem dX4_blocking_77 : decode cX4_blocking 77 = .ok (.if_icmp .gt 7, 3) := by decide +kernel
theorem dX4_blocking_80 : decode cX4_blocking 80 = .ok (.iconst 1, 1) := by decide +kernel
theorem dX4_blocking_81 : decode cX4_blocking 81 = .ok (.goto 4, 3) := by decide +kernel
theorem dX4_blocking_84 : decode cX4_blocking 84 = .ok (.iconst 0, 1) := by decide +kernel
theorem dX4_blocking_85 : decode cX4_blocking 85 = .ok (.iadd, 1) := by decide +kernel
theorem dX4_blocking_86 : decode cX4_blocking 86 = .ok (.istore_n 3, 1) := by decide +kernel
theorem dX4_blocking_87 : decode cX4_blocking 87 = .ok (.iinc 5 1, 3) := by decide +kernel
theorem dX4_blocking_90 : decode cX4_blocking 90 = .ok (.goto (-59), 3) := by decide +kernel
theorem dX4_blocking_93 : decode cX4_blocking 93 = .ok (.iinc 4 1, 3) := by decide +kernel
theorem dX4_blocking_96 : decode cX4_blocking 96 = .ok (.goto (-75), 3) := by decide +kernel
theorem dX4_blocking_99 : decode cX4_blocking 99 = .ok (.iload_n 3, 1) := by decide +kernel
theorem dX4_blocking_100 : decode cX4_blocking 100 = .ok (.ireturn, 1) := by decide +kernel
theorem dX4_isCandidate_0 : decode cX4_isCandidate 0 = .ok (.aload_n 0, 1) := by decide +kernel
theorem dX4_isCandidate_1 : decode cX4_isCandidate 1 = .ok (.getfield 7, 3) := by decide +kernel
theorem dX4_isCandidate_4 : decode cX4_isCandidate 4 = .ok (.bipush 24, 2) := by decide +kernel
theorem dX4_isCandidate_6 : decode cX4_isCandidate 6 = .ok (.iload_n 1, 1) := by decide +kernel
theorem dX4_isCandidate_7 : decode cX4_isCandidate 7 = .ok (.iadd, 1) := by decide +kernel
theorem dX4_isCandidate_8 : decode cX4_isCandidate 8 = .ok (.iaload, 1) := by decide +kernel
theorem dX4_isCandidate_9 : decode cX4_isCandidate 9 = .ok (.ifCond .le 15, 3) := by decide +kernel
theorem dX4_isCandidate_12 : decode cX4_isCandidate 12 = .ok (.aload_n 0, 1) := by decide +kernel
theorem dX4_isCandidate_13 : decode cX4_isCandidate 13 = .ok (.iload_n 1, 1) := by decide +kernel
theorem dX4_isCandidate_14 : decode cX4_isCandidate 14 = .ok (.invokevirtual 62, 3) := by decide +kernel
theorem dX4_isCandidate_17 : decode cX4_isCandidate 17 = .ok (.ifCond .ne 7, 3) := by decide +kernel
theorem dX4_isCandidate_20 : decode cX4_isCandidate 20 = .ok (.iconst 1, 1) := by decide +kernel
theorem dX4_isCandidate_21 : decode cX4_isCandidate 21 = .ok (.goto 4, 3) := by decide +kernel
theorem dX4_isCandidate_24 : decode cX4_isCandidate 24 = .ok (.iconst 0, 1) := by decide +kernel
theorem dX4_isCandidate_25 : decode cX4_isCandidate 25 = .ok (.ireturn, 1) := by decide +kernel
theorem dX4_nextStream_0 : decode cX4_nextStream 0 = .ok (.bipush (-9), 2) := by decide +kernel
theorem dX4_nextStream_2 : decode cX4_nextStream 2 = .ok (.istore_n 1, 1) := by decide +kernel
theorem dX4_nextStream_3 : decode cX4_nextStream 3 = .ok (.iconst 0, 1) := by decide +kernel
theorem dX4_nextStream_4 : decode cX4_nextStream 4 = .ok (.istore_n 2, 1) := by decide +kernel
theorem dX4_nextStream_5 : decode cX4_nextStream 5 = .ok (.iload_n 2, 1) := by decide +kernel
theorem dX4_nextStream_6 : decode cX4_nextStream 6 = .ok (.bipush 8, 2) := by decide +kernel
theorem dX4_nextStream_8 : decode cX4_nextStream 8 = .ok (.if_icmp .ge 85, 3) := by decide +kernel
theorem dX4_nextStream_11 : decode cX4_nextStream 11 = .ok (.aload_n 0, 1) := by decide +kernel
theorem dX4_nextStream_12 : decode cX4_nextStream 12 = .ok (.iload_n 2, 1) := by decide +kernel
theorem dX4_nextStream_13 : decode cX4_nextStream 13 = .ok (.invokevirtual 65, 3) := by decide +kernel
theorem dX4_nextStream_16 : decode cX4_nextStream 16 = .ok (.ifCond .eq 71, 3) := by decide +kernel
theorem dX4_nextStream_19 : decode cX4_nextStream 19 = .ok (.iload_n 1, 1) := by decide +kernel
theorem dX4_nextStream_20 : decode cX4_nextStream 20 = .ok (.bipush (-9), 2) := by decide +kernel
theorem dX4_nextStream_22 : decode cX4_nextStream 22 = .ok (.if_icmp .eq 49, 3) := by decide +kernel
theorem dX4_nextStream_25 : decode cX4_nextStream 25 = .ok (.aload_n 0, 1) := by decide +kernel
theorem dX4_nextStream_26 : decode cX4_nextStream 26 = .ok (.getfield 7, 3) := by decide +kernel
theorem dX4_nextStream_29 : decode cX4_nextStream 29 = .ok (.bipush 16, 2) := by decide +kernel
theorem dX4_nextStream_31 : decode cX4_nextStream 31 = .ok (.iload_n 2, 1) := by decide +kernel
theorem dX4_nextStream_32 : decode cX4_nextStream 32 = .ok (.iadd, 1) := by decide +kernel
theorem dX4_nextStream_33 : decode cX4_nextStream 33 = .ok (.iaload, 1) := by decide +kernel
theorem dX4_nextStream_34 : decode cX4_nextStream 34 = .ok (.i2l, 1) := by decide +kernel
theorem dX4_nextStream_35 : decode cX4_nextStream 35 = .ok (.aload_n 0, 1) := by decide +kernel
theorem dX4_nextStream_36 : decode cX4_nextStream 36 = .ok (.getfield 7, 3) := by decide +kernel
theorem dX4_nextStream_39 : decode cX4_nextStream 39 = .ok (.bipush 8, 2) := by decide +kernel
theorem dX4_nextStream_41 : decode cX4_nextStream 41 = .ok (.iload_n 1, 1) := by decide +kernel
theorem dX4_nextStream_42 : decode cX4_nextStream 42 = .ok (.iadd, 1) := by decide +kernel
theorem dX4_nextStream_43 : decode cX4_nextStream 43 = .ok (.iaload, 1) := by decide +kernel
theorem dX4_nextStream_44 : decode cX4_nextStream 44 = .ok (.i2l, 1) := by decide +kernel
theorem dX4_nextStream_45 : decode cX4_nextStream 45 = .ok (.lmul, 1) := by decide +kernel
theorem dX4_nextStream_46 : decode cX4_nextStream 46 = .ok (.aload_n 0, 1) := by decide +kernel
theorem dX4_nextStream_47 : decode cX4_nextStream 47 = .ok (.getfield 7, 3) := by decide +kernel
theorem dX4_nextStream_50 : decode cX4_nextStream 50 = .ok (.bipush 16, 2) := by decide +kernel
theorem dX4_nextStream_52 : decode cX4_nextStream 52 = .ok (.iload_n 1, 1) := by decide +kernel
theorem dX4_nextStream_53 : decode cX4_nextStream 53 = .ok (.iadd, 1) := by decide +kernel
theorem dX4_nextStream_54 : decode cX4_nextStream 54 = .ok (.iaload, 1) := by decide +kernel
theorem dX4_nextStream_55 : decode cX4_nextStream 55 = .ok (.i2l, 1) := by decide +kernel
theorem dX4_nextStream_56 : decode cX4_nextStream 56 = .ok (.aload_n 0, 1) := by decide +kernel
theorem dX4_nextStream_57 : decode cX4_nextStream 57 = .ok (.getfield 7, 3) := by decide +kernel
theorem dX4_nextStream_60 : decode cX4_nextStream 60 = .ok (.bipush 8, 2) := by decide +kernel
theorem dX4_nextStream_62 : decode cX4_nextStream 62 = .ok (.iload_n 2, 1) := by decide +kernel
theorem dX4_nextStream_63 : decode cX4_nextStream 63 = .ok (.iadd, 1) := by decide +kernel
theorem dX4_nextStream_64 : decode cX4_nextStream 64 = .ok (.iaload, 1) := by decide +kernel
theorem dX4_nextStream_65 : decode cX4_nextStream 65 = .ok (.i2l, 1) := by decide +kernel
theorem dX4_nextStream_66 : decode cX4_nextStream 66 = .ok (.lmul, 1) := by decide +kernel
theorem dX4_nextStream_67 : decode cX4_nextStream 67 = .ok (.lcmp, 1) := by decide +kernel
theorem dX4_nextStream_68 : decode cX4_nextStream 68 = .ok (.ifCond .ge 7, 3) := by decide +kernel
theorem dX4_nextStream_71 : decode cX4_nextStream 71 = .ok (.iconst 1, 1) := by decide +kernel
theorem dX4_nextStream_72 : decode cX4_nextStream 72 = .ok (.goto 4, 3) := by decide +kernel
theorem dX4_nextStream_75 : decode cX4_nextStream 75 = .ok (.iconst 0, 1) := by decide +kernel
theorem dX4_nextStream_76 : decode cX4_nextStream 76 = .ok (.istore_n 3, 1) := by decide +kernel
theorem dX4_nextStream_77 : decode cX4_nextStream 77 = .ok (.iload_n 3, 1) := by decide +kernel
theorem dX4_nextStream_78 : decode cX4_nextStream 78 = .ok (.ifCond .eq 7, 3) := by decide +kernel
theorem dX4_nextStream_81 : decode cX4_nextStream 81 = .ok (.iload_n 2, 1) := by decide +kernel
theorem dX4_nextStream_82 : decode cX4_nextStream 82 = .ok (.goto 4, 3) := by decide +kernel
theorem dX4_nextStream_85 : decode cX4_nextStream 85 = .ok (.iload_n 1, 1) := by decide +kernel
theorem dX4_nextStream_86 : decode cX4_nextStream 86 = .ok (.istore_n 1, 1) := by decide +kernel
theorem dX4_nextStream_87 : decode cX4_nextStream 87 = .ok (.iinc 2 1, 3) := by decide +kernel
theorem dX4_nextStream_90 : decode cX4_nextStream 90 = .ok (.goto (-85), 3) := by decide +kernel
theorem dX4_nextStream_93 : decode cX4_nextStream 93 = .ok (.iload_n 1, 1) := by decide +kernel
theorem dX4_nextStream_94 : decode cX4_nextStream 94 = .ok (.ireturn, 1) := by decide +kernel
theorem dX4_sendNext_0 : decode cX4_sendNext 0 = .ok (.aload_n 0, 1) := by decide +kernel
theorem dX4_sendNext_1 : decode cX4_sendNext 1 = .ok (.invokevirtual 69, 3) := by decide +kernel
theorem dX4_sendNext_4 : decode cX4_sendNext 4 = .ok (.istore_n 1, 1) := by decide +kernel
theorem dX4_sendNext_5 : decode cX4_sendNext 5 = .ok (.aload_n 0, 1) := by decide +kernel
theorem dX4_sendNext_6 : decode cX4_sendNext 6 = .ok (.iload_n 1, 1) := by decide +kernel
theorem dX4_sendNext_7 : decode cX4_sendNext 7 = .ok (.iconst 0, 1) := by decide +kernel
theorem dX4_sendNext_8 : decode cX4_sendNext 8 = .ok (.iconst 0, 1) := by decide +kernel
theorem dX4_sendNext_9 : decode cX4_sendNext 9 = .ok (.invokevirtual 51, 3) := by decide +kernel
theorem dX4_sendNext_12 : decode cX4_sendNext 12 = .ok (.istore_n 2, 1) := by decide +kernel
theorem dX4_sendNext_13 : decode cX4_sendNext 13 = .ok (.aload_n 0, 1) := by decide +kernel
theorem dX4_sendNext_14 : decode cX4_sendNext 14 = .ok (.getfield 7, 3) := by decide +kernel
theorem dX4_sendNext_17 : decode cX4_sendNext 17 = .ok (.sipush 267, 3) := by decide +kernel
theorem dX4_sendNext_20 : decode cX4_sendNext 20 = .ok (.iaload, 1) := by decide +kernel
theorem dX4_sendNext_21 : decode cX4_sendNext 21 = .ok (.bipush 40, 2) := by decide +kernel
theorem dX4_sendNext_23 : decode cX4_sendNext 23 = .ok (.if_icmp .ne 52, 3) := by decide +kernel
theorem dX4_sendNext_26 : decode cX4_sendNext 26 = .ok (.iconst 0, 1) := by decide +kernel
theorem dX4_sendNext_27 : decode cX4_sendNext 27 = .ok (.istore_n 3, 1) := by decide +kernel
theorem dX4_sendNext_28 : decode cX4_sendNext 28 = .ok (.iload_n 3, 1) := by decide +kernel
theorem dX4_sendNext_29 : decode cX4_sendNext 29 = .ok (.sipush 156, 3) := by decide +kernel
theorem dX4_sendNext_32 : decode cX4_sendNext 32 = .ok (.if_icmp .ge 31, 3) := by decide +kernel
theorem dX4_sendNext_35 : decode cX4_sendNext 35 = .ok (.aload_n 0, 1) := by decide +kernel
theorem dX4_sendNext_36 : decode cX4_sendNext 36 = .ok (.getfield 7, 3) := by decide +kernel
theorem dX4_sendNext_39 : decode cX4_sendNext 39 = .ok (.sipush 268, 3) := by decide +kernel
theorem dX4_sendNext_42 : decode cX4_sendNext 42 = .ok (.iload_n 3, 1) := by decide +kernel
theorem dX4_sendNext_43 : decode cX4_sendNext 43 = .ok (.iadd, 1) := by decide +kernel
theorem dX4_sendNext_44 : decode cX4_sendNext 44 = .ok (.aload_n 0, 1) := by decide +kernel
theorem dX4_sendNext_45 : decode cX4_sendNext 45 = .ok (.getfield 7, 3) := by decide +kernel
theorem dX4_sendNext_48 : decode cX4_sendNext 48 = .ok (.sipush 268, 3) := by decide +kernel
theorem dX4_sendNext_51 : decode cX4_sendNext 51 = .ok (.iload_n 3, 1) := by decide +kernel
theorem dX4_sendNext_52 : decode cX4_sendNext 52 = .ok (.iadd, 1) := by decide +kernel
theorem dX4_sendNext_53 : decode cX4_sendNext 53 = .ok (.iconst 4, 1) := by decide +kernel
theorem dX4_sendNext_54 : decode cX4_sendNext 54 = .ok (.iadd, 1) := by decide +kernel
theorem dX4_sendNext_55 : decode cX4_sendNext 55 = .ok (.iaload, 1) := by decide +kernel
theorem dX4_sendNext_56 : decode cX4_sendNext 56 = .ok (.iastore, 1) := by decide +kernel
theorem dX4_sendNext_57 : decode cX4_sendNext 57 = .ok (.iinc 3 1, 3) := by decide +kernel
theorem dX4_sendNext_60 : decode cX4_sendNext 60 = .ok (.goto (-32), 3) := by decide +kernel
theorem dX4_sendNext_63 : decode cX4_sendNext 63 = .ok (.aload_n 0, 1) := by decide +kernel
theorem dX4_sendNext_64 : decode cX4_sendNext 64 = .ok (.getfield 7, 3) := by decide +kernel
theorem dX4_sendNext_67 : decode cX4_sendNext 67 = .ok (.sipush 267, 3) := by decide +kernel
theorem dX4_sendNext_70 : decode cX4_sendNext 70 = .ok (.dup2, 1) := by decide +kernel
theorem dX4_sendNext_71 : decode cX4_sendNext 71 = .ok (.iaload, 1) := by decide +kernel
theorem dX4_sendNext_72 : decode cX4_sendNext 72 = .ok (.iconst 1, 1) := by decide +kernel
theorem dX4_sendNext_73 : decode cX4_sendNext 73 = .ok (.isub, 1) := by decide +kernel
theorem dX4_sendNext_74 : decode cX4_sendNext 74 = .ok (.iastore, 1) := by decide +kernel
theorem dX4_sendNext_75 : decode cX4_sendNext 75 = .ok (.sipush 268, 3) := by decide +kernel
theorem dX4_sendNext_78 : decode cX4_sendNext 78 = .ok (.iconst 4, 1) := by decide +kernel
theorem dX4_sendNext_79 : decode cX4_sendNext 79 = .ok (.aload_n 0, 1) := by decide +kernel
theorem dX4_sendNext_80 : decode cX4_sendNext 80 = .ok (.getfield 7, 3) := by decide +kernel
theorem dX4_sendNext_83 : decode cX4_sendNext 83 = .ok (.sipush 267, 3) := by decide +kernel
theorem dX4_sendNext_86 : decode cX4_sendNext 86 = .ok (.iaload, 1) := by decide +kernel
theorem dX4_sendNext_87 : decode cX4_sendNext 87 = .ok (.imul, 1) := by decide +kernel
theorem dX4_sendNext_88 : decode cX4_sendNext 88 = .ok (.iadd, 1) := by decide +kernel
theorem dX4_sendNext_89 : decode cX4_sendNext 89 = .ok (.istore_n 3, 1) := by decide +kernel
theorem dX4_sendNext_90 : decode cX4_sendNext 90 = .ok (.aload_n 0, 1) := by decide +kernel
theorem dX4_sendNext_91 : decode cX4_sendNext 91 = .ok (.getfield 7, 3) := by decide +kernel
theorem dX4_sendNext_94 : decode cX4_sendNext 94 = .ok (.iload_n 3, 1) := by decide +kernel
theorem dX4_sendNext_95 : decode cX4_sendNext 95 = .ok (.iload_n 2, 1) := by decide +kernel
theorem dX4_sendNext_96 : decode cX4_sendNext 96 = .ok (.iastore, 1) := by decide +kernel
theorem dX4_sendNext_97 : decode cX4_sendNext 97 = .ok (.aload_n 0, 1) := by decide +kernel
theorem dX4_sendNext_98 : decode cX4_sendNext 98 = .ok (.getfield 7, 3) := by decide +kernel
theorem dX4_sendNext_101 : decode cX4_sendNext 101 = .ok (.iload_n 3, 1) := by decide +kernel
theorem dX4_sendNext_102 : decode cX4_sendNext 102 = .ok (.iconst 1, 1) := by decide +kernel
theorem dX4_sendNext_103 : decode cX4_sendNext 103 = .ok (.iadd, 1) := by decide +kernel
theorem dX4_sendNext_104 : decode cX4_sendNext 104 = .ok (.iload_n 1, 1) := by decide +kernel
theorem dX4_sendNext_105 : decode cX4_sendNext 105 = .ok (.iastore, 1) := by decide +kernel
theorem dX4_sendNext_106 : decode cX4_sendNext 106 = .ok (.aload_n 0, 1) := by decide +kernel
theorem dX4_sendNext_107 : decode cX4_sendNext 107 = .ok (.getfield 7, 3) := by decide +kernel
theorem dX4_sendNext_110 : decode cX4_sendNext 110 = .ok (.iload_n 3, 1) := by decide +kernel
theorem dX4_sendNext_111 : decode cX4_sendNext 111 = .ok (.iconst 2, 1) := by decide +kernel
theorem dX4_sendNext_112 : decode cX4_sendNext 112 = .ok (.iadd, 1) := by decide +kernel
theorem dX4_sendNext_113 : decode cX4_sendNext 113 = .ok (.aload_n 0, 1) := by decide +kernel
theorem dX4_sendNext_114 : decode cX4_sendNext 114 = .ok (.iload_n 1, 1) := by decide +kernel
theorem dX4_sendNext_115 : decode cX4_sendNext 115 = .ok (.iconst 0, 1) := by decide +kernel
theorem dX4_sendNext_116 : decode cX4_sendNext 116 = .ok (.iconst 1, 1) := by decide +kernel
theorem dX4_sendNext_117 : decode cX4_sendNext 117 = .ok (.invokevirtual 51, 3) := by decide +kernel
theorem dX4_sendNext_120 : decode cX4_sendNext 120 = .ok (.iastore, 1) := by decide +kernel
theorem dX4_sendNext_121 : decode cX4_sendNext 121 = .ok (.aload_n 0, 1) := by decide +kernel
theorem dX4_sendNext_122 : decode cX4_sendNext 122 = .ok (.getfield 7, 3) := by decide +kernel
theorem dX4_sendNext_125 : decode cX4_sendNext 125 = .ok (.iload_n 3, 1) := by decide +kernel
theorem dX4_sendNext_126 : decode cX4_sendNext 126 = .ok (.iconst 3, 1) := by decide +kernel
theorem dX4_sendNext_127 : decode cX4_sendNext 127 = .ok (.iadd, 1) := by decide +kernel
theorem dX4_sendNext_128 : decode cX4_sendNext 128 = .ok (.aload_n 0, 1) := by decide +kernel
theorem dX4_sendNext_129 : decode cX4_sendNext 129 = .ok (.iload_n 1, 1) := by decide +kernel
theorem dX4_sendNext_130 : decode cX4_sendNext 130 = .ok (.iconst 0, 1) := by decide +kernel
theorem dX4_sendNext_131 : decode cX4_sendNext 131 = .ok (.iconst 2, 1) := by decide +kernel
theorem dX4_sendNext_132 : decode cX4_sendNext 132 = .ok (.invokevirtual 51, 3) := by decide +kernel
theorem dX4_sendNext_135 : decode cX4_sendNext 135 = .ok (.iastore, 1) := by decide +kernel
theorem dX4_sendNext_136 : decode cX4_sendNext 136 = .ok (.aload_n 0, 1) := by decide +kernel
theorem dX4_sendNext_137 : decode cX4_sendNext 137 = .ok (.getfield 7, 3) := by decide +kernel
theorem dX4_sendNext_140 : decode cX4_sendNext 140 = .ok (.sipush 267, 3) := by decide +kernel
theorem dX4_sendNext_143 : decode cX4_sendNext 143 = .ok (.dup2, 1) := by decide +kernel
theorem dX4_sendNext_144 : decode cX4_sendNext 144 = .ok (.iaload, 1) := by decide +kernel
theorem dX4_sendNext_145 : decode cX4_sendNext 145 = .ok (.iconst 1, 1) := by decide +kernel
theorem dX4_sendNext_146 : decode cX4_sendNext 146 = .ok (.iadd, 1) := by decide +kernel
theorem dX4_sendNext_147 : decode cX4_sendNext 147 = .ok (.iastore, 1) := by decide +kernel
theorem dX4_sendNext_148 : decode cX4_sendNext 148 = .ok (.aload_n 0, 1) := by decide +kernel
theorem dX4_sendNext_149 : decode cX4_sendNext 149 = .ok (.getfield 7, 3) := by decide +kernel
theorem dX4_sendNext_152 : decode cX4_sendNext 152 = .ok (.sipush 266, 3) := by decide +kernel
theorem dX4_sendNext_155 : decode cX4_sendNext 155 = .ok (.dup2, 1) := by decide +kernel
theorem dX4_sendNext_156 : decode cX4_sendNext 156 = .ok (.iaload, 1) := by decide +kernel
theorem dX4_sendNext_157 : decode cX4_sendNext 157 = .ok (.iconst 1, 1) := by decide +kernel
theorem dX4_sendNext_158 : decode cX4_sendNext 158 = .ok (.iadd, 1) := by decide +kernel
theorem dX4_sendNext_159 : decode cX4_sendNext 159 = .ok (.iastore, 1) := by decide +kernel
theorem dX4_sendNext_160 : decode cX4_sendNext 160 = .ok (.aload_n 0, 1) := by decide +kernel
theorem dX4_sendNext_161 : decode cX4_sendNext 161 = .ok (.getfield 7, 3) := by decide +kernel
theorem dX4_sendNext_164 : decode cX4_sendNext 164 = .ok (.bipush 16, 2) := by decide +kernel
theorem dX4_sendNext_166 : decode cX4_sendNext 166 = .ok (.iload_n 1, 1) := by decide +kernel
theorem dX4_sendNext_167 : decode cX4_sendNext 167 = .ok (.iadd, 1) := by decide +kernel
theorem dX4_sendNext_168 : decode cX4_sendNext 168 = .ok (.dup2, 1) := by decide +kernel
theorem dX4_sendNext_169 : decode cX4_sendNext 169 = .ok (.iaload, 1) := by decide +kernel
theorem dX4_sendNext_170 : decode cX4_sendNext 170 = .ok (.aload_n 0, 1) := by decide +kernel
theorem dX4_sendNext_171 : decode cX4_sendNext 171 = .ok (.iload_n 1, 1) := by decide +kernel
theorem dX4_sendNext_172 : decode cX4_sendNext 172 = .ok (.iconst 0, 1) := by decide +kernel
theorem dX4_sendNext_173 : decode cX4_sendNext 173 = .ok (.iconst 1, 1) := by decide +kernel
theorem dX4_sendNext_174 : decode cX4_sendNext 174 = .ok (.invokevirtual 51, 3) := by decide +kernel
theorem dX4_sendNext_177 : decode cX4_sendNext 177 = .ok (.iadd, 1) := by decide +kernel
theorem dX4_sendNext_178 : decode cX4_sendNext 178 = .ok (.iastore, 1) := by decide +kernel
theorem dX4_sendNext_179 : decode cX4_sendNext 179 = .ok (.aload_n 0, 1) := by decide +kernel
theorem dX4_sendNext_180 : decode cX4_sendNext 180 = .ok (.getfield 7, 3) := by decide +kernel
theorem dX4_sendNext_183 : decode cX4_sendNext 183 = .ok (.bipush 24, 2) := by decide +kernel
theorem dX4_sendNext_185 : decode cX4_sendNext 185 = .ok (.iload_n 1, 1) := by decide +kernel
theorem dX4_sendNext_186 : decode cX4_sendNext 186 = .ok (.iadd, 1) := by decide +kernel
theorem dX4_sendNext_187 : decode cX4_sendNext 187 = .ok (.dup2, 1) := by decide +kernel
theorem dX4_sendNext_188 : decode cX4_sendNext 188 = .ok (.iaload, 1) := by decide +kernel
theorem dX4_sendNext_189 : decode cX4_sendNext 189 = .ok (.iconst 1, 1) := by decide +kernel
theorem dX4_sendNext_190 : decode cX4_sendNext 190 = .ok (.isub, 1) := by decide +kernel
theorem dX4_sendNext_191 : decode cX4_sendNext 191 = .ok (.iastore, 1) := by decide +kernel
theorem dX4_sendNext_192 : decode cX4_sendNext 192 = .ok (.iconst 0, 1) := by decide +kernel
theorem dX4_sendNext_193 : decode cX4_sendNext 193 = .ok (.istore 4, 2) := by decide +kernel
theorem dX4_sendNext_195 : decode cX4_sendNext 195 = .ok (.iload 4, 2) := by decide +kernel
theorem dX4_sendNext_197 : decode cX4_sendNext 197 = .ok (.iconst 3, 1) := by decide +kernel
theorem dX4_sendNext_198 : decode cX4_sendNext 198 = .ok (.aload_n 0, 1) := by decide +kernel
theorem dX4_sendNext_199 : decode cX4_sendNext 199 = .ok (.getfield 7, 3) := by decide +kernel
theorem dX4_sendNext_202 : decode cX4_sendNext 202 = .ok (.bipush 24, 2) := by decide +kernel
theorem dX4_sendNext_204 : decode cX4_sendNext 204 = .ok (.iload_n 1, 1) := by decide +kernel
theorem dX4_sendNext_205 : decode cX4_sendNext 205 = .ok (.iadd, 1) := by decide +kernel
theorem dX4_sendNext_206 : decode cX4_sendNext 206 = .ok (.iaload, 1) := by decide +kernel
theorem dX4_sendNext_207 : decode cX4_sendNext 207 = .ok (.imul, 1) := by decide +kernel
theorem dX4_sendNext_208 : decode cX4_sendNext 208 = .ok (.if_icmp .ge 41, 3) := by decide +kernel
theorem dX4_sendNext_211 : decode cX4_sendNext 211 = .ok (.aload_n 0, 1) := by decide +kernel
theorem dX4_sendNext_212 : decode cX4_sendNext 212 = .ok (.getfield 7, 3) := by decide +kernel
theorem dX4_sendNext_215 : decode cX4_sendNext 215 = .ok (.bipush 32, 2) := by decide +kernel
theorem dX4_sendNext_217 : decode cX4_sendNext 217 = .ok (.bipush 18, 2) := by decide +kernel
theorem dX4_sendNext_219 : decode cX4_sendNext 219 = .ok (.iload_n 1, 1) := by decide +kernel
theorem dX4_sendNext_220 : decode cX4_sendNext 220 = .ok (.imul, 1) := by decide +kernel
theorem dX4_sendNext_221 : decode cX4_sendNext 221 = .ok (.iadd, 1) := by decide +kernel
theorem dX4_sendNext_222 : decode cX4_sendNext 222 = .ok (.iload 4, 2) := by decide +kernel
theorem dX4_sendNext_224 : decode cX4_sendNext 224 = .ok (.iadd, 1) := by decide +kernel
theorem dX4_sendNext_225 : decode cX4_sendNext 225 = .ok (.aload_n 0, 1) := by decide +kernel
theorem dX4_sendNext_226 : decode cX4_sendNext 226 = .ok (.getfield 7, 3) := by decide +kernel
theorem dX4_sendNext_229 : decode cX4_sendNext 229 = .ok (.bipush 32, 2) := by decide +kernel
theorem dX4_sendNext_231 : decode cX4_sendNext 231 = .ok (.bipush 18, 2) := by decide +kernel
theorem dX4_sendNext_233 : decode cX4_sendNext 233 = .ok (.iload_n 1, 1) := by decide +kernel
theorem dX4_sendNext_234 : decode cX4_sendNext 234 = .ok (.imul, 1) := by decide +kernel
theorem dX4_sendNext_235 : decode cX4_sendNext 235 = .ok (.iadd, 1) := by decide +kernel
theorem dX4_sendNext_236 : decode cX4_sendNext 236 = .ok (.iload 4, 2) := by decide +kernel
theorem dX4_sendNext_238 : decode cX4_sendNext 238 = .ok (.iadd, 1) := by decide +kernel
theorem dX4_sendNext_239 : decode cX4_sendNext 239 = .ok (.iconst 3, 1) := by decide +kernel
theorem dX4_sendNext_240 : decode cX4_sendNext 240 = .ok (.iadd, 1) := by decide +kernel
theorem dX4_sendNext_241 : decode cX4_sendNext 241 = .ok (.iaload, 1) := by decide +kernel
theorem dX4_sendNext_242 : decode cX4_sendNext 242 = .ok (.iastore, 1) := by decide +kernel
theorem dX4_sendNext_243 : decode cX4_sendNext 243 = .ok (.iinc 4 1, 3) := by decide +kernel
theorem dX4_sendNext_246 : decode cX4_sendNext 246 = .ok (.goto (-51), 3) := by decide +kernel
theorem dX4_sendNext_249 : decode cX4_sendNext 249 = .ok (.iload_n 2, 1) := by decide +kernel
theorem dX4_sendNext_250 : decode cX4_sendNext 250 = .ok (.ireturn, 1) := by decide +kernel
theorem dX4_waiting_0 : decode cX4_waiting 0 = .ok (.iconst 0, 1) := by decide +kernel
theorem dX4_waiting_1 : decode cX4_waiting 1 = .ok (.istore_n 1, 1) := by decide +kernel
theorem dX4_waiting_2 : decode cX4_waiting 2 = .ok (.iconst 0, 1) := by decide +kernel
theorem dX4_waiting_3 : decode cX4_waiting 3 = .ok (.istore_n 2, 1) := by decide +kernel
theorem dX4_waiting_4 : decode cX4_waiting 4 = .ok (.iload_n 2, 1) := by decide +kernel
theorem dX4_waiting_5 : decode cX4_waiting 5 = .ok (.bipush 8, 2) := by decide +kernel
theorem dX4_waiting_7 : decode cX4_waiting 7 = .ok (.if_icmp .ge 21, 3) := by decide +kernel
theorem dX4_waiting_10 : decode cX4_waiting 10 = .ok (.iload_n 1, 1) := by decide +kernel
theorem dX4_waiting_11 : decode cX4_waiting 11 = .ok (.aload_n 0, 1) := by decide +kernel
theorem dX4_waiting_12 : decode cX4_waiting 12 = .ok (.getfield 7, 3) := by decide +kernel
theorem dX4_waiting_15 : decode cX4_waiting 15 = .ok (.bipush 24, 2) := by decide +kernel
theorem dX4_waiting_17 : decode cX4_waiting 17 = .ok (.iload_n 2, 1) := by decide +kernel
theorem dX4_waiting_18 : decode cX4_waiting 18 = .ok (.iadd, 1) := by decide +kernel
theorem dX4_waiting_19 : decode cX4_waiting 19 = .ok (.iaload, 1) := by decide +kernel
theorem dX4_waiting_20 : decode cX4_waiting 20 = .ok (.iadd, 1) := by decide +kernel
theorem dX4_waiting_21 : decode cX4_waiting 21 = .ok (.istore_n 1, 1) := by decide +kernel
theorem dX4_waiting_22 : decode cX4_waiting 22 = .ok (.iinc 2 1, 3) := by decide +kernel
theorem dX4_waiting_25 : decode cX4_waiting 25 = .ok (.goto (-21), 3) := by decide +kernel
theorem dX4_waiting_28 : decode cX4_waiting 28 = .ok (.iload_n 1, 1) := by decide +kernel
theorem dX4_waiting_29 : decode cX4_waiting 29 = .ok (.ireturn, 1) := by decide +kernel
theorem dX4_before_0 : decode cX4_before 0 = .ok (.iconst 0, 1) := by decide +kernel
theorem dX4_before_1 : decode cX4_before 1 = .ok (.istore_n 2, 1) := by decide +kernel
theorem dX4_before_2 : decode cX4_before 2 = .ok (.iload_n 2, 1) := by decide +kernel
theorem dX4_before_3 : decode cX4_before 3 = .ok (.sipush 428, 3) := by decide +kernel
theorem dX4_before_6 : decode cX4_before 6 = .ok (.if_icmp .ge 21, 3) := by decide +kernel
theorem dX4_before_9 : decode cX4_before 9 = .ok (.aload_n 0, 1) := by decide +kernel
theorem dX4_before_10 : decode cX4_before 10 = .ok (.getfield 22, 3) := by decide +kernel
theorem dX4_before_13 : decode cX4_before 13 = .ok (.iload_n 2, 1) := by decide +kernel
theorem dX4_before_14 : decode cX4_before 14 = .ok (.aload_n 0, 1) := by decide +kernel
theorem dX4_before_15 : decode cX4_before 15 = .ok (.getfield 7, 3) := by decide +kernel
theorem dX4_before_18 : decode cX4_before 18 = .ok (.iload_n 2, 1) := by decide +kernel
theorem dX4_before_19 : decode cX4_before 19 = .ok (.iaload, 1) := by decide +kernel
theorem dX4_before_20 : decode cX4_before 20 = .ok (.iastore, 1) := by decide +kernel
theorem dX4_before_21 : decode cX4_before 21 = .ok (.iinc 2 1, 3) := by decide +kernel
theorem dX4_before_24 : decode cX4_before 24 = .ok (.goto (-22), 3) := by decide +kernel
theorem dX4_before_27 : decode cX4_before 27 = .ok (.iconst 0, 1) := by decide +kernel
theorem dX4_before_28 : decode cX4_before 28 = .ok (.istore_n 2, 1) := by decide +kernel
theorem dX4_before_29 : decode cX4_before 29 = .ok (.aload_n 0, 1) := by decide +kernel
theorem dX4_before_30 : decode cX4_before 30 = .ok (.invokevirtual 73, 3) := by decide +kernel
theorem dX4_before_33 : decode cX4_before 33 = .ok (.iload_n 1, 1) := by decide +kernel
theorem dX4_before_34 : decode cX4_before 34 = .ok (.if_icmp .eq 9, 3) := by decide +kernel
theorem dX4_before_37 : decode cX4_before 37 = .ok (.iinc 2 1, 3) := by decide +kernel
theorem dX4_before_40 : decode cX4_before 40 = .ok (.goto (-11), 3) := by decide +kernel
theorem dX4_before_43 : decode cX4_before 43 = .ok (.iconst 0, 1) := by decide +kernel
theorem dX4_before_44 : decode cX4_before 44 = .ok (.istore_n 3, 1) := by decide +kernel
theorem dX4_before_45 : decode cX4_before 45 = .ok (.iload_n 3, 1) := by decide +kernel
theorem dX4_before_46 : decode cX4_before 46 = .ok (.sipush 428, 3) := by decide +kernel
theorem dX4_before_49 : decode cX4_before 49 = .ok (.if_icmp .ge 21, 3) := by decide +kernel
theorem dX4_before_52 : decode cX4_before 52 = .ok (.aload_n 0, 1) := by decide +kernel
theorem dX4_before_53 : decode cX4_before 53 = .ok (.getfield 7, 3) := by decide +kernel
theorem dX4_before_56 : decode cX4_before 56 = .ok (.iload_n 3, 1) := by decide +kernel
theorem dX4_before_57 : decode cX4_before 57 = .ok (.aload_n 0, 1) := by decide +kernel
theorem dX4_before_58 : decode cX4_before 58 = .ok (.getfield 22, 3) := by decide +kernel
theorem dX4_before_61 : decode cX4_before 61 = .ok (.iload_n 3, 1) := by decide +kernel
theorem dX4_before_62 : decode cX4_before 62 = .ok (.iaload, 1) := by decide +kernel
theorem dX4_before_63 : decode cX4_before 63 = .ok (.iastore, 1) := by decide +kernel
theorem dX4_before_64 : decode cX4_before 64 = .ok (.iinc 3 1, 3) := by decide +kernel
theorem dX4_before_67 : decode cX4_before 67 = .ok (.goto (-22), 3) := by decide +kernel
theorem dX4_before_70 : decode cX4_before 70 = .ok (.iload_n 2, 1) := by decide +kernel
theorem dX4_before_71 : decode cX4_before 71 = .ok (.ireturn, 1) := by decide +kernel
theorem dX4_opened_0 : decode cX4_opened 0 = .ok (.iconst 0, 1) := by decide +kernel
theorem dX4_opened_1 : decode cX4_opened 1 = .ok (.istore_n 1, 1) := by decide +kernel
theorem dX4_opened_2 : decode cX4_opened 2 = .ok (.iconst 0, 1) := by decide +kernel
theorem dX4_opened_3 : decode cX4_opened 3 = .ok (.istore_n 2, 1) := by decide +kernel
theorem dX4_opened_4 : decode cX4_opened 4 = .ok (.iload_n 2, 1) := by decide +kernel
theorem dX4_opened_5 : decode cX4_opened 5 = .ok (.bipush 8, 2) := by decide +kernel
theorem dX4_opened_7 : decode cX4_opened 7 = .ok (.if_icmp .ge 20, 3) := by decide +kernel
theorem dX4_opened_10 : decode cX4_opened 10 = .ok (.iload_n 1, 1) := by decide +kernel
theorem dX4_opened_11 : decode cX4_opened 11 = .ok (.aload_n 0, 1) := by decide +kernel
theorem dX4_opened_12 : decode cX4_opened 12 = .ok (.getfield 7, 3) := by decide +kernel
theorem dX4_opened_15 : decode cX4_opened 15 = .ok (.iconst 0, 1) := by decide +kernel
theorem dX4_opened_16 : decode cX4_opened 16 = .ok (.iload_n 2, 1) := by decide +kernel
theorem dX4_opened_17 : decode cX4_opened 17 = .ok (.iadd, 1) := by decide +kernel
theorem dX4_opened_18 : decode cX4_opened 18 = .ok (.iaload, 1) := by decide +kernel
theorem dX4_opened_19 : decode cX4_opened 19 = .ok (.iadd, 1) := by decide +kernel
theorem dX4_opened_20 : decode cX4_opened 20 = .ok (.istore_n 1, 1) := by decide +kernel
theorem dX4_opened_21 : decode cX4_opened 21 = .ok (.iinc 2 1, 3) := by decide +kernel
theorem dX4_opened_24 : decode cX4_opened 24 = .ok (.goto (-20), 3) := by decide +kernel
theorem dX4_opened_27 : decode cX4_opened 27 = .ok (.iload_n 1, 1) := by decide +kernel
theorem dX4_opened_28 : decode cX4_opened 28 = .ok (.ireturn, 1) := by decide +kernel
theorem dX4_open_0 : decode cX4_open 0 = .ok (.iload_n 1, 1) := by decide +kernel
theorem dX4_open_1 : decode cX4_open 1 = .ok (.invokestatic 76, 3) := by decide +kernel
theorem dX4_open_4 : decode cX4_open 4 = .ok (.ifCond .eq 13, 3) := by decide +kernel
theorem dX4_open_7 : decode cX4_open 7 = .ok (.iload_n 2, 1) := by decide +kernel
theorem dX4_open_8 : decode cX4_open 8 = .ok (.iconst 1, 1) := by decide +kernel
theorem dX4_open_9 : decode cX4_open 9 = .ok (.bipush 9, 2) := by decide +kernel
theorem dX4_open_11 : decode cX4_open 11 = .ok (.invokestatic 35, 3) := by decide +kernel
theorem dX4_open_14 : decode cX4_open 14 = .ok (.ifCond .ne 5, 3) := by decide +kernel
theorem dX4_open_17 : decode cX4_open 17 = .ok (.iconst (-1), 1) := by decide +kernel
theorem dX4_open_18 : decode cX4_open 18 = .ok (.ireturn, 1) := by decide +kernel
theorem dX4_open_19 : decode cX4_open 19 = .ok (.aload_n 0, 1) := by decide +kernel
theorem dX4_open_20 : decode cX4_open 20 = .ok (.iload_n 1, 1) := by decide +kernel
theorem dX4_open_21 : decode cX4_open 21 = .ok (.invokevirtual 79, 3) := by decide +kernel
theorem dX4_open_24 : decode cX4_open 24 = .ok (.ifCond .eq 6, 3) := by decide +kernel
theorem dX4_open_27 : decode cX4_open 27 = .ok (.bipush (-2), 2) := by decide +kernel
theorem dX4_open_29 : decode cX4_open 29 = .ok (.ireturn, 1) := by decide +kernel
theorem dX4_open_30 : decode cX4_open 30 = .ok (.aload_n 0, 1) := by decide +kernel
theorem dX4_open_31 : decode cX4_open 31 = .ok (.invokevirtual 82, 3) := by decide +kernel
theorem dX4_open_34 : decode cX4_open 34 = .ok (.aload_n 0, 1) := by decide +kernel
theorem dX4_open_35 : decode cX4_open 35 = .ok (.getfield 7, 3) := by decide +kernel
theorem dX4_open_38 : decode cX4_open 38 = .ok (.iconst 0, 1) := by decide +kernel
theorem dX4_open_39 : decode cX4_open 39 = .ok (.iload_n 1, 1) := by decide +kernel
theorem dX4_open_40 : decode cX4_open 40 = .ok (.iadd, 1) := by decide +kernel
theorem dX4_open_41 : decode cX4_open 41 = .ok (.iconst 1, 1) := by decide +kernel
theorem dX4_open_42 : decode cX4_open 42 = .ok (.iastore, 1) := by decide +kernel
theorem dX4_open_43 : decode cX4_open 43 = .ok (.aload_n 0, 1) := by decide +kernel
theorem dX4_open_44 : decode cX4_open 44 = .ok (.getfield 7, 3) := by decide +kernel
theorem dX4_open_47 : decode cX4_open 47 = .ok (.bipush 8, 2) := by decide +kernel
theorem dX4_open_49 : decode cX4_open 49 = .ok (.iload_n 1, 1) := by decide +kernel
theorem dX4_open_50 : decode cX4_open 50 = .ok (.iadd, 1) := by decide +kernel
theorem dX4_open_51 : decode cX4_open 51 = .ok (.iload_n 2, 1) := by decide +kernel
theorem dX4_open_52 : decode cX4_open 52 = .ok (.iastore, 1) := by decide +kernel
theorem dX4_open_53 : decode cX4_open 53 = .ok (.aload_n 0, 1) := by decide +kernel
theorem dX4_open_54 : decode cX4_open 54 = .ok (.getfield 7, 3) := by decide +kernel
theorem dX4_open_57 : decode cX4_open 57 = .ok (.bipush 16, 2) := by decide +kernel
theorem dX4_open_59 : decode cX4_open 59 = .ok (.iload_n 1, 1) := by decide +kernel
theorem dX4_open_60 : decode cX4_open 60 = .ok (.iadd, 1) := by decide +kernel
theorem dX4_open_61 : decode cX4_open 61 = .ok (.iconst 0, 1) := by decide +kernel
theorem dX4_open_62 : decode cX4_open 62 = .ok (.iastore, 1) := by decide +kernel
theorem dX4_open_63 : decode cX4_open 63 = .ok (.aload_n 0, 1) := by decide +kernel
theorem dX4_open_64 : decode cX4_open 64 = .ok (.invokevirtual 85, 3) := by decide +kernel
theorem dX4_open_67 : decode cX4_open 67 = .ok (.ireturn, 1) := by decide +kernel
theorem dX4_close_0 : decode cX4_close 0 = .ok (.iload_n 1, 1) := by decide +kernel
theorem dX4_close_1 : decode cX4_close 1 = .ok (.invokestatic 76, 3) := by decide +kernel
theorem dX4_close_4 : decode cX4_close 4 = .ok (.ifCond .ne 5, 3) := by decide +kernel
theorem dX4_close_7 : decode cX4_close 7 = .ok (.iconst (-1), 1) := by decide +kernel
theorem dX4_close_8 : decode cX4_close 8 = .ok (.ireturn, 1) := by decide +kernel
theorem dX4_close_9 : decode cX4_close 9 = .ok (.aload_n 0, 1) := by decide +kernel
theorem dX4_close_10 : decode cX4_close 10 = .ok (.iload_n 1, 1) := by decide +kernel
theorem dX4_close_11 : decode cX4_close 11 = .ok (.invokevirtual 79, 3) := by decide +kernel
theorem dX4_close_14 : decode cX4_close 14 = .ok (.ifCond .eq 15, 3) := by decide +kernel
theorem dX4_close_17 : decode cX4_close 17 = .ok (.aload_n 0, 1) := by decide +kernel
theorem dX4_close_18 : decode cX4_close 18 = .ok (.getfield 7, 3) := by decide +kernel
theorem dX4_close_21 : decode cX4_close 21 = .ok (.bipush 24, 2) := by decide +kernel
theorem dX4_close_23 : decode cX4_close 23 = .ok (.iload_n 1, 1) := by decide +kernel
theorem dX4_close_24 : decode cX4_close 24 = .ok (.iadd, 1) := by decide +kernel
theorem dX4_close_25 : decode cX4_close 25 = .ok (.iaload, 1) := by decide +kernel
theorem dX4_close_26 : decode cX4_close 26 = .ok (.ifCond .le 6, 3) := by decide +kernel
theorem dX4_close_29 : decode cX4_close 29 = .ok (.bipush (-2), 2) := by decide +kernel
theorem dX4_close_31 : decode cX4_close 31 = .ok (.ireturn, 1) := by decide +kernel
theorem dX4_close_32 : decode cX4_close 32 = .ok (.aload_n 0, 1) := by decide +kernel
theorem dX4_close_33 : decode cX4_close 33 = .ok (.invokevirtual 82, 3) := by decide +kernel
theorem dX4_close_36 : decode cX4_close 36 = .ok (.aload_n 0, 1) := by decide +kernel
theorem dX4_close_37 : decode cX4_close 37 = .ok (.getfield 7, 3) := by decide +kernel
theorem dX4_close_40 : decode cX4_close 40 = .ok (.bipush 16, 2) := by decide +kernel
theorem dX4_close_42 : decode cX4_close 42 = .ok (.iload_n 1, 1) := by decide +kernel
theorem dX4_close_43 : decode cX4_close 43 = .ok (.iadd, 1) := by decide +kernel
theorem dX4_close_44 : decode cX4_close 44 = .ok (.iaload, 1) := by decide +kernel
theorem dX4_close_45 : decode cX4_close 45 = .ok (.istore_n 2, 1) := by decide +kernel
theorem dX4_close_46 : decode cX4_close 46 = .ok (.aload_n 0, 1) := by decide +kernel
theorem dX4_close_47 : decode cX4_close 47 = .ok (.getfield 7, 3) := by decide +kernel
theorem dX4_close_50 : decode cX4_close 50 = .ok (.iconst 0, 1) := by decide +kernel
theorem dX4_close_51 : decode cX4_close 51 = .ok (.iload_n 1, 1) := by decide +kernel
theorem dX4_close_52 : decode cX4_close 52 = .ok (.iadd, 1) := by decide +kernel
theorem dX4_close_53 : decode cX4_close 53 = .ok (.iconst 0, 1) := by decide +kernel
theorem dX4_close_54 : decode cX4_close 54 = .ok (.iastore, 1) := by decide +kernel
theorem dX4_close_55 : decode cX4_close 55 = .ok (.aload_n 0, 1) := by decide +kernel
theorem dX4_close_56 : decode cX4_close 56 = .ok (.getfield 7, 3) := by decide +kernel
theorem dX4_close_59 : decode cX4_close 59 = .ok (.bipush 8, 2) := by decide +kernel
theorem dX4_close_61 : decode cX4_close 61 = .ok (.iload_n 1, 1) := by decide +kernel
theorem dX4_close_62 : decode cX4_close 62 = .ok (.iadd, 1) := by decide +kernel
theorem dX4_close_63 : decode cX4_close 63 = .ok (.iconst 0, 1) := by decide +kernel
theorem dX4_close_64 : decode cX4_close 64 = .ok (.iastore, 1) := by decide +kernel
theorem dX4_close_65 : decode cX4_close 65 = .ok (.aload_n 0, 1) := by decide +kernel
theorem dX4_close_66 : decode cX4_close 66 = .ok (.getfield 7, 3) := by decide +kernel
theorem dX4_close_69 : decode cX4_close 69 = .ok (.bipush 16, 2) := by decide +kernel
theorem dX4_close_71 : decode cX4_close 71 = .ok (.iload_n 1, 1) := by decide +kernel
theorem dX4_close_72 : decode cX4_close 72 = .ok (.iadd, 1) := by decide +kernel
theorem dX4_close_73 : decode cX4_close 73 = .ok (.iconst 0, 1) := by decide +kernel
theorem dX4_close_74 : decode cX4_close 74 = .ok (.iastore, 1) := by decide +kernel
theorem dX4_close_75 : decode cX4_close 75 = .ok (.iload_n 2, 1) := by decide +kernel
theorem dX4_close_76 : decode cX4_close 76 = .ok (.ireturn, 1) := by decide +kernel
theorem dX4_setWeight_0 : decode cX4_setWeight 0 = .ok (.iload_n 1, 1) := by decide +kernel
theorem dX4_setWeight_1 : decode cX4_setWeight 1 = .ok (.invokestatic 76, 3) := by decide +kernel
theorem dX4_setWeight_4 : decode cX4_setWeight 4 = .ok (.ifCond .eq 13, 3) := by decide +kernel
theorem dX4_setWeight_7 : decode cX4_setWeight 7 = .ok (.iload_n 2, 1) := by decide +kernel
theorem dX4_setWeight_8 : decode cX4_setWeight 8 = .ok (.iconst 1, 1) := by decide +kernel
theorem dX4_setWeight_9 : decode cX4_setWeight 9 = .ok (.bipush 9, 2) := by decide +kernel
theorem dX4_setWeight_11 : decode cX4_setWeight 11 = .ok (.invokestatic 35, 3) := by decide +kernel
theorem dX4_setWeight_14 : decode cX4_setWeight 14 = .ok (.ifCond .ne 5, 3) := by decide +kernel
theorem dX4_setWeight_17 : decode cX4_setWeight 17 = .ok (.iconst (-1), 1) := by decide +kernel
theorem dX4_setWeight_18 : decode cX4_setWeight 18 = .ok (.ireturn, 1) := by decide +kernel
theorem dX4_setWeight_19 : decode cX4_setWeight 19 = .ok (.aload_n 0, 1) := by decide +kernel
theorem dX4_setWeight_20 : decode cX4_setWeight 20 = .ok (.iload_n 1, 1) := by decide +kernel
theorem dX4_setWeight_21 : decode cX4_setWeight 21 = .ok (.invokevirtual 79, 3) := by decide +kernel
theorem dX4_setWeight_24 : decode cX4_setWeight 24 = .ok (.ifCond .ne 6, 3) := by decide +kernel
theorem dX4_setWeight_27 : decode cX4_setWeight 27 = .ok (.bipush (-2), 2) := by decide +kernel
theorem dX4_setWeight_29 : decode cX4_setWeight 29 = .ok (.ireturn, 1) := by decide +kernel
theorem dX4_setWeight_30 : decode cX4_setWeight 30 = .ok (.aload_n 0, 1) := by decide +kernel
theorem dX4_setWeight_31 : decode cX4_setWeight 31 = .ok (.invokevirtual 82, 3) := by decide +kernel
theorem dX4_setWeight_34 : decode cX4_setWeight 34 = .ok (.aload_n 0, 1) := by decide +kernel
theorem dX4_setWeight_35 : decode cX4_setWeight 35 = .ok (.getfield 7, 3) := by decide +kernel
theorem dX4_setWeight_38 : decode cX4_setWeight 38 = .ok (.bipush 8, 2) := by decide +kernel
theorem dX4_setWeight_40 : decode cX4_setWeight 40 = .ok (.iload_n 1, 1) := by decide +kernel
theorem dX4_setWeight_41 : decode cX4_setWeight 41 = .ok (.iadd, 1) := by decide +kernel
theorem dX4_setWeight_42 : decode cX4_setWeight 42 = .ok (.iaload, 1) := by decide +kernel
theorem dX4_setWeight_43 : decode cX4_setWeight 43 = .ok (.istore_n 3, 1) := by decide +kernel
theorem dX4_setWeight_44 : decode cX4_setWeight 44 = .ok (.aload_n 0, 1) := by decide +kernel
theorem dX4_setWeight_45 : decode cX4_setWeight 45 = .ok (.getfield 7, 3) := by decide +kernel
theorem dX4_setWeight_48 : decode cX4_setWeight 48 = .ok (.bipush 8, 2) := by decide +kernel
theorem dX4_setWeight_50 : decode cX4_setWeight 50 = .ok (.iload_n 1, 1) := by decide +kernel
theorem dX4_setWeight_51 : decode cX4_setWeight 51 = .ok (.iadd, 1) := by decide +kernel
theorem dX4_setWeight_52 : decode cX4_setWeight 52 = .ok (.iload_n 2, 1) := by decide +kernel
theorem dX4_setWeight_53 : decode cX4_setWeight 53 = .ok (.iastore, 1) := by decide +kernel
theorem dX4_setWeight_54 : decode cX4_setWeight 54 = .ok (.iload_n 3, 1) := by decide +kernel
theorem dX4_setWeight_55 : decode cX4_setWeight 55 = .ok (.ireturn, 1) := by decide +kernel
theorem dX4_push_0 : decode cX4_push 0 = .ok (.iload_n 1, 1) := by decide +kernel
theorem dX4_push_1 : decode cX4_push 1 = .ok (.invokestatic 76, 3) := by decide +kernel
theorem dX4_push_4 : decode cX4_push 4 = .ok (.ifCond .eq 13, 3) := by decide +kernel
theorem dX4_push_7 : decode cX4_push 7 = .ok (.iload_n 2, 1) := by decide +kernel
theorem dX4_push_8 : decode cX4_push 8 = .ok (.iconst 1, 1) := by decide +kernel
theorem dX4_push_9 : decode cX4_push 9 = .ok (.bipush 99, 2) := by decide +kernel
theorem dX4_push_11 : decode cX4_push 11 = .ok (.invokestatic 35, 3) := by decide +kernel
theorem dX4_push_14 : decode cX4_push 14 = .ok (.ifCond .ne 5, 3) := by decide +kernel
theorem dX4_push_17 : decode cX4_push 17 = .ok (.iconst (-1), 1) := by decide +kernel
theorem dX4_push_18 : decode cX4_push 18 = .ok (.ireturn, 1) := by decide +kernel
theorem dX4_push_19 : decode cX4_push 19 = .ok (.aload_n 0, 1) := by decide +kernel
theorem dX4_push_20 : decode cX4_push 20 = .ok (.iload_n 1, 1) := by decide +kernel
theorem dX4_push_21 : decode cX4_push 21 = .ok (.invokevirtual 79, 3) := by decide +kernel
theorem dX4_push_24 : decode cX4_push 24 = .ok (.ifCond .ne 6, 3) := by decide +kernel
theorem dX4_push_27 : decode cX4_push 27 = .ok (.bipush (-2), 2) := by decide +kernel
theorem dX4_push_29 : decode cX4_push 29 = .ok (.ireturn, 1) := by decide +kernel
theorem dX4_push_30 : decode cX4_push 30 = .ok (.aload_n 0, 1) := by decide +kernel
theorem dX4_push_31 : decode cX4_push 31 = .ok (.getfield 7, 3) := by decide +kernel
theorem dX4_push_34 : decode cX4_push 34 = .ok (.bipush 24, 2) := by decide +kernel
theorem dX4_push_36 : decode cX4_push 36 = .ok (.iload_n 1, 1) := by decide +kernel
theorem dX4_push_37 : decode cX4_push 37 = .ok (.iadd, 1) := by decide +kernel
theorem dX4_push_38 : decode cX4_push 38 = .ok (.iaload, 1) := by decide +kernel
theorem dX4_push_39 : decode cX4_push 39 = .ok (.bipush 6, 2) := by decide +kernel
theorem dX4_push_41 : decode cX4_push 41 = .ok (.if_icmp .ne 6, 3) := by decide +kernel
theorem dX4_push_44 : decode cX4_push 44 = .ok (.bipush (-3), 2) := by decide +kernel
theorem dX4_push_46 : decode cX4_push 46 = .ok (.ireturn, 1) := by decide +kernel
theorem dX4_push_47 : decode cX4_push 47 = .ok (.aload_n 0, 1) := by decide +kernel
theorem dX4_push_48 : decode cX4_push 48 = .ok (.invokevirtual 82, 3) := by decide +kernel
theorem dX4_push_51 : decode cX4_push 51 = .ok (.bipush 32, 2) := by decide +kernel
theorem dX4_push_53 : decode cX4_push 53 = .ok (.bipush 18, 2) := by decide +kernel
theorem dX4_push_55 : decode cX4_push 55 = .ok (.iload_n 1, 1) := by decide +kernel
theorem dX4_push_56 : decode cX4_push 56 = .ok (.imul, 1) := by decide +kernel
theorem dX4_push_57 : decode cX4_push 57 = .ok (.iadd, 1) := by decide +kernel
theorem dX4_push_58 : decode cX4_push 58 = .ok (.iconst 3, 1) := by decide +kernel
theorem dX4_push_59 : decode cX4_push 59 = .ok (.aload_n 0, 1) := by decide +kernel
theorem dX4_push_60 : decode cX4_push 60 = .ok (.getfield 7, 3) := by decide +kernel
theorem dX4_push_63 : decode cX4_push 63 = .ok (.bipush 24, 2) := by decide +kernel
theorem dX4_push_65 : decode cX4_push 65 = .ok (.iload_n 1, 1) := by decide +kernel
theorem dX4_push_66 : decode cX4_push 66 = .ok (.iadd, 1) := by decide +kernel
theorem dX4_push_67 : decode cX4_push 67 = .ok (.iaload, 1) := by decide +kernel
theorem dX4_push_68 : decode cX4_push 68 = .ok (.imul, 1) := by decide +kernel
theorem dX4_push_69 : decode cX4_push 69 = .ok (.iadd, 1) := by decide +kernel
theorem dX4_push_70 : decode cX4_push 70 = .ok (.istore_n 3, 1) := by decide +kernel
theorem dX4_push_71 : decode cX4_push 71 = .ok (.aload_n 0, 1) := by decide +kernel
theorem dX4_push_72 : decode cX4_push 72 = .ok (.getfield 7, 3) := by decide +kernel
theorem dX4_push_75 : decode cX4_push 75 = .ok (.iload_n 3, 1) := by decide +kernel
theorem dX4_push_76 : decode cX4_push 76 = .ok (.aload_n 0, 1) := by decide +kernel
theorem dX4_push_77 : decode cX4_push 77 = .ok (.getfield 7, 3) := by decide +kernel
theorem dX4_push_80 : decode cX4_push 80 = .ok (.sipush 265, 3) := by decide +kernel
theorem dX4_push_83 : decode cX4_push 83 = .ok (.iaload, 1) := by decide +kernel
theorem dX4_push_84 : decode cX4_push 84 = .ok (.iastore, 1) := by decide +kernel
theorem dX4_push_85 : decode cX4_push 85 = .ok (.aload_n 0, 1) := by decide +kernel
theorem dX4_push_86 : decode cX4_push 86 = .ok (.getfield 7, 3) := by decide +kernel
theorem dX4_push_89 : decode cX4_push 89 = .ok (.iload_n 3, 1) := by decide +kernel
theorem dX4_push_90 : decode cX4_push 90 = .ok (.iconst 1, 1) := by decide +kernel
theorem dX4_push_91 : decode cX4_push 91 = .ok (.iadd, 1) := by decide +kernel
theorem dX4_push_92 : decode cX4_push 92 = .ok (.iload_n 2, 1) := by decide +kernel
theorem dX4_push_93 : decode cX4_push 93 = .ok (.iastore, 1) := by decide +kernel
theorem dX4_push_94 : decode cX4_push 94 = .ok (.aload_n 0, 1) := by decide +kernel
theorem dX4_push_95 : decode cX4_push 95 = .ok (.getfield 7, 3) := by decide +kernel
theorem dX4_push_98 : decode cX4_push 98 = .ok (.iload_n 3, 1) := by decide +kernel
theorem dX4_push_99 : decode cX4_push 99 = .ok (.iconst 2, 1) := by decide +kernel
theorem dX4_push_100 : decode cX4_push 100 = .ok (.iadd, 1) := by decide +kernel
theorem dX4_push_101 : decode cX4_push 101 = .ok (.aload_n 0, 1) := by decide +kernel
theorem dX4_push_102 : decode cX4_push 102 = .ok (.getfield 7, 3) := by decide +kernel
theorem dX4_push_105 : decode cX4_push 105 = .ok (.sipush 184, 3) := by decide +kernel
theorem dX4_push_108 : decode cX4_push 108 = .ok (.iaload, 1) := by decide +kernel
theorem dX4_push_109 : decode cX4_push 109 = .ok (.iastore, 1) := by decide +kernel
theorem dX4_push_110 : decode cX4_push 110 = .ok (.aload_n 0, 1) := by decide +kernel
theorem dX4_push_111 : decode cX4_push 111 = .ok (.getfield 7, 3) := by decide +kernel
theorem dX4_push_114 : decode cX4_push 114 = .ok (.bipush 24, 2) := by decide +kernel
theorem dX4_push_116 : decode cX4_push 116 = .ok (.iload_n 1, 1) := by decide +kernel
theorem dX4_push_117 : decode cX4_push 117 = .ok (.iadd, 1) := by decide +kernel
theorem dX4_push_118 : decode cX4_push 118 = .ok (.dup2, 1) := by decide +kernel
theorem dX4_push_119 : decode cX4_push 119 = .ok (.iaload, 1) := by decide +kernel
theorem dX4_push_120 : decode cX4_push 120 = .ok (.iconst 1, 1) := by decide +kernel
theorem dX4_push_121 : decode cX4_push 121 = .ok (.iadd, 1) := by decide +kernel
theorem dX4_push_122 : decode cX4_push 122 = .ok (.iastore, 1) := by decide +kernel
theorem dX4_push_123 : decode cX4_push 123 = .ok (.aload_n 0, 1) := by decide +kernel
theorem dX4_push_124 : decode cX4_push 124 = .ok (.getfield 7, 3) := by decide +kernel
theorem dX4_push_127 : decode cX4_push 127 = .ok (.sipush 265, 3) := by decide +kernel
theorem dX4_push_130 : decode cX4_push 130 = .ok (.dup2, 1) := by decide +kernel
theorem dX4_push_131 : decode cX4_push 131 = .ok (.iaload, 1) := by decide +kernel
theorem dX4_push_132 : decode cX4_push 132 = .ok (.iconst 1, 1) := by decide +kernel
theorem dX4_push_133 : decode cX4_push 133 = .ok (.iadd, 1) := by decide +kernel
theorem dX4_push_134 : decode cX4_push 134 = .ok (.iastore, 1) := by decide +kernel
theorem dX4_push_135 : decode cX4_push 135 = .ok (.aload_n 0, 1) := by decide +kernel
theorem dX4_push_136 : decode cX4_push 136 = .ok (.getfield 7, 3) := by decide +kernel
theorem dX4_push_139 : decode cX4_push 139 = .ok (.sipush 265, 3) := by decide +kernel
theorem dX4_push_142 : decode cX4_push 142 = .ok (.iaload, 1) := by decide +kernel
theorem dX4_push_143 : decode cX4_push 143 = .ok (.iconst 1, 1) := by decide +kernel
theorem dX4_push_144 : decode cX4_push 144 = .ok (.isub, 1) := by decide +kernel
theorem dX4_push_145 : decode cX4_push 145 = .ok (.ireturn, 1) := by decide +kernel
theorem dX4_edge_0 : decode cX4_edge 0 = .ok (.iload_n 1, 1) := by decide +kernel
theorem dX4_edge_1 : decode cX4_edge 1 = .ok (.invokestatic 76, 3) := by decide +kernel
theorem dX4_edge_4 : decode cX4_edge 4 = .ok (.ifCond .eq 24, 3) := by decide +kernel
theorem dX4_edge_7 : decode cX4_edge 7 = .ok (.iload_n 2, 1) := by decide +kernel
theorem dX4_edge_8 : decode cX4_edge 8 = .ok (.invokestatic 76, 3) := by decide +kernel
theorem dX4_edge_11 : decode cX4_edge 11 = .ok (.ifCond .eq 17, 3) := by decide +kernel
theorem dX4_edge_14 : decode cX4_edge 14 = .ok (.iload_n 1, 1) := by decide +kernel
theorem dX4_edge_15 : decode cX4_edge 15 = .ok (.iload_n 2, 1) := by decide +kernel
theorem dX4_edge_16 : decode cX4_edge 16 = .ok (.if_icmp .eq 12, 3) := by decide +kernel
theorem dX4_edge_19 : decode cX4_edge 19 = .ok (.iload_n 3, 1) := by decide +kernel
theorem dX4_edge_20 : decode cX4_edge 20 = .ok (.iconst 0, 1) := by decide +kernel
theorem dX4_edge_21 : decode cX4_edge 21 = .ok (.iconst 1, 1) := by decide +kernel
theorem dX4_edge_22 : decode cX4_edge 22 = .ok (.invokestatic 35, 3) := by decide +kernel
theorem dX4_edge_25 : decode cX4_edge 25 = .ok (.ifCond .ne 5, 3) := by decide +kernel
theorem dX4_edge_28 : decode cX4_edge 28 = .ok (.iconst (-1), 1) := by decide +kernel
theorem dX4_edge_29 : decode cX4_edge 29 = .ok (.ireturn, 1) := by decide +kernel
theorem dX4_edge_30 : decode cX4_edge 30 = .ok (.aload_n 0, 1) := by decide +kernel
theorem dX4_edge_31 : decode cX4_edge 31 = .ok (.sipush 176, 3) := by decide +kernel
theorem dX4_edge_34 : decode cX4_edge 34 = .ok (.invokevirtual 58, 3) := by decide +kernel
theorem dX4_edge_37 : decode cX4_edge 37 = .ok (.iload_n 3, 1) := by decide +kernel
theorem dX4_edge_38 : decode cX4_edge 38 = .ok (.iconst 1, 1) := by decide +kernel
theorem dX4_edge_39 : decode cX4_edge 39 = .ok (.if_icmp .ne 19, 3) := by decide +kernel
theorem dX4_edge_42 : decode cX4_edge 42 = .ok (.aload_n 0, 1) := by decide +kernel
theorem dX4_edge_43 : decode cX4_edge 43 = .ok (.getfield 19, 3) := by decide +kernel
theorem dX4_edge_46 : decode cX4_edge 46 = .ok (.iload_n 2, 1) := by decide +kernel
theorem dX4_edge_47 : decode cX4_edge 47 = .ok (.iaload, 1) := by decide +kernel
theorem dX4_edge_48 : decode cX4_edge 48 = .ok (.iload_n 1, 1) := by decide +kernel
theorem dX4_edge_49 : decode cX4_edge 49 = .ok (.invokestatic 43, 3) := by decide +kernel
theorem dX4_edge_52 : decode cX4_edge 52 = .ok (.ifCond .eq 6, 3) := by decide +kernel
theorem dX4_edge_55 : decode cX4_edge 55 = .ok (.bipush (-4), 2) := by decide +kernel
theorem dX4_edge_57 : decode cX4_edge 57 = .ok (.ireturn, 1) := by decide +kernel
theorem dX4_edge_58 : decode cX4_edge 58 = .ok (.aload_n 0, 1) := by decide +kernel
theorem dX4_edge_59 : decode cX4_edge 59 = .ok (.invokevirtual 82, 3) := by decide +kernel
theorem dX4_edge_62 : decode cX4_edge 62 = .ok (.aload_n 0, 1) := by decide +kernel
theorem dX4_edge_63 : decode cX4_edge 63 = .ok (.getfield 7, 3) := by decide +kernel
theorem dX4_edge_66 : decode cX4_edge 66 = .ok (.sipush 176, 3) := by decide +kernel
theorem dX4_edge_69 : decode cX4_edge 69 = .ok (.iload_n 1, 1) := by decide +kernel
theorem dX4_edge_70 : decode cX4_edge 70 = .ok (.iadd, 1) := by decide +kernel
theorem dX4_edge_71 : decode cX4_edge 71 = .ok (.iaload, 1) := by decide +kernel
theorem dX4_edge_72 : decode cX4_edge 72 = .ok (.iload_n 2, 1) := by decide +kernel
theorem dX4_edge_73 : decode cX4_edge 73 = .ok (.invokestatic 43, 3) := by decide +kernel
theorem dX4_edge_76 : decode cX4_edge 76 = .ok (.ifCond .eq 7, 3) := by decide +kernel
theorem dX4_edge_79 : decode cX4_edge 79 = .ok (.iconst 1, 1) := by decide +kernel
theorem dX4_edge_80 : decode cX4_edge 80 = .ok (.goto 4, 3) := by decide +kernel
theorem dX4_edge_83 : decode cX4_edge 83 = .ok (.iconst 0, 1) := by decide +kernel
theorem dX4_edge_84 : decode cX4_edge 84 = .ok (.istore 4, 2) := by decide +kernel
theorem dX4_edge_86 : decode cX4_edge 86 = .ok (.aload_n 0, 1) := by decide +kernel
theorem dX4_edge_87 : decode cX4_edge 87 = .ok (.getfield 7, 3) := by decide +kernel
theorem dX4_edge_90 : decode cX4_edge 90 = .ok (.sipush 176, 3) := by decide +kernel
theorem dX4_edge_93 : decode cX4_edge 93 = .ok (.iload_n 1, 1) := by decide +kernel
theorem dX4_edge_94 : decode cX4_edge 94 = .ok (.iadd, 1) := by decide +kernel
theorem dX4_edge_95 : decode cX4_edge 95 = .ok (.iload_n 3, 1) := by decide +kernel
theorem dX4_edge_96 : decode cX4_edge 96 = .ok (.iconst 1, 1) := by decide +kernel
theorem dX4_edge_97 : decode cX4_edge 97 = .ok (.if_icmp .ne 20, 3) := by decide +kernel
theorem dX4_edge_100 : decode cX4_edge 100 = .ok (.aload_n 0, 1) := by decide +kernel
theorem dX4_edge_101 : decode cX4_edge 101 = .ok (.getfield 7, 3) := by decide +kernel
theorem dX4_edge_104 : decode cX4_edge 104 = .ok (.sipush 176, 3) := by decide +kernel
theorem dX4_edge_107 : decode cX4_edge 107 = .ok (.iload_n 1, 1) := by decide +kernel
theorem dX4_edge_108 : decode cX4_edge 108 = .ok (.iadd, 1) := by decide +kernel
theorem dX4_edge_109 : decode cX4_edge 109 = .ok (.iaload, 1) := by decide +kernel
theorem dX4_edge_110 : decode cX4_edge 110 = .ok (.iconst 1, 1) := by decide +kernel
theorem dX4_edge_111 : decode cX4_edge 111 = .ok (.iload_n 2, 1) := by decide +kernel
theorem dX4_edge_112 : decode cX4_edge 112 = .ok (.ishl, 1) := by decide +kernel
theorem dX4_edge_113 : decode cX4_edge 113 = .ok (.ior, 1) := by decide +kernel
theorem dX4_edge_114 : decode cX4_edge 114 = .ok (.goto 19, 3) := by decide +kernel
theorem dX4_edge_117 : decode cX4_edge 117 = .ok (.aload_n 0, 1) := by decide +kernel
theorem dX4_edge_118 : decode cX4_edge 118 = .ok (.getfield 7, 3) := by decide +kernel
theorem dX4_edge_121 : decode cX4_edge 121 = .ok (.sipush 176, 3) := by decide +kernel
theorem dX4_edge_124 : decode cX4_edge 124 = .ok (.iload_n 1, 1) := by decide +kernel
theorem dX4_edge_125 : decode cX4_edge 125 = .ok (.iadd, 1) := by decide +kernel
theorem dX4_edge_126 : decode cX4_edge 126 = .ok (.iaload, 1) := by decide +kernel
theorem dX4_edge_127 : decode cX4_edge 127 = .ok (.iconst 1, 1) := by decide +kernel
theorem dX4_edge_128 : decode cX4_edge 128 = .ok (.iload_n 2, 1) := by decide +kernel
theorem dX4_edge_129 : decode cX4_edge 129 = .ok (.ishl, 1) := by decide +kernel
theorem dX4_edge_130 : decode cX4_edge 130 = .ok (.iconst (-1), 1) := by decide +kernel
theorem dX4_edge_131 : decode cX4_edge 131 = .ok (.ixor, 1) := by decide +kernel
theorem dX4_edge_132 : decode cX4_edge 132 = .ok (.iand, 1) := by decide +kernel
theorem dX4_edge_133 : decode cX4_edge 133 = .ok (.iastore, 1) := by decide +kernel
theorem dX4_edge_134 : decode cX4_edge 134 = .ok (.iload 4, 2) := by decide +kernel
theorem dX4_edge_136 : decode cX4_edge 136 = .ok (.ireturn, 1) := by decide +kernel
theorem dX4_commit_0 : decode cX4_commit 0 = .ok (.aload_n 0, 1) := by decide +kernel
theorem dX4_commit_1 : decode cX4_commit 1 = .ok (.getfield 7, 3) := by decide +kernel
theorem dX4_commit_4 : decode cX4_commit 4 = .ok (.sipush 184, 3) := by decide +kernel
theorem dX4_commit_7 : decode cX4_commit 7 = .ok (.iaload, 1) := by decide +kernel
theorem dX4_commit_8 : decode cX4_commit 8 = .ok (.bipush 9, 2) := by decide +kernel
theorem dX4_commit_10 : decode cX4_commit 10 = .ok (.if_icmp .ne 6, 3) := by decide +kernel
theorem dX4_commit_13 : decode cX4_commit 13 = .ok (.bipush (-3), 2) := by decide +kernel
theorem dX4_commit_15 : decode cX4_commit 15 = .ok (.ireturn, 1) := by decide +kernel
theorem dX4_commit_16 : decode cX4_commit 16 = .ok (.aload_n 0, 1) := by decide +kernel
theorem dX4_commit_17 : decode cX4_commit 17 = .ok (.invokevirtual 82, 3) := by decide +kernel
theorem dX4_commit_20 : decode cX4_commit 20 = .ok (.aload_n 0, 1) := by decide +kernel
theorem dX4_commit_21 : decode cX4_commit 21 = .ok (.getfield 7, 3) := by decide +kernel
theorem dX4_commit_24 : decode cX4_commit 24 = .ok (.sipush 184, 3) := by decide +kernel
theorem dX4_commit_27 : decode cX4_commit 27 = .ok (.dup2, 1) := by decide +kernel
theorem dX4_commit_28 : decode cX4_commit 28 = .ok (.iaload, 1) := by decide +kernel
theorem dX4_commit_29 : decode cX4_commit 29 = .ok (.iconst 1, 1) := by decide +kernel
theorem dX4_commit_30 : decode cX4_commit 30 = .ok (.iadd, 1) := by decide +kernel
theorem dX4_commit_31 : decode cX4_commit 31 = .ok (.iastore, 1) := by decide +kernel
theorem dX4_commit_32 : decode cX4_commit 32 = .ok (.iconst 0, 1) := by decide +kernel
theorem dX4_commit_33 : decode cX4_commit 33 = .ok (.istore_n 1, 1) := by decide +kernel
theorem dX4_commit_34 : decode cX4_commit 34 = .ok (.iload_n 1, 1) := by decide +kernel
theorem dX4_commit_35 : decode cX4_commit 35 = .ok (.bipush 8, 2) := by decide +kernel
theorem dX4_commit_37 : decode cX4_commit 37 = .ok (.if_icmp .ge 37, 3) := by decide +kernel
theorem dX4_commit_40 : decode cX4_commit 40 = .ok (.aload_n 0, 1) := by decide +kernel
theorem dX4_commit_41 : decode cX4_commit 41 = .ok (.getfield 7, 3) := by decide +kernel
theorem dX4_commit_44 : decode cX4_commit 44 = .ok (.aload_n 0, 1) := by decide +kernel
theorem dX4_commit_45 : decode cX4_commit 45 = .ok (.getfield 7, 3) := by decide +kernel
theorem dX4_commit_48 : decode cX4_commit 48 = .ok (.sipush 184, 3) := by decide +kernel
theorem dX4_commit_51 : decode cX4_commit 51 = .ok (.iaload, 1) := by decide +kernel
theorem dX4_commit_52 : decode cX4_commit 52 = .ok (.invokestatic 55, 3) := by decide +kernel
theorem dX4_commit_55 : decode cX4_commit 55 = .ok (.iload_n 1, 1) := by decide +kernel
theorem dX4_commit_56 : decode cX4_commit 56 = .ok (.iadd, 1) := by decide +kernel
theorem dX4_commit_57 : decode cX4_commit 57 = .ok (.aload_n 0, 1) := by decide +kernel
theorem dX4_commit_58 : decode cX4_commit 58 = .ok (.getfield 7, 3) := by decide +kernel
theorem dX4_commit_61 : decode cX4_commit 61 = .ok (.sipush 176, 3) := by decide +kernel
theorem dX4_commit_64 : decode cX4_commit 64 = .ok (.iload_n 1, 1) := by decide +kernel
theorem dX4_commit_65 : decode cX4_commit 65 = .ok (.iadd, 1) := by decide +kernel
theorem dX4_commit_66 : decode cX4_commit 66 = .ok (.iaload, 1) := by decide +kernel
theorem dX4_commit_67 : decode cX4_commit 67 = .ok (.iastore, 1) := by decide +kernel
theorem dX4_commit_68 : decode cX4_commit 68 = .ok (.iinc 1 1, 3) := by decide +kernel
theorem dX4_commit_71 : decode cX4_commit 71 = .ok (.goto (-37), 3) := by decide +kernel
theorem dX4_commit_74 : decode cX4_commit 74 = .ok (.aload_n 0, 1) := by decide +kernel
theorem dX4_commit_75 : decode cX4_commit 75 = .ok (.getfield 7, 3) := by decide +kernel
theorem dX4_commit_78 : decode cX4_commit 78 = .ok (.sipush 184, 3) := by decide +kernel
theorem dX4_commit_81 : decode cX4_commit 81 = .ok (.iaload, 1) := by decide +kernel
theorem dX4_commit_82 : decode cX4_commit 82 = .ok (.ireturn, 1) := by decide +kernel
theorem dX4_revert_0 : decode cX4_revert 0 = .ok (.iload_n 1, 1) := by decide +kernel
theorem dX4_revert_1 : decode cX4_revert 1 = .ok (.iconst 0, 1) := by decide +kernel
theorem dX4_revert_2 : decode cX4_revert 2 = .ok (.aload_n 0, 1) := by decide +kernel
theorem dX4_revert_3 : decode cX4_revert 3 = .ok (.getfield 7, 3) := by decide +kernel
theorem dX4_revert_6 : decode cX4_revert 6 = .ok (.sipush 184, 3) := by decide +kernel
theorem dX4_revert_9 : decode cX4_revert 9 = .ok (.iaload, 1) := by decide +kernel
theorem dX4_revert_10 : decode cX4_revert 10 = .ok (.invokestatic 35, 3) := by decide +kernel
theorem dX4_revert_13 : decode cX4_revert 13 = .ok (.ifCond .ne 5, 3) := by decide +kernel
theorem dX4_revert_16 : decode cX4_revert 16 = .ok (.iconst (-1), 1) := by decide +kernel
theorem dX4_revert_17 : decode cX4_revert 17 = .ok (.ireturn, 1) := by decide +kernel
theorem dX4_revert_18 : decode cX4_revert 18 = .ok (.aload_n 0, 1) := by decide +kernel
theorem dX4_revert_19 : decode cX4_revert 19 = .ok (.invokevirtual 82, 3) := by decide +kernel
theorem dX4_revert_22 : decode cX4_revert 22 = .ok (.iconst 0, 1) := by decide +kernel
theorem dX4_revert_23 : decode cX4_revert 23 = .ok (.istore_n 2, 1) := by decide +kernel
theorem dX4_revert_24 : decode cX4_revert 24 = .ok (.iload_n 2, 1) := by decide +kernel
theorem dX4_revert_25 : decode cX4_revert 25 = .ok (.bipush 8, 2) := by decide +kernel
theorem dX4_revert_27 : decode cX4_revert 27 = .ok (.if_icmp .ge 30, 3) := by decide +kernel
theorem dX4_revert_30 : decode cX4_revert 30 = .ok (.aload_n 0, 1) := by decide +kernel
theorem dX4_revert_31 : decode cX4_revert 31 = .ok (.getfield 7, 3) := by decide +kernel
theorem dX4_revert_34 : decode cX4_revert 34 = .ok (.sipush 176, 3) := by decide +kernel
theorem dX4_revert_37 : decode cX4_revert 37 = .ok (.iload_n 2, 1) := by decide +kernel
theorem dX4_revert_38 : decode cX4_revert 38 = .ok (.iadd, 1) := by decide +kernel
theorem dX4_revert_39 : decode cX4_revert 39 = .ok (.aload_n 0, 1) := by decide +kernel
theorem dX4_revert_40 : decode cX4_revert 40 = .ok (.getfield 7, 3) := by decide +kernel
theorem dX4_revert_43 : decode cX4_revert 43 = .ok (.iload_n 1, 1) := by decide +kernel
theorem dX4_revert_44 : decode cX4_revert 44 = .ok (.invokestatic 55, 3) := by decide +kernel
theorem dX4_revert_47 : decode cX4_revert 47 = .ok (.iload_n 2, 1) := by decide +kernel
theorem dX4_revert_48 : decode cX4_revert 48 = .ok (.iadd, 1) := by decide +kernel
theorem dX4_revert_49 : decode cX4_revert 49 = .ok (.iaload, 1) := by decide +kernel
theorem dX4_revert_50 : decode cX4_revert 50 = .ok (.iastore, 1) := by decide +kernel
theorem dX4_revert_51 : decode cX4_revert 51 = .ok (.iinc 2 1, 3) := by decide +kernel
theorem dX4_revert_54 : decode cX4_revert 54 = .ok (.goto (-30), 3) := by decide +kernel
theorem dX4_revert_57 : decode cX4_revert 57 = .ok (.aload_n 0, 1) := by decide +kernel
theorem dX4_revert_58 : decode cX4_revert 58 = .ok (.sipush 176, 3) := by decide +kernel
theorem dX4_revert_61 : decode cX4_revert 61 = .ok (.invokevirtual 88, 3) := by decide +kernel
theorem dX4_revert_64 : decode cX4_revert 64 = .ok (.ireturn, 1) := by decide +kernel
theorem dX4_layLeft_0 : decode cX4_layLeft 0 = .ok (.iconst 0, 1) := by decide +kernel
theorem dX4_layLeft_1 : decode cX4_layLeft 1 = .ok (.istore_n 2, 1) := by decide +kernel
theorem dX4_layLeft_2 : decode cX4_layLeft 2 = .ok (.iload_n 2, 1) := by decide +kernel
theorem dX4_layLeft_3 : decode cX4_layLeft 3 = .ok (.bipush 8, 2) := by decide +kernel
theorem dX4_layLeft_5 : decode cX4_layLeft 5 = .ok (.if_icmp .ge 26, 3) := by decide +kernel
theorem dX4_layLeft_8 : decode cX4_layLeft 8 = .ok (.aload_n 0, 1) := by decide +kernel
theorem dX4_layLeft_9 : decode cX4_layLeft 9 = .ok (.getfield 25, 3) := by decide +kernel
theorem dX4_layLeft_12 : decode cX4_layLeft 12 = .ok (.iload_n 2, 1) := by decide +kernel
theorem dX4_layLeft_13 : decode cX4_layLeft 13 = .ok (.iload_n 2, 1) := by decide +kernel
theorem dX4_layLeft_14 : decode cX4_layLeft 14 = .ok (.iload_n 1, 1) := by decide +kernel
theorem dX4_layLeft_15 : decode cX4_layLeft 15 = .ok (.if_icmp .ne 7, 3) := by decide +kernel
theorem dX4_layLeft_18 : decode cX4_layLeft 18 = .ok (.iconst 0, 1) := by decide +kernel
theorem dX4_layLeft_19 : decode cX4_layLeft 19 = .ok (.goto 5, 3) := by decide +kernel
theorem dX4_layLeft_22 : decode cX4_layLeft 22 = .ok (.bipush (-9), 2) := by decide +kernel
theorem dX4_layLeft_24 : decode cX4_layLeft 24 = .ok (.iastore, 1) := by decide +kernel
theorem dX4_layLeft_25 : decode cX4_layLeft 25 = .ok (.iinc 2 1, 3) := by decide +kernel
theorem dX4_layLeft_28 : decode cX4_layLeft 28 = .ok (.goto (-26), 3) := by decide +kernel
theorem dX4_layLeft_31 : decode cX4_layLeft 31 = .ok (.iconst 0, 1) := by decide +kernel
theorem dX4_layLeft_32 : decode cX4_layLeft 32 = .ok (.istore_n 2, 1) := by decide +kernel
theorem dX4_layLeft_33 : decode cX4_layLeft 33 = .ok (.iload_n 2, 1) := by decide +kernel
theorem dX4_layLeft_34 : decode cX4_layLeft 34 = .ok (.bipush 8, 2) := by decide +kernel
theorem dX4_layLeft_36 : decode cX4_layLeft 36 = .ok (.if_icmp .ge 93, 3) := by decide +kernel
theorem dX4_layLeft_39 : decode cX4_layLeft 39 = .ok (.iconst 0, 1) := by decide +kernel
theorem dX4_layLeft_40 : decode cX4_layLeft 40 = .ok (.istore_n 3, 1) := by decide +kernel
theorem dX4_layLeft_41 : decode cX4_layLeft 41 = .ok (.iload_n 3, 1) := by decide +kernel
theorem dX4_layLeft_42 : decode cX4_layLeft 42 = .ok (.bipush 8, 2) := by decide +kernel
theorem dX4_layLeft_44 : decode cX4_layLeft 44 = .ok (.if_icmp .ge 79, 3) := by decide +kernel
theorem dX4_layLeft_47 : decode cX4_layLeft 47 = .ok (.iconst 0, 1) := by decide +kernel
theorem dX4_layLeft_48 : decode cX4_layLeft 48 = .ok (.istore 4, 2) := by decide +kernel
theorem dX4_layLeft_50 : decode cX4_layLeft 50 = .ok (.iload 4, 2) := by decide +kernel
theorem dX4_layLeft_52 : decode cX4_layLeft 52 = .ok (.bipush 8, 2) := by decide +kernel
theorem dX4_layLeft_54 : decode cX4_layLeft 54 = .ok (.if_icmp .ge 63, 3) := by decide +kernel
theorem dX4_layLeft_57 : decode cX4_layLeft 57 = .ok (.aload_n 0, 1) := by decide +kernel
theorem dX4_layLeft_58 : decode cX4_layLeft 58 = .ok (.getfield 25, 3) := by decide +kernel
theorem dX4_layLeft_61 : decode cX4_layLeft 61 = .ok (.iload_n 3, 1) := by decide +kernel
theorem dX4_layLeft_62 : decode cX4_layLeft 62 = .ok (.iaload, 1) := by decide +kernel
theorem dX4_layLeft_63 : decode cX4_layLeft 63 = .ok (.bipush (-9), 2) := by decide +kernel
theorem dX4_layLeft_65 : decode cX4_layLeft 65 = .ok (.if_icmp .ne 52, 3) := by decide +kernel
theorem dX4_layLeft_68 : decode cX4_layLeft 68 = .ok (.aload_n 0, 1) := by decide +kernel
theorem dX4_layLeft_69 : decode cX4_layLeft 69 = .ok (.getfield 25, 3) := by decide +kernel
theorem dX4_layLeft_72 : decode cX4_layLeft 72 = .ok (.iload_n 3, 1) := by decide +kernel
theorem dX4_layLeft_73 : decode cX4_layLeft 73 = .ok (.aload_n 0, 1) := by decide +kernel
theorem dX4_layLeft_74 : decode cX4_layLeft 74 = .ok (.getfield 7, 3) := by decide +kernel
theorem dX4_layLeft_77 : decode cX4_layLeft 77 = .ok (.sipush 176, 3) := by decide +kernel
theorem dX4_layLeft_80 : decode cX4_layLeft 80 = .ok (.iload_n 3, 1) := by decide +kernel
theorem dX4_layLeft_81 : decode cX4_layLeft 81 = .ok (.iadd, 1) := by decide +kernel
theorem dX4_layLeft_82 : decode cX4_layLeft 82 = .ok (.iaload, 1) := by decide +kernel
theorem dX4_layLeft_83 : decode cX4_layLeft 83 = .ok (.iload 4, 2) := by decide +kernel
theorem dX4_layLeft_85 : decode cX4_layLeft 85 = .ok (.invokestatic 43, 3) := by decide +kernel
theorem dX4_layLeft_88 : decode cX4_layLeft 88 = .ok (.ifCond .eq 20, 3) := by decide +kernel
theorem dX4_layLeft_91 : decode cX4_layLeft 91 = .ok (.aload_n 0, 1) := by decide +kernel
theorem dX4_layLeft_92 : decode cX4_layLeft 92 = .ok (.getfield 25, 3) := by decide +kernel
theorem dX4_layLeft_95 : decode cX4_layLeft 95 = .ok (.iload 4, 2) := by decide +kernel
theorem dX4_layLeft_97 : decode cX4_layLeft 97 = .ok (.iaload, 1) := by decide +kernel
theorem dX4_layLeft_98 : decode cX4_layLeft 98 = .ok (.iload_n 2, 1) := by decide +kernel
theorem dX4_layLeft_99 : decode cX4_layLeft 99 = .ok (.if_icmp .ne 9, 3) := by decide +kernel
theorem dX4_layLeft_102 : decode cX4_layLeft 102 = .ok (.iload_n 2, 1) := by decide +kernel
theorem dX4_layLeft_103 : decode cX4_layLeft 103 = .ok (.iconst 1, 1) := by decide +kernel
theorem dX4_layLeft_104 : decode cX4_layLeft 104 = .ok (.iadd, 1) := by decide +kernel
theorem dX4_layLeft_105 : decode cX4_layLeft 105 = .ok (.goto 5, 3) := by decide +kernel
theorem dX4_layLeft_108 : decode cX4_layLeft 108 = .ok (.bipush (-9), 2) := by decide +kernel
theorem dX4_layLeft_110 : decode cX4_layLeft 110 = .ok (.iastore, 1) := by decide +kernel
theorem dX4_layLeft_111 : decode cX4_layLeft 111 = .ok (.iinc 4 1, 3) := by decide +kernel
theorem dX4_layLeft_114 : decode cX4_layLeft 114 = .ok (.goto (-64), 3) := by decide +kernel
theorem dX4_layLeft_117 : decode cX4_layLeft 117 = .ok (.iinc 3 1, 3) := by decide +kernel
theorem dX4_layLeft_120 : decode cX4_layLeft 120 = .ok (.goto (-79), 3) := by decide +kernel
theorem dX4_layLeft_123 : decode cX4_layLeft 123 = .ok (.iinc 2 1, 3) := by decide +kernel
theorem dX4_layLeft_126 : decode cX4_layLeft 126 = .ok (.goto (-93), 3) := by decide +kernel
theorem dX4_layLeft_129 : decode cX4_layLeft 129 = .ok (.return_, 1) := by decide +kernel
theorem dX4_witness_0 : decode cX4_witness 0 = .ok (.iload_n 1, 1) := by decide +kernel
theorem dX4_witness_1 : decode cX4_witness 1 = .ok (.invokestatic 76, 3) := by decide +kernel
theorem dX4_witness_4 : decode cX4_witness 4 = .ok (.ifCond .eq 20, 3) := by decide +kernel
theorem dX4_witness_7 : decode cX4_witness 7 = .ok (.iload_n 2, 1) := by decide +kernel
theorem dX4_witness_8 : decode cX4_witness 8 = .ok (.invokestatic 76, 3) := by decide +kernel
theorem dX4_witness_11 : decode cX4_witness 11 = .ok (.ifCond .eq 13, 3) := by decide +kernel
theorem dX4_witness_14 : decode cX4_witness 14 = .ok (.iload_n 1, 1) := by decide +kernel
theorem dX4_witness_15 : decode cX4_witness 15 = .ok (.iload_n 2, 1) := by decide +kernel
theorem dX4_witness_16 : decode cX4_witness 16 = .ok (.if_icmp .eq 8, 3) := by decide +kernel
theorem dX4_witness_19 : decode cX4_witness 19 = .ok (.iload_n 3, 1) := by decide +kernel
theorem dX4_witness_20 : decode cX4_witness 20 = .ok (.iconst (-1), 1) := by decide +kernel
theorem dX4_witness_21 : decode cX4_witness 21 = .ok (.if_icmp .ge 5, 3) := by decide +kernel
theorem dX4_witness_24 : decode cX4_witness 24 = .ok (.iconst (-1), 1) := by decide +kernel
theorem dX4_witness_25 : decode cX4_witness 25 = .ok (.ireturn, 1) := by decide +kernel
theorem dX4_witness_26 : decode cX4_witness 26 = .ok (.aload_n 0, 1) := by decide +kernel
theorem dX4_witness_27 : decode cX4_witness 27 = .ok (.iload_n 1, 1) := by decide +kernel
theorem dX4_witness_28 : decode cX4_witness 28 = .ok (.invokevirtual 91, 3) := by decide +kernel
theorem dX4_witness_31 : decode cX4_witness 31 = .ok (.iload_n 3, 1) := by decide +kernel
theorem dX4_witness_32 : decode cX4_witness 32 = .ok (.iconst (-1), 1) := by decide +kernel
theorem dX4_witness_33 : decode cX4_witness 33 = .ok (.if_icmp .eq 24, 3) := by decide +kernel
theorem dX4_witness_36 : decode cX4_witness 36 = .ok (.aload_n 0, 1) := by decide +kernel
theorem dX4_witness_37 : decode cX4_witness 37 = .ok (.getfield 25, 3) := by decide +kernel
theorem dX4_witness_40 : decode cX4_witness 40 = .ok (.iload_n 2, 1) := by decide +kernel
theorem dX4_witness_41 : decode cX4_witness 41 = .ok (.iaload, 1) := by decide +kernel
theorem dX4_witness_42 : decode cX4_witness 42 = .ok (.bipush (-9), 2) := by decide +kernel
theorem dX4_witness_44 : decode cX4_witness 44 = .ok (.if_icmp .eq 13, 3) := by decide +kernel
theorem dX4_witness_47 : decode cX4_witness 47 = .ok (.iload_n 3, 1) := by decide +kernel
theorem dX4_witness_48 : decode cX4_witness 48 = .ok (.aload_n 0, 1) := by decide +kernel
theorem dX4_witness_49 : decode cX4_witness 49 = .ok (.getfield 25, 3) := by decide +kernel
theorem dX4_witness_52 : decode cX4_witness 52 = .ok (.iload_n 2, 1) := by decide +kernel
theorem dX4_witness_53 : decode cX4_witness 53 = .ok (.iaload, 1) := by decide +kernel
theorem dX4_witness_54 : decode cX4_witness 54 = .ok (.if_icmp .le 20, 3) := by decide +kernel
theorem dX4_witness_57 : decode cX4_witness 57 = .ok (.iload_n 3, 1) := by decide +kernel
theorem dX4_witness_58 : decode cX4_witness 58 = .ok (.iconst (-1), 1) := by decide +kernel
theorem dX4_witness_59 : decode cX4_witness 59 = .ok (.if_icmp .ne 12, 3) := by decide +kernel
theorem dX4_witness_62 : decode cX4_witness 62 = .ok (.aload_n 0, 1) := by decide +kernel
theorem dX4_witness_63 : decode cX4_witness 63 = .ok (.getfield 25, 3) := by decide +kernel
theorem dX4_witness_66 : decode cX4_witness 66 = .ok (.iload_n 2, 1) := by decide +kernel
theorem dX4_witness_67 : decode cX4_witness 67 = .ok (.iaload, 1) := by decide +kernel
theorem dX4_witness_68 : decode cX4_witness 68 = .ok (.goto 5, 3) := by decide +kernel
theorem dX4_witness_71 : decode cX4_witness 71 = .ok (.bipush (-9), 2) := by decide +kernel
theorem dX4_witness_73 : decode cX4_witness 73 = .ok (.ireturn, 1) := by decide +kernel
theorem dX4_witness_74 : decode cX4_witness 74 = .ok (.iload_n 2, 1) := by decide +kernel
theorem dX4_witness_75 : decode cX4_witness 75 = .ok (.istore 4, 2) := by decide +kernel
theorem dX4_witness_77 : decode cX4_witness 77 = .ok (.iconst 0, 1) := by decide +kernel
theorem dX4_witness_78 : decode cX4_witness 78 = .ok (.istore 5, 2) := by decide +kernel
theorem dX4_witness_80 : decode cX4_witness 80 = .ok (.iload 5, 2) := by decide +kernel
theorem dX4_witness_82 : decode cX4_witness 82 = .ok (.iload_n 3, 1) := by decide +kernel
theorem dX4_witness_83 : decode cX4_witness 83 = .ok (.if_icmp .ge 60, 3) := by decide +kernel
theorem dX4_witness_86 : decode cX4_witness 86 = .ok (.iconst 0, 1) := by decide +kernel
theorem dX4_witness_87 : decode cX4_witness 87 = .ok (.istore 6, 2) := by decide +kernel
theorem dX4_witness_89 : decode cX4_witness 89 = .ok (.aload_n 0, 1) := by decide +kernel
theorem dX4_witness_90 : decode cX4_witness 90 = .ok (.getfield 7, 3) := by decide +kernel
theorem dX4_witness_93 : decode cX4_witness 93 = .ok (.sipush 176, 3) := by decide +kernel
theorem dX4_witness_96 : decode cX4_witness 96 = .ok (.iload 4, 2) := by decide +kernel
theorem dX4_witness_98 : decode cX4_witness 98 = .ok (.iadd, 1) := by decide +kernel
theorem dX4_witness_99 : decode cX4_witness 99 = .ok (.iaload, 1) := by decide +kernel
theorem dX4_witness_100 : decode cX4_witness 100 = .ok (.iload 6, 2) := by decide +kernel
theorem dX4_witness_102 : decode cX4_witness 102 = .ok (.invokestatic 43, 3) := by decide +kernel
theorem dX4_witness_105 : decode cX4_witness 105 = .ok (.ifCond .eq 22, 3) := by decide +kernel
theorem dX4_witness_108 : decode cX4_witness 108 = .ok (.aload_n 0, 1) := by decide +kernel
theorem dX4_witness_109 : decode cX4_witness 109 = .ok (.getfield 25, 3) := by decide +kernel
theorem dX4_witness_112 : decode cX4_witness 112 = .ok (.iload 6, 2) := by decide +kernel
theorem dX4_witness_114 : decode cX4_witness 114 = .ok (.iaload, 1) := by decide +kernel
theorem dX4_witness_115 : decode cX4_witness 115 = .ok (.aload_n 0, 1) := by decide +kernel
theorem dX4_witness_116 : decode cX4_witness 116 = .ok (.getfield 25, 3) := by decide +kernel
theorem dX4_witness_119 : decode cX4_witness 119 = .ok (.iload 4, 2) := by decide +kernel
theorem dX4_witness_121 : decode cX4_witness 121 = .ok (.iaload, 1) := by decide +kernel
theorem dX4_witness_122 : decode cX4_witness 122 = .ok (.iconst 1, 1) := by decide +kernel
theorem dX4_witness_123 : decode cX4_witness 123 = .ok (.isub, 1) := by decide +kernel
theorem dX4_witness_124 : decode cX4_witness 124 = .ok (.if_icmp .eq 9, 3) := by decide +kernel
theorem dX4_witness_127 : decode cX4_witness 127 = .ok (.iinc 6 1, 3) := by decide +kernel
theorem dX4_witness_130 : decode cX4_witness 130 = .ok (.goto (-41), 3) := by decide +kernel
theorem dX4_witness_133 : decode cX4_witness 133 = .ok (.iload 6, 2) := by decide +kernel
theorem dX4_witness_135 : decode cX4_witness 135 = .ok (.istore 4, 2) := by decide +kernel
theorem dX4_witness_137 : decode cX4_witness 137 = .ok (.iinc 5 1, 3) := by decide +kernel
theorem dX4_witness_140 : decode cX4_witness 140 = .ok (.goto (-60), 3) := by decide +kernel
theorem dX4_witness_143 : decode cX4_witness 143 = .ok (.iload 4, 2) := by decide +kernel
theorem dX4_witness_145 : decode cX4_witness 145 = .ok (.ireturn, 1) := by decide +kernel
theorem dX4_send_0 : decode cX4_send 0 = .ok (.aload_n 0, 1) := by decide +kernel
theorem dX4_send_1 : decode cX4_send 1 = .ok (.invokevirtual 94, 3) := by decide +kernel
theorem dX4_send_4 : decode cX4_send 4 = .ok (.ifCond .ne 6, 3) := by decide +kernel
theorem dX4_send_7 : decode cX4_send 7 = .ok (.bipush (-2), 2) := by decide +kernel
theorem dX4_send_9 : decode cX4_send 9 = .ok (.ireturn, 1) := by decide +kernel
theorem dX4_send_10 : decode cX4_send 10 = .ok (.aload_n 0, 1) := by decide +kernel
theorem dX4_send_11 : decode cX4_send 11 = .ok (.invokevirtual 82, 3) := by decide +kernel
theorem dX4_send_14 : decode cX4_send 14 = .ok (.aload_n 0, 1) := by decide +kernel
theorem dX4_send_15 : decode cX4_send 15 = .ok (.invokevirtual 73, 3) := by decide +kernel
theorem dX4_send_18 : decode cX4_send 18 = .ok (.ireturn, 1) := by decide +kernel
theorem dX4_sendSome_0 : decode cX4_sendSome 0 = .ok (.iload_n 1, 1) := by decide +kernel
theorem dX4_sendSome_1 : decode cX4_sendSome 1 = .ok (.iconst 0, 1) := by decide +kernel
theorem dX4_sendSome_2 : decode cX4_sendSome 2 = .ok (.sipush 999, 3) := by decide +kernel
theorem dX4_sendSome_5 : decode cX4_sendSome 5 = .ok (.invokestatic 35, 3) := by decide +kernel
theorem dX4_sendSome_8 : decode cX4_sendSome 8 = .ok (.ifCond .ne 5, 3) := by decide +kernel
theorem dX4_sendSome_11 : decode cX4_sendSome 11 = .ok (.iconst (-1), 1) := by decide +kernel
theorem dX4_sendSome_12 : decode cX4_sendSome 12 = .ok (.ireturn, 1) := by decide +kernel
theorem dX4_sendSome_13 : decode cX4_sendSome 13 = .ok (.aload_n 0, 1) := by decide +kernel
theorem dX4_sendSome_14 : decode cX4_sendSome 14 = .ok (.invokevirtual 82, 3) := by decide +kernel
theorem dX4_sendSome_17 : decode cX4_sendSome 17 = .ok (.iconst 0, 1) := by decide +kernel
theorem dX4_sendSome_18 : decode cX4_sendSome 18 = .ok (.istore_n 2, 1) := by decide +kernel
theorem dX4_sendSome_19 : decode cX4_sendSome 19 = .ok (.iconst 0, 1) := by decide +kernel
theorem dX4_sendSome_20 : decode cX4_sendSome 20 = .ok (.istore_n 3, 1) := by decide +kernel
theorem dX4_sendSome_21 : decode cX4_sendSome 21 = .ok (.iconst 1, 1) := by decide +kernel
theorem dX4_sendSome_22 : decode cX4_sendSome 22 = .ok (.istore 4, 2) := by decide +kernel
theorem dX4_sendSome_24 : decode cX4_sendSome 24 = .ok (.iload 4, 2) := by decide +kernel
theorem dX4_sendSome_26 : decode cX4_sendSome 26 = .ok (.ifCond .eq 65, 3) := by decide +kernel
theorem dX4_sendSome_29 : decode cX4_sendSome 29 = .ok (.aload_n 0, 1) := by decide +kernel
theorem dX4_sendSome_30 : decode cX4_sendSome 30 = .ok (.invokevirtual 69, 3) := by decide +kernel
theorem dX4_sendSome_33 : decode cX4_sendSome 33 = .ok (.istore 5, 2) := by decide +kernel
theorem dX4_sendSome_35 : decode cX4_sendSome 35 = .ok (.iload 5, 2) := by decide +kernel
theorem dX4_sendSome_37 : decode cX4_sendSome 37 = .ok (.bipush (-9), 2) := by decide +kernel
theorem dX4_sendSome_39 : decode cX4_sendSome 39 = .ok (.if_icmp .eq 21, 3) := by decide +kernel
theorem dX4_sendSome_42 : decode cX4_sendSome 42 = .ok (.iload_n 2, 1) := by decide +kernel
theorem dX4_sendSome_43 : decode cX4_sendSome 43 = .ok (.aload_n 0, 1) := by decide +kernel
theorem dX4_sendSome_44 : decode cX4_sendSome 44 = .ok (.iload 5, 2) := by decide +kernel
theorem dX4_sendSome_46 : decode cX4_sendSome 46 = .ok (.iconst 0, 1) := by decide +kernel
theorem dX4_sendSome_47 : decode cX4_sendSome 47 = .ok (.iconst 1, 1) := by decide +kernel
theorem dX4_sendSome_48 : decode cX4_sendSome 48 = .ok (.invokevirtual 51, 3) := by decide +kernel
theorem dX4_sendSome_51 : decode cX4_sendSome 51 = .ok (.iadd, 1) := by decide +kernel
theorem dX4_sendSome_52 : decode cX4_sendSome 52 = .ok (.iload_n 1, 1) := by decide +kernel
theorem dX4_sendSome_53 : decode cX4_sendSome 53 = .ok (.if_icmp .gt 7, 3) := by decide +kernel
theorem dX4_sendSome_56 : decode cX4_sendSome 56 = .ok (.iconst 1, 1) := by decide +kernel
theorem dX4_sendSome_57 : decode cX4_sendSome 57 = .ok (.goto 4, 3) := by decide +kernel
theorem dX4_sendSome_60 : decode cX4_sendSome 60 = .ok (.iconst 0, 1) := by decide +kernel
theorem dX4_sendSome_61 : decode cX4_sendSome 61 = .ok (.istore 4, 2) := by decide +kernel
theorem dX4_sendSome_63 : decode cX4_sendSome 63 = .ok (.iload 4, 2) := by decide +kernel
theorem dX4_sendSome_65 : decode cX4_sendSome 65 = .ok (.ifCond .eq 23, 3) := by decide +kernel
theorem dX4_sendSome_68 : decode cX4_sendSome 68 = .ok (.iload_n 2, 1) := by decide +kernel
theorem dX4_sendSome_69 : decode cX4_sendSome 69 = .ok (.aload_n 0, 1) := by decide +kernel
theorem dX4_sendSome_70 : decode cX4_sendSome 70 = .ok (.iload 5, 2) := by decide +kernel
theorem dX4_sendSome_72 : decode cX4_sendSome 72 = .ok (.iconst 0, 1) := by decide +kernel
theorem dX4_sendSome_73 : decode cX4_sendSome 73 = .ok (.iconst 1, 1) := by decide +kernel
theorem dX4_sendSome_74 : decode cX4_sendSome 74 = .ok (.invokevirtual 51, 3) := by decide +kernel
theorem dX4_sendSome_77 : decode cX4_sendSome 77 = .ok (.iadd, 1) := by decide +kernel
theorem dX4_sendSome_78 : decode cX4_sendSome 78 = .ok (.istore_n 2, 1) := by decide +kernel
theorem dX4_sendSome_79 : decode cX4_sendSome 79 = .ok (.iinc 3 1, 3) := by decide +kernel
theorem dX4_sendSome_82 : decode cX4_sendSome 82 = .ok (.aload_n 0, 1) := by decide +kernel
theorem dX4_sendSome_83 : decode cX4_sendSome 83 = .ok (.invokevirtual 73, 3) := by decide +kernel
theorem dX4_sendSome_86 : decode cX4_sendSome 86 = .ok (.istore 6, 2) := by decide +kernel
theorem dX4_sendSome_88 : decode cX4_sendSome 88 = .ok (.goto (-64), 3) := by decide +kernel
theorem dX4_sendSome_91 : decode cX4_sendSome 91 = .ok (.iload_n 3, 1) := by decide +kernel
theorem dX4_sendSome_92 : decode cX4_sendSome 92 = .ok (.ireturn, 1) := by decide +kernel
theorem dX4_undo_0 : decode cX4_undo 0 = .ok (.aload_n 0, 1) := by decide +kernel
theorem dX4_undo_1 : decode cX4_undo 1 = .ok (.getfield 39, 3) := by decide +kernel
theorem dX4_undo_4 : decode cX4_undo 4 = .ok (.ifCond .ne 6, 3) := by decide +kernel
theorem dX4_undo_7 : decode cX4_undo 7 = .ok (.bipush (-2), 2) := by decide +kernel
theorem dX4_undo_9 : decode cX4_undo 9 = .ok (.ireturn, 1) := by decide +kernel
theorem dX4_undo_10 : decode cX4_undo 10 = .ok (.aload_n 0, 1) := by decide +kernel
theorem dX4_undo_11 : decode cX4_undo 11 = .ok (.dup, 1) := by decide +kernel
theorem dX4_undo_12 : decode cX4_undo 12 = .ok (.getfield 39, 3) := by decide +kernel
theorem dX4_undo_15 : decode cX4_undo 15 = .ok (.iconst 1, 1) := by decide +kernel
theorem dX4_undo_16 : decode cX4_undo 16 = .ok (.isub, 1) := by decide +kernel
theorem dX4_undo_17 : decode cX4_undo 17 = .ok (.putfield 39, 3) := by decide +kernel
theorem dX4_undo_20 : decode cX4_undo 20 = .ok (.iconst 0, 1) := by decide +kernel
theorem dX4_undo_21 : decode cX4_undo 21 = .ok (.istore_n 1, 1) := by decide +kernel
theorem dX4_undo_22 : decode cX4_undo 22 = .ok (.iload_n 1, 1) := by decide +kernel
theorem dX4_undo_23 : decode cX4_undo 23 = .ok (.sipush 428, 3) := by decide +kernel
theorem dX4_undo_26 : decode cX4_undo 26 = .ok (.if_icmp .ge 30, 3) := by decide +kernel
theorem dX4_undo_29 : decode cX4_undo 29 = .ok (.aload_n 0, 1) := by decide +kernel
theorem dX4_undo_30 : decode cX4_undo 30 = .ok (.getfield 7, 3) := by decide +kernel
theorem dX4_undo_33 : decode cX4_undo 33 = .ok (.iload_n 1, 1) := by decide +kernel
theorem dX4_undo_34 : decode cX4_undo 34 = .ok (.aload_n 0, 1) := by decide +kernel
theorem dX4_undo_35 : decode cX4_undo 35 = .ok (.getfield 13, 3) := by decide +kernel
theorem dX4_undo_38 : decode cX4_undo 38 = .ok (.sipush 428, 3) := by decide +kernel
theorem dX4_undo_41 : decode cX4_undo 41 = .ok (.aload_n 0, 1) := by decide +kernel
theorem dX4_undo_42 : decode cX4_undo 42 = .ok (.getfield 39, 3) := by decide +kernel
theorem dX4_undo_45 : decode cX4_undo 45 = .ok (.imul, 1) := by decide +kernel
theorem dX4_undo_46 : decode cX4_undo 46 = .ok (.iload_n 1, 1) := by decide +kernel
theorem dX4_undo_47 : decode cX4_undo 47 = .ok (.iadd, 1) := by decide +kernel
theorem dX4_undo_48 : decode cX4_undo 48 = .ok (.iaload, 1) := by decide +kernel
theorem dX4_undo_49 : decode cX4_undo 49 = .ok (.iastore, 1) := by decide +kernel
theorem dX4_undo_50 : decode cX4_undo 50 = .ok (.iinc 1 1, 3) := by decide +kernel
theorem dX4_undo_53 : decode cX4_undo 53 = .ok (.goto (-31), 3) := by decide +kernel
theorem dX4_undo_56 : decode cX4_undo 56 = .ok (.aload_n 0, 1) := by decide +kernel
theorem dX4_undo_57 : decode cX4_undo 57 = .ok (.getfield 39, 3) := by decide +kernel
theorem dX4_undo_60 : decode cX4_undo 60 = .ok (.ireturn, 1) := by decide +kernel
theorem dX4_waitingSize_0 : decode cX4_waitingSize 0 = .ok (.iconst 0, 1) := by decide +kernel
theorem dX4_waitingSize_1 : decode cX4_waitingSize 1 = .ok (.istore_n 2, 1) := by decide +kernel
theorem dX4_waitingSize_2 : decode cX4_waitingSize 2 = .ok (.iconst 0, 1) := by decide +kernel
theorem dX4_waitingSize_3 : decode cX4_waitingSize 3 = .ok (.istore_n 3, 1) := by decide +kernel
theorem dX4_waitingSize_4 : decode cX4_waitingSize 4 = .ok (.iload_n 3, 1) := by decide +kernel
theorem dX4_waitingSize_5 : decode cX4_waitingSize 5 = .ok (.aload_n 0, 1) := by decide +kernel
theorem dX4_waitingSize_6 : decode cX4_waitingSize 6 = .ok (.getfield 7, 3) := by decide +kernel
theorem dX4_waitingSize_9 : decode cX4_waitingSize 9 = .ok (.bipush 24, 2) := by decide +kernel
theorem dX4_waitingSize_11 : decode cX4_waitingSize 11 = .ok (.iload_n 1, 1) := by decide +kernel
theorem dX4_waitingSize_12 : decode cX4_waitingSize 12 = .ok (.iadd, 1) := by decide +kernel
theorem dX4_waitingSize_13 : decode cX4_waitingSize 13 = .ok (.iaload, 1) := by decide +kernel
theorem dX4_waitingSize_14 : decode cX4_waitingSize 14 = .ok (.if_icmp .ge 19, 3) := by decide +kernel
theorem dX4_waitingSize_17 : decode cX4_waitingSize 17 = .ok (.iload_n 2, 1) := by decide +kernel
theorem dX4_waitingSize_18 : decode cX4_waitingSize 18 = .ok (.aload_n 0, 1) := by decide +kernel
theorem dX4_waitingSize_19 : decode cX4_waitingSize 19 = .ok (.iload_n 1, 1) := by decide +kernel
theorem dX4_waitingSize_20 : decode cX4_waitingSize 20 = .ok (.iload_n 3, 1) := by decide +kernel
theorem dX4_waitingSize_21 : decode cX4_waitingSize 21 = .ok (.iconst 1, 1) := by decide +kernel
theorem dX4_waitingSize_22 : decode cX4_waitingSize 22 = .ok (.invokevirtual 51, 3) := by decide +kernel
theorem dX4_waitingSize_25 : decode cX4_waitingSize 25 = .ok (.iadd, 1) := by decide +kernel
theorem dX4_waitingSize_26 : decode cX4_waitingSize 26 = .ok (.istore_n 2, 1) := by decide +kernel
theorem dX4_waitingSize_27 : decode cX4_waitingSize 27 = .ok (.iinc 3 1, 3) := by decide +kernel
theorem dX4_waitingSize_30 : decode cX4_waitingSize 30 = .ok (.goto (-26), 3) := by decide +kernel
theorem dX4_waitingSize_33 : decode cX4_waitingSize 33 = .ok (.iload_n 2, 1) := by decide +kernel
theorem dX4_waitingSize_34 : decode cX4_waitingSize 34 = .ok (.ireturn, 1) := by decide +kernel
theorem dX4_allWaitingSizes_0 : decode cX4_allWaitingSizes 0 = .ok (.iconst 0, 1) := by decide +kernel
theorem dX4_allWaitingSizes_1 : decode cX4_allWaitingSizes 1 = .ok (.istore_n 1, 1) := by decide +kernel
theorem dX4_allWaitingSizes_2 : decode cX4_allWaitingSizes 2 = .ok (.iconst 0, 1) := by decide +kernel
theorem dX4_allWaitingSizes_3 : decode cX4_allWaitingSizes 3 = .ok (.istore_n 2, 1) := by decide +kernel
theorem dX4_allWaitingSizes_4 : decode cX4_allWaitingSizes 4 = .ok (.iload_n 2, 1) := by decide +kernel
theorem dX4_allWaitingSizes_5 : decode cX4_allWaitingSizes 5 = .ok (.bipush 8, 2) := by decide +kernel
theorem dX4_allWaitingSizes_7 : decode cX4_allWaitingSizes 7 = .ok (.if_icmp .ge 17, 3) := by decide +kernel
theorem dX4_allWaitingSizes_10 : decode cX4_allWaitingSizes 10 = .ok (.iload_n 1, 1) := by decide +kernel
theorem dX4_allWaitingSizes_11 : decode cX4_allWaitingSizes 11 = .ok (.aload_n 0, 1) := by decide +kernel
theorem dX4_allWaitingSizes_12 : decode cX4_allWaitingSizes 12 = .ok (.iload_n 2, 1) := by decide +kernel
theorem dX4_allWaitingSizes_13 : decode cX4_allWaitingSizes 13 = .ok (.invokevirtual 97, 3) := by decide +kernel
theorem dX4_allWaitingSizes_16 : decode cX4_allWaitingSizes 16 = .ok (.iadd, 1) := by decide +kernel
theorem dX4_allWaitingSizes_17 : decode cX4_allWaitingSizes 17 = .ok (.istore_n 1, 1) := by decide +kernel
theorem dX4_allWaitingSizes_18 : decode cX4_allWaitingSizes 18 = .ok (.iinc 2 1, 3) := by decide +kernel
theorem dX4_allWaitingSizes_21 : decode cX4_allWaitingSizes 21 = .ok (.goto (-17), 3) := by decide +kernel
theorem dX4_allWaitingSizes_24 : decode cX4_allWaitingSizes 24 = .ok (.iload_n 1, 1) := by decide +kernel
theorem dX4_allWaitingSizes_25 : decode cX4_allWaitingSizes 25 = .ok (.ireturn, 1) := by decide +kernel
theorem dX4_candidates_0 : decode cX4_candidates 0 = .ok (.iconst 0, 1) := by decide +kernel
theorem dX4_candidates_1 : decode cX4_candidates 1 = .ok (.istore_n 1, 1) := by decide +kernel
theorem dX4_candidates_2 : decode cX4_candidates 2 = .ok (.iconst 0, 1) := by decide +kernel
theorem dX4_candidates_3 : decode cX4_candidates 3 = .ok (.istore_n 2, 1) := by decide +kernel
theorem dX4_candidates_4 : decode cX4_candidates 4 = .ok (.iload_n 2, 1) := by decide +kernel
theorem dX4_candidates_5 : decode cX4_candidates 5 = .ok (.bipush 8, 2) := by decide +kernel
theorem dX4_candidates_7 : decode cX4_candidates 7 = .ok (.if_icmp .ge 25, 3) := by decide +kernel
theorem dX4_candidates_10 : decode cX4_candidates 10 = .ok (.iload_n 1, 1) := by decide +kernel
theorem dX4_candidates_11 : decode cX4_candidates 11 = .ok (.aload_n 0, 1) := by decide +kernel
theorem dX4_candidates_12 : decode cX4_candidates 12 = .ok (.iload_n 2, 1) := by decide +kernel
theorem dX4_candidates_13 : decode cX4_candidates 13 = .ok (.invokevirtual 65, 3) := by decide +kernel
theorem dX4_candidates_16 : decode cX4_candidates 16 = .ok (.ifCond .eq 7, 3) := by decide +kernel
theorem dX4_candidates_19 : decode cX4_candidates 19 = .ok (.iconst 1, 1) := by decide +kernel
theorem dX4_candidates_20 : decode cX4_candidates 20 = .ok (.goto 4, 3) := by decide +kernel
theorem dX4_candidates_23 : decode cX4_candidates 23 = .ok (.iconst 0, 1) := by decide +kernel
theorem dX4_candidates_24 : decode cX4_candidates 24 = .ok (.iadd, 1) := by decide +kernel
theorem dX4_candidates_25 : decode cX4_candidates 25 = .ok (.istore_n 1, 1) := by decide +kernel
theorem dX4_candidates_26 : decode cX4_candidates 26 = .ok (.iinc 2 1, 3) := by decide +kernel
theorem dX4_candidates_29 : decode cX4_candidates 29 = .ok (.goto (-25), 3) := by decide +kernel
theorem dX4_candidates_32 : decode cX4_candidates 32 = .ok (.iload_n 1, 1) := by decide +kernel
theorem dX4_candidates_33 : decode cX4_candidates 33 = .ok (.ireturn, 1) := by decide +kernel
theorem dX4_isCommitted_0 : decode cX4_isCommitted 0 = .ok (.iconst 1, 1) := by decide +kernel
theorem dX4_isCommitted_1 : decode cX4_isCommitted 1 = .ok (.istore_n 1, 1) := by decide +kernel
theorem dX4_isCommitted_2 : decode cX4_isCommitted 2 = .ok (.iconst 0, 1) := by decide +kernel
theorem dX4_isCommitted_3 : decode cX4_isCommitted 3 = .ok (.istore_n 2, 1) := by decide +kernel
theorem dX4_isCommitted_4 : decode cX4_isCommitted 4 = .ok (.iload_n 2, 1) := by decide +kernel
theorem dX4_isCommitted_5 : decode cX4_isCommitted 5 = .ok (.bipush 8, 2) := by decide +kernel
theorem dX4_isCommitted_7 : decode cX4_isCommitted 7 = .ok (.if_icmp .ge 48, 3) := by decide +kernel
theorem dX4_isCommitted_10 : decode cX4_isCommitted 10 = .ok (.iload_n 1, 1) := by decide +kernel
theorem dX4_isCommitted_11 : decode cX4_isCommitted 11 = .ok (.aload_n 0, 1) := by decide +kernel
theorem dX4_isCommitted_12 : decode cX4_isCommitted 12 = .ok (.getfield 7, 3) := by decide +kernel
theorem dX4_isCommitted_15 : decode cX4_isCommitted 15 = .ok (.sipush 176, 3) := by decide +kernel
theorem dX4_isCommitted_18 : decode cX4_isCommitted 18 = .ok (.iload_n 2, 1) := by decide +kernel
theorem dX4_isCommitted_19 : decode cX4_isCommitted 19 = .ok (.iadd, 1) := by decide +kernel
theorem dX4_isCommitted_20 : decode cX4_isCommitted 20 = .ok (.iaload, 1) := by decide +kernel
theorem dX4_isCommitted_21 : decode cX4_isCommitted 21 = .ok (.aload_n 0, 1) := by decide +kernel
theorem dX4_isCommitted_22 : decode cX4_isCommitted 22 = .ok (.getfield 7, 3) := by decide +kernel
theorem dX4_isCommitted_25 : decode cX4_isCommitted 25 = .ok (.aload_n 0, 1) := by decide +kernel
theorem dX4_isCommitted_26 : decode cX4_isCommitted 26 = .ok (.getfield 7, 3) := by decide +kernel
theorem dX4_isCommitted_29 : decode cX4_isCommitted 29 = .ok (.sipush 184, 3) := by decide +kernel
theorem dX4_isCommitted_32 : decode cX4_isCommitted 32 = .ok (.iaload, 1) := by decide +kernel
theorem dX4_isCommitted_33 : decode cX4_isCommitted 33 = .ok (.invokestatic 55, 3) := by decide +kernel
theorem dX4_isCommitted_36 : decode cX4_isCommitted 36 = .ok (.iload_n 2, 1) := by decide +kernel
theorem dX4_isCommitted_37 : decode cX4_isCommitted 37 = .ok (.iadd, 1) := by decide +kernel
theorem dX4_isCommitted_38 : decode cX4_isCommitted 38 = .ok (.iaload, 1) := by decide +kernel
theorem dX4_isCommitted_39 : decode cX4_isCommitted 39 = .ok (.if_icmp .ne 7, 3) := by decide +kernel
theorem dX4_isCommitted_42 : decode cX4_isCommitted 42 = .ok (.iconst 1, 1) := by decide +kernel
theorem dX4_isCommitted_43 : decode cX4_isCommitted 43 = .ok (.goto 4, 3) := by decide +kernel
theorem dX4_isCommitted_46 : decode cX4_isCommitted 46 = .ok (.iconst 0, 1) := by decide +kernel
theorem dX4_isCommitted_47 : decode cX4_isCommitted 47 = .ok (.iand, 1) := by decide +kernel
theorem dX4_isCommitted_48 : decode cX4_isCommitted 48 = .ok (.istore_n 1, 1) := by decide +kernel
theorem dX4_isCommitted_49 : decode cX4_isCommitted 49 = .ok (.iinc 2 1, 3) := by decide +kernel
theorem dX4_isCommitted_52 : decode cX4_isCommitted 52 = .ok (.goto (-48), 3) := by decide +kernel
theorem dX4_isCommitted_55 : decode cX4_isCommitted 55 = .ok (.iload_n 1, 1) := by decide +kernel
theorem dX4_isCommitted_56 : decode cX4_isCommitted 56 = .ok (.ireturn, 1) := by decide +kernel
theorem dX4_told_0 : decode cX4_told 0 = .ok (.iload_n 1, 1) := by decide +kernel
theorem dX4_told_1 : decode cX4_told 1 = .ok (.tableswitch 150 0 11 #[63, 68, 73, 82, 91, 96, 105, 113, 118, 123, 132, 137], 63) := by decide +kernel
theorem dX4_told_64 : decode cX4_told 64 = .ok (.aload_n 0, 1) := by decide +kernel
theorem dX4_told_65 : decode cX4_told 65 = .ok (.invokevirtual 85, 3) := by decide +kernel
theorem dX4_told_68 : decode cX4_told 68 = .ok (.ireturn, 1) := by decide +kernel
theorem dX4_told_69 : decode cX4_told 69 = .ok (.aload_n 0, 1) := by decide +kernel
theorem dX4_told_70 : decode cX4_told 70 = .ok (.invokevirtual 94, 3) := by decide +kernel
theorem dX4_told_73 : decode cX4_told 73 = .ok (.ireturn, 1) := by decide +kernel
theorem dX4_told_74 : decode cX4_told 74 = .ok (.aload_n 0, 1) := by decide +kernel
theorem dX4_told_75 : decode cX4_told 75 = .ok (.getfield 7, 3) := by decide +kernel
theorem dX4_told_78 : decode cX4_told 78 = .ok (.sipush 265, 3) := by decide +kernel
theorem dX4_told_81 : decode cX4_told 81 = .ok (.iaload, 1) := by decide +kernel
theorem dX4_told_82 : decode cX4_told 82 = .ok (.ireturn, 1) := by decide +kernel
theorem dX4_told_83 : decode cX4_told 83 = .ok (.aload_n 0, 1) := by decide +kernel
theorem dX4_told_84 : decode cX4_told 84 = .ok (.getfield 7, 3) := by decide +kernel
theorem dX4_told_87 : decode cX4_told 87 = .ok (.sipush 266, 3) := by decide +kernel
theorem dX4_told_90 : decode cX4_told 90 = .ok (.iaload, 1) := by decide +kernel
theorem dX4_told_91 : decode cX4_told 91 = .ok (.ireturn, 1) := by decide +kernel
theorem dX4_told_92 : decode cX4_told 92 = .ok (.aload_n 0, 1) := by decide +kernel
theorem dX4_told_93 : decode cX4_told 93 = .ok (.invokevirtual 100, 3) := by decide +kernel
theorem dX4_told_96 : decode cX4_told 96 = .ok (.ireturn, 1) := by decide +kernel
theorem dX4_told_97 : decode cX4_told 97 = .ok (.aload_n 0, 1) := by decide +kernel
theorem dX4_told_98 : decode cX4_told 98 = .ok (.getfield 7, 3) := by decide +kernel
theorem dX4_told_101 : decode cX4_told 101 = .ok (.sipush 184, 3) := by decide +kernel
theorem dX4_told_104 : decode cX4_told 104 = .ok (.iaload, 1) := by decide +kernel
theorem dX4_told_105 : decode cX4_told 105 = .ok (.ireturn, 1) := by decide +kernel
theorem dX4_told_106 : decode cX4_told 106 = .ok (.aload_n 0, 1) := by decide +kernel
theorem dX4_told_107 : decode cX4_told 107 = .ok (.sipush 176, 3) := by decide +kernel
theorem dX4_told_110 : decode cX4_told 110 = .ok (.invokevirtual 88, 3) := by decide +kernel
theorem dX4_told_113 : decode cX4_told 113 = .ok (.ireturn, 1) := by decide +kernel
theorem dX4_told_114 : decode cX4_told 114 = .ok (.aload_n 0, 1) := by decide +kernel
theorem dX4_told_115 : decode cX4_told 115 = .ok (.invokevirtual 103, 3) := by decide +kernel
theorem dX4_told_118 : decode cX4_told 118 = .ok (.ireturn, 1) := by decide +kernel
theorem dX4_told_119 : decode cX4_told 119 = .ok (.aload_n 0, 1) := by decide +kernel
theorem dX4_told_120 : decode cX4_told 120 = .ok (.invokevirtual 69, 3) := by decide +kernel
theorem dX4_told_123 : decode cX4_told 123 = .ok (.ireturn, 1) := by decide +kernel
theorem dX4_told_124 : decode cX4_told 124 = .ok (.aload_n 0, 1) := by decide +kernel
theorem dX4_told_125 : decode cX4_told 125 = .ok (.getfield 7, 3) := by decide +kernel
theorem dX4_told_128 : decode cX4_told 128 = .ok (.sipush 267, 3) := by decide +kernel
theorem dX4_told_131 : decode cX4_told 131 = .ok (.iaload, 1) := by decide +kernel
theorem dX4_told_132 : decode cX4_told 132 = .ok (.ireturn, 1) := by decide +kernel
theorem dX4_told_133 : decode cX4_told 133 = .ok (.aload_n 0, 1) := by decide +kernel
theorem dX4_told_134 : decode cX4_told 134 = .ok (.getfield 39, 3) := by decide +kernel
theorem dX4_told_137 : decode cX4_told 137 = .ok (.ireturn, 1) := by decide +kernel
theorem dX4_told_138 : decode cX4_told 138 = .ok (.aload_n 0, 1) := by decide +kernel
theorem dX4_told_139 : decode cX4_told 139 = .ok (.invokevirtual 106, 3) := by decide +kernel
theorem dX4_told_142 : decode cX4_told 142 = .ok (.ifCond .eq 7, 3) := by decide +kernel
theorem dX4_told_145 : decode cX4_told 145 = .ok (.iconst 1, 1) := by decide +kernel
theorem dX4_told_146 : decode cX4_told 146 = .ok (.goto 4, 3) := by decide +kernel
theorem dX4_told_149 : decode cX4_told 149 = .ok (.iconst 0, 1) := by decide +kernel
theorem dX4_told_150 : decode cX4_told 150 = .ok (.ireturn, 1) := by decide +kernel
theorem dX4_told_151 : decode cX4_told 151 = .ok (.iconst (-1), 1) := by decide +kernel
theorem dX4_told_152 : decode cX4_told 152 = .ok (.ireturn, 1) := by decide +kernel
theorem dX4_stream_0 : decode cX4_stream 0 = .ok (.iload_n 1, 1) := by decide +kernel
theorem dX4_stream_1 : decode cX4_stream 1 = .ok (.invokestatic 76, 3) := by decide +kernel
theorem dX4_stream_4 : decode cX4_stream 4 = .ok (.ifCond .eq 13, 3) := by decide +kernel
theorem dX4_stream_7 : decode cX4_stream 7 = .ok (.iload_n 2, 1) := by decide +kernel
theorem dX4_stream_8 : decode cX4_stream 8 = .ok (.iconst 0, 1) := by decide +kernel
theorem dX4_stream_9 : decode cX4_stream 9 = .ok (.bipush 7, 2) := by decide +kernel
theorem dX4_stream_11 : decode cX4_stream 11 = .ok (.invokestatic 35, 3) := by decide +kernel
theorem dX4_stream_14 : decode cX4_stream 14 = .ok (.ifCond .ne 5, 3) := by decide +kernel
theorem dX4_stream_17 : decode cX4_stream 17 = .ok (.iconst (-1), 1) := by decide +kernel
theorem dX4_stream_18 : decode cX4_stream 18 = .ok (.ireturn, 1) := by decide +kernel
theorem dX4_stream_19 : decode cX4_stream 19 = .ok (.iload_n 2, 1) := by decide +kernel
theorem dX4_stream_20 : decode cX4_stream 20 = .ok (.tableswitch 81 0 4 #[36, 45, 55, 65, 75], 36) := by decide +kernel
theorem dX4_stream_56 : decode cX4_stream 56 = .ok (.aload_n 0, 1) := by decide +kernel
theorem dX4_stream_57 : decode cX4_stream 57 = .ok (.getfield 7, 3) := by decide +kernel
theorem dX4_stream_60 : decode cX4_stream 60 = .ok (.iconst 0, 1) := by decide +kernel
theorem dX4_stream_61 : decode cX4_stream 61 = .ok (.iload_n 1, 1) := by decide +kernel
theorem dX4_stream_62 : decode cX4_stream 62 = .ok (.iadd, 1) := by decide +kernel
theorem dX4_stream_63 : decode cX4_stream 63 = .ok (.iaload, 1) := by decide +kernel
theorem dX4_stream_64 : decode cX4_stream 64 = .ok (.ireturn, 1) := by decide +kernel
theorem dX4_stream_65 : decode cX4_stream 65 = .ok (.aload_n 0, 1) := by decide +kernel
theorem dX4_stream_66 : decode cX4_stream 66 = .ok (.getfield 7, 3) := by decide +kernel
theorem dX4_stream_69 : decode cX4_stream 69 = .ok (.bipush 8, 2) := by decide +kernel
theorem dX4_stream_71 : decode cX4_stream 71 = .ok (.iload_n 1, 1) := by decide +kernel
theorem dX4_stream_72 : decode cX4_stream 72 = .ok (.iadd, 1) := by decide +kernel
theorem dX4_stream_73 : decode cX4_stream 73 = .ok (.iaload, 1) := by decide +kernel
theorem dX4_stream_74 : decode cX4_stream 74 = .ok (.ireturn, 1) := by decide +kernel
theorem dX4_stream_75 : decode cX4_stream 75 = .ok (.aload_n 0, 1) := by decide +kernel
theorem dX4_stream_76 : decode cX4_stream 76 = .ok (.getfield 7, 3) := by decide +kernel
theorem dX4_stream_79 : decode cX4_stream 79 = .ok (.bipush 16, 2) := by decide +kernel
theorem dX4_stream_81 : decode cX4_stream 81 = .ok (.iload_n 1, 1) := by decide +kernel
theorem dX4_stream_82 : decode cX4_stream 82 = .ok (.iadd, 1) := by decide +kernel
theorem dX4_stream_83 : decode cX4_stream 83 = .ok (.iaload, 1) := by decide +kernel
theorem dX4_stream_84 : decode cX4_stream 84 = .ok (.ireturn, 1) := by decide +kernel
theorem dX4_stream_85 : decode cX4_stream 85 = .ok (.aload_n 0, 1) := by decide +kernel
theorem dX4_stream_86 : decode cX4_stream 86 = .ok (.getfield 7, 3) := by decide +kernel
theorem dX4_stream_89 : decode cX4_stream 89 = .ok (.bipush 24, 2) := by decide +kernel
theorem dX4_stream_91 : decode cX4_stream 91 = .ok (.iload_n 1, 1) := by decide +kernel
theorem dX4_stream_92 : decode cX4_stream 92 = .ok (.iadd, 1) := by decide +kernel
theorem dX4_stream_93 : decode cX4_stream 93 = .ok (.iaload, 1) := by decide +kernel
theorem dX4_stream_94 : decode cX4_stream 94 = .ok (.ireturn, 1) := by decide +kernel
theorem dX4_stream_95 : decode cX4_stream 95 = .ok (.aload_n 0, 1) := by decide +kernel
theorem dX4_stream_96 : decode cX4_stream 96 = .ok (.iload_n 1, 1) := by decide +kernel
theorem dX4_stream_97 : decode cX4_stream 97 = .ok (.invokevirtual 97, 3) := by decide +kernel
theorem dX4_stream_100 : decode cX4_stream 100 = .ok (.ireturn, 1) := by decide +kernel
theorem dX4_stream_101 : decode cX4_stream 101 = .ok (.aload_n 0, 1) := by decide +kernel
theorem dX4_stream_102 : decode cX4_stream 102 = .ok (.getfield 7, 3) := by decide +kernel
theorem dX4_stream_105 : decode cX4_stream 105 = .ok (.bipush 24, 2) := by decide +kernel
theorem dX4_stream_107 : decode cX4_stream 107 = .ok (.iload_n 1, 1) := by decide +kernel
theorem dX4_stream_108 : decode cX4_stream 108 = .ok (.iadd, 1) := by decide +kernel
theorem dX4_stream_109 : decode cX4_stream 109 = .ok (.iaload, 1) := by decide +kernel
theorem dX4_stream_110 : decode cX4_stream 110 = .ok (.ifCond .ne 8, 3) := by decide +kernel
theorem dX4_stream_113 : decode cX4_stream 113 = .ok (.bipush (-9), 2) := by decide +kernel
theorem dX4_stream_115 : decode cX4_stream 115 = .ok (.goto 49, 3) := by decide +kernel
theorem dX4_stream_118 : decode cX4_stream 118 = .ok (.iload_n 2, 1) := by decide +kernel
theorem dX4_stream_119 : decode cX4_stream 119 = .ok (.iconst 5, 1) := by decide +kernel
theorem dX4_stream_120 : decode cX4_stream 120 = .ok (.if_icmp .ne 19, 3) := by decide +kernel
theorem dX4_stream_123 : decode cX4_stream 123 = .ok (.aload_n 0, 1) := by decide +kernel
theorem dX4_stream_124 : decode cX4_stream 124 = .ok (.iload_n 1, 1) := by decide +kernel
theorem dX4_stream_125 : decode cX4_stream 125 = .ok (.invokevirtual 65, 3) := by decide +kernel
theorem dX4_stream_128 : decode cX4_stream 128 = .ok (.ifCond .eq 7, 3) := by decide +kernel
theorem dX4_stream_131 : decode cX4_stream 131 = .ok (.iconst 1, 1) := by decide +kernel
theorem dX4_stream_132 : decode cX4_stream 132 = .ok (.goto 32, 3) := by decide +kernel
theorem dX4_stream_135 : decode cX4_stream 135 = .ok (.iconst 0, 1) := by decide +kernel
theorem dX4_stream_136 : decode cX4_stream 136 = .ok (.goto 28, 3) := by decide +kernel
theorem dX4_stream_139 : decode cX4_stream 139 = .ok (.iload_n 2, 1) := by decide +kernel
theorem dX4_stream_140 : decode cX4_stream 140 = .ok (.bipush 6, 2) := by decide +kernel
theorem dX4_stream_142 : decode cX4_stream 142 = .ok (.if_icmp .ne 11, 3) := by decide +kernel
theorem dX4_stream_145 : decode cX4_stream 145 = .ok (.aload_n 0, 1) := by decide +kernel
theorem dX4_stream_146 : decode cX4_stream 146 = .ok (.iload_n 1, 1) := by decide +kernel
theorem dX4_stream_147 : decode cX4_stream 147 = .ok (.invokevirtual 62, 3) := by decide +kernel
theorem dX4_stream_150 : decode cX4_stream 150 = .ok (.goto 14, 3) := by decide +kernel
theorem dX4_stream_153 : decode cX4_stream 153 = .ok (.aload_n 0, 1) := by decide +kernel
theorem dX4_stream_154 : decode cX4_stream 154 = .ok (.aload_n 0, 1) := by decide +kernel
theorem dX4_stream_155 : decode cX4_stream 155 = .ok (.iload_n 1, 1) := by decide +kernel
theorem dX4_stream_156 : decode cX4_stream 156 = .ok (.iconst 0, 1) := by decide +kernel
theorem dX4_stream_157 : decode cX4_stream 157 = .ok (.iconst 0, 1) := by decide +kernel
theorem dX4_stream_158 : decode cX4_stream 158 = .ok (.invokevirtual 51, 3) := by decide +kernel
theorem dX4_stream_161 : decode cX4_stream 161 = .ok (.invokevirtual 110, 3) := by decide +kernel
theorem dX4_stream_164 : decode cX4_stream 164 = .ok (.ireturn, 1) := by decide +kernel
theorem dX4_frame_0 : decode cX4_frame 0 = .ok (.iload_n 1, 1) := by decide +kernel
theorem dX4_frame_1 : decode cX4_frame 1 = .ok (.invokestatic 76, 3) := by decide +kernel
theorem dX4_frame_4 : decode cX4_frame 4 = .ok (.ifCond .eq 16, 3) := by decide +kernel
theorem dX4_frame_7 : decode cX4_frame 7 = .ok (.iload_n 2, 1) := by decide +kernel
theorem dX4_frame_8 : decode cX4_frame 8 = .ok (.ifCond .lt 12, 3) := by decide +kernel
theorem dX4_frame_11 : decode cX4_frame 11 = .ok (.iload_n 3, 1) := by decide +kernel
theorem dX4_frame_12 : decode cX4_frame 12 = .ok (.iconst 0, 1) := by decide +kernel
theorem dX4_frame_13 : decode cX4_frame 13 = .ok (.iconst 3, 1) := by decide +kernel
theorem dX4_frame_14 : decode cX4_frame 14 = .ok (.invokestatic 35, 3) := by decide +kernel
theorem dX4_frame_17 : decode cX4_frame 17 = .ok (.ifCond .ne 5, 3) := by decide +kernel
theorem dX4_frame_20 : decode cX4_frame 20 = .ok (.iconst (-1), 1) := by decide +kernel
theorem dX4_frame_21 : decode cX4_frame 21 = .ok (.ireturn, 1) := by decide +kernel
theorem dX4_frame_22 : decode cX4_frame 22 = .ok (.iload_n 2, 1) := by decide +kernel
theorem dX4_frame_23 : decode cX4_frame 23 = .ok (.aload_n 0, 1) := by decide +kernel
theorem dX4_frame_24 : decode cX4_frame 24 = .ok (.getfield 7, 3) := by decide +kernel
theorem dX4_frame_27 : decode cX4_frame 27 = .ok (.bipush 24, 2) := by decide +kernel
theorem dX4_frame_29 : decode cX4_frame 29 = .ok (.iload_n 1, 1) := by decide +kernel
theorem dX4_frame_30 : decode cX4_frame 30 = .ok (.iadd, 1) := by decide +kernel
theorem dX4_frame_31 : decode cX4_frame 31 = .ok (.iaload, 1) := by decide +kernel
theorem dX4_frame_32 : decode cX4_frame 32 = .ok (.if_icmp .lt 6, 3) := by decide +kernel
theorem dX4_frame_35 : decode cX4_frame 35 = .ok (.bipush (-9), 2) := by decide +kernel
theorem dX4_frame_37 : decode cX4_frame 37 = .ok (.ireturn, 1) := by decide +kernel
theorem dX4_frame_38 : decode cX4_frame 38 = .ok (.iload_n 3, 1) := by decide +kernel
theorem dX4_frame_39 : decode cX4_frame 39 = .ok (.iconst 3, 1) := by decide +kernel
theorem dX4_frame_40 : decode cX4_frame 40 = .ok (.if_icmp .ge 13, 3) := by decide +kernel
theorem dX4_frame_43 : decode cX4_frame 43 = .ok (.aload_n 0, 1) := by decide +kernel
theorem dX4_frame_44 : decode cX4_frame 44 = .ok (.iload_n 1, 1) := by decide +kernel
theorem dX4_frame_45 : decode cX4_frame 45 = .ok (.iload_n 2, 1) := by decide +kernel
theorem dX4_frame_46 : decode cX4_frame 46 = .ok (.iload_n 3, 1) := by decide +kernel
theorem dX4_frame_47 : decode cX4_frame 47 = .ok (.invokevirtual 51, 3) := by decide +kernel
theorem dX4_frame_50 : decode cX4_frame 50 = .ok (.goto 14, 3) := by decide +kernel
theorem dX4_frame_53 : decode cX4_frame 53 = .ok (.aload_n 0, 1) := by decide +kernel
theorem dX4_frame_54 : decode cX4_frame 54 = .ok (.aload_n 0, 1) := by decide +kernel
theorem dX4_frame_55 : decode cX4_frame 55 = .ok (.iload_n 1, 1) := by decide +kernel
theorem dX4_frame_56 : decode cX4_frame 56 = .ok (.iload_n 2, 1) := by decide +kernel
theorem dX4_frame_57 : decode cX4_frame 57 = .ok (.iconst 0, 1) := by decide +kernel
theorem dX4_frame_58 : decode cX4_frame 58 = .ok (.invokevirtual 51, 3) := by decide +kernel
theorem dX4_frame_61 : decode cX4_frame 61 = .ok (.invokevirtual 110, 3) := by decide +kernel
theorem dX4_frame_64 : decode cX4_frame 64 = .ok (.ireturn, 1) := by decide +kernel
theorem dX4_log_0 : decode cX4_log 0 = .ok (.iload_n 1, 1) := by decide +kernel
theorem dX4_log_1 : decode cX4_log 1 = .ok (.iconst 0, 1) := by decide +kernel
theorem dX4_log_2 : decode cX4_log 2 = .ok (.aload_n 0, 1) := by decide +kernel
theorem dX4_log_3 : decode cX4_log 3 = .ok (.getfield 7, 3) := by decide +kernel
theorem dX4_log_6 : decode cX4_log 6 = .ok (.sipush 267, 3) := by decide +kernel
theorem dX4_log_9 : decode cX4_log 9 = .ok (.iaload, 1) := by decide +kernel
theorem dX4_log_10 : decode cX4_log 10 = .ok (.iconst 1, 1) := by decide +kernel
theorem dX4_log_11 : decode cX4_log 11 = .ok (.isub, 1) := by decide +kernel
theorem dX4_log_12 : decode cX4_log 12 = .ok (.invokestatic 35, 3) := by decide +kernel
theorem dX4_log_15 : decode cX4_log 15 = .ok (.ifCond .eq 29, 3) := by decide +kernel
theorem dX4_log_18 : decode cX4_log 18 = .ok (.iload_n 2, 1) := by decide +kernel
theorem dX4_log_19 : decode cX4_log 19 = .ok (.iconst 0, 1) := by decide +kernel
theorem dX4_log_20 : decode cX4_log 20 = .ok (.iconst 3, 1) := by decide +kernel
theorem dX4_log_21 : decode cX4_log 21 = .ok (.invokestatic 35, 3) := by decide +kernel
theorem dX4_log_24 : decode cX4_log 24 = .ok (.ifCond .eq 20, 3) := by decide +kernel
theorem dX4_log_27 : decode cX4_log 27 = .ok (.aload_n 0, 1) := by decide +kernel
theorem dX4_log_28 : decode cX4_log 28 = .ok (.getfield 7, 3) := by decide +kernel
theorem dX4_log_31 : decode cX4_log 31 = .ok (.sipush 268, 3) := by decide +kernel
theorem dX4_log_34 : decode cX4_log 34 = .ok (.iconst 4, 1) := by decide +kernel
theorem dX4_log_35 : decode cX4_log 35 = .ok (.iload_n 1, 1) := by decide +kernel
theorem dX4_log_36 : decode cX4_log 36 = .ok (.imul, 1) := by decide +kernel
theorem dX4_log_37 : decode cX4_log 37 = .ok (.iadd, 1) := by decide +kernel
theorem dX4_log_38 : decode cX4_log 38 = .ok (.iload_n 2, 1) := by decide +kernel
theorem dX4_log_39 : decode cX4_log 39 = .ok (.iadd, 1) := by decide +kernel
theorem dX4_log_40 : decode cX4_log 40 = .ok (.iaload, 1) := by decide +kernel
theorem dX4_log_41 : decode cX4_log 41 = .ok (.goto 4, 3) := by decide +kernel
theorem dX4_log_44 : decode cX4_log 44 = .ok (.iconst (-1), 1) := by decide +kernel
theorem dX4_log_45 : decode cX4_log 45 = .ok (.ireturn, 1) := by decide +kernel
theorem dX4_relation_0 : decode cX4_relation 0 = .ok (.aload_n 0, 1) := by decide +kernel
theorem dX4_relation_1 : decode cX4_relation 1 = .ok (.iload_n 1, 1) := by decide +kernel
theorem dX4_relation_2 : decode cX4_relation 2 = .ok (.invokevirtual 113, 3) := by decide +kernel
theorem dX4_relation_5 : decode cX4_relation 5 = .ok (.ifCond .eq 22, 3) := by decide +kernel
theorem dX4_relation_8 : decode cX4_relation 8 = .ok (.iload_n 2, 1) := by decide +kernel
theorem dX4_relation_9 : decode cX4_relation 9 = .ok (.invokestatic 76, 3) := by decide +kernel
theorem dX4_relation_12 : decode cX4_relation 12 = .ok (.ifCond .eq 15, 3) := by decide +kernel
theorem dX4_relation_15 : decode cX4_relation 15 = .ok (.iload_n 3, 1) := by decide +kernel
theorem dX4_relation_16 : decode cX4_relation 16 = .ok (.invokestatic 76, 3) := by decide +kernel
theorem dX4_relation_19 : decode cX4_relation 19 = .ok (.ifCond .eq 8, 3) := by decide +kernel
theorem dX4_relation_22 : decode cX4_relation 22 = .ok (.iload_n 2, 1) := by decide +kernel
theorem dX4_relation_23 : decode cX4_relation 23 = .ok (.iload_n 3, 1) := by decide +kernel
theorem dX4_relation_24 : decode cX4_relation 24 = .ok (.if_icmp .ne 5, 3) := by decide +kernel
theorem dX4_relation_27 : decode cX4_relation 27 = .ok (.iconst (-1), 1) := by decide +kernel
theorem dX4_relation_28 : decode cX4_relation 28 = .ok (.ireturn, 1) := by decide +kernel
theorem dX4_relation_29 : decode cX4_relation 29 = .ok (.iload_n 1, 1) := by decide +kernel
theorem dX4_relation_30 : decode cX4_relation 30 = .ok (.invokestatic 55, 3) := by decide +kernel
theorem dX4_relation_33 : decode cX4_relation 33 = .ok (.istore 4, 2) := by decide +kernel
theorem dX4_relation_35 : decode cX4_relation 35 = .ok (.aload_n 0, 1) := by decide +kernel
theorem dX4_relation_36 : decode cX4_relation 36 = .ok (.iload 4, 2) := by decide +kernel
theorem dX4_relation_38 : decode cX4_relation 38 = .ok (.invokevirtual 58, 3) := by decide +kernel
theorem dX4_relation_41 : decode cX4_relation 41 = .ok (.aload_n 0, 1) := by decide +kernel
theorem dX4_relation_42 : decode cX4_relation 42 = .ok (.getfield 19, 3) := by decide +kernel
theorem dX4_relation_45 : decode cX4_relation 45 = .ok (.iload_n 2, 1) := by decide +kernel
theorem dX4_relation_46 : decode cX4_relation 46 = .ok (.iaload, 1) := by decide +kernel
theorem dX4_relation_47 : decode cX4_relation 47 = .ok (.iload_n 3, 1) := by decide +kernel
theorem dX4_relation_48 : decode cX4_relation 48 = .ok (.invokestatic 43, 3) := by decide +kernel
theorem dX4_relation_51 : decode cX4_relation 51 = .ok (.ifCond .eq 25, 3) := by decide +kernel
theorem dX4_relation_54 : decode cX4_relation 54 = .ok (.aload_n 0, 1) := by decide +kernel
theorem dX4_relation_55 : decode cX4_relation 55 = .ok (.getfield 7, 3) := by decide +kernel
theorem dX4_relation_58 : decode cX4_relation 58 = .ok (.iload 4, 2) := by decide +kernel
theorem dX4_relation_60 : decode cX4_relation 60 = .ok (.iload_n 2, 1) := by decide +kernel
theorem dX4_relation_61 : decode cX4_relation 61 = .ok (.iadd, 1) := by decide +kernel
theorem dX4_relation_62 : decode cX4_relation 62 = .ok (.iaload, 1) := by decide +kernel
theorem dX4_relation_63 : decode cX4_relation 63 = .ok (.iload_n 3, 1) := by decide +kernel
theorem dX4_relation_64 : decode cX4_relation 64 = .ok (.invokestatic 43, 3) := by decide +kernel
theorem dX4_relation_67 : decode cX4_relation 67 = .ok (.ifCond .eq 7, 3) := by decide +kernel
theorem dX4_relation_70 : decode cX4_relation 70 = .ok (.iconst 1, 1) := by decide +kernel
theorem dX4_relation_71 : decode cX4_relation 71 = .ok (.goto 4, 3) := by decide +kernel
theorem dX4_relation_74 : decode cX4_relation 74 = .ok (.iconst 2, 1) := by decide +kernel
theorem dX4_relation_75 : decode cX4_relation 75 = .ok (.ireturn, 1) := by decide +kernel
theorem dX4_relation_76 : decode cX4_relation 76 = .ok (.aload_n 0, 1) := by decide +kernel
theorem dX4_relation_77 : decode cX4_relation 77 = .ok (.getfield 19, 3) := by decide +kernel
theorem dX4_relation_80 : decode cX4_relation 80 = .ok (.iload_n 3, 1) := by decide +kernel
theorem dX4_relation_81 : decode cX4_relation 81 = .ok (.iaload, 1) := by decide +kernel
theorem dX4_relation_82 : decode cX4_relation 82 = .ok (.iload_n 2, 1) := by decide +kernel
theorem dX4_relation_83 : decode cX4_relation 83 = .ok (.invokestatic 43, 3) := by decide +kernel
theorem dX4_relation_86 : decode cX4_relation 86 = .ok (.ifCond .ne 7, 3) := by decide +kernel
theorem dX4_relation_89 : decode cX4_relation 89 = .ok (.iconst 0, 1) := by decide +kernel
theorem dX4_relation_90 : decode cX4_relation 90 = .ok (.goto 24, 3) := by decide +kernel
theorem dX4_relation_93 : decode cX4_relation 93 = .ok (.aload_n 0, 1) := by decide +kernel
theorem dX4_relation_94 : decode cX4_relation 94 = .ok (.getfield 7, 3) := by decide +kernel
theorem dX4_relation_97 : decode cX4_relation 97 = .ok (.iload 4, 2) := by decide +kernel
theorem dX4_relation_99 : decode cX4_relation 99 = .ok (.iload_n 3, 1) := by decide +kernel
theorem dX4_relation_100 : decode cX4_relation 100 = .ok (.iadd, 1) := by decide +kernel
theorem dX4_relation_101 : decode cX4_relation 101 = .ok (.iaload, 1) := by decide +kernel
theorem dX4_relation_102 : decode cX4_relation 102 = .ok (.iload_n 2, 1) := by decide +kernel
theorem dX4_relation_103 : decode cX4_relation 103 = .ok (.invokestatic 43, 3) := by decide +kernel
theorem dX4_relation_106 : decode cX4_relation 106 = .ok (.ifCond .eq 7, 3) := by decide +kernel
theorem dX4_relation_109 : decode cX4_relation 109 = .ok (.iconst 3, 1) := by decide +kernel
theorem dX4_relation_110 : decode cX4_relation 110 = .ok (.goto 4, 3) := by decide +kernel
theorem dX4_relation_113 : decode cX4_relation 113 = .ok (.iconst 4, 1) := by decide +kernel
theorem dX4_relation_114 : decode cX4_relation 114 = .ok (.ireturn, 1) := by decide +kernel
theorem dX4_openSet_0 : decode cX4_openSet 0 = .ok (.iconst 0, 1) := by decide +kernel
theorem dX4_openSet_1 : decode cX4_openSet 1 = .ok (.istore_n 1, 1) := by decide +kernel
theorem dX4_openSet_2 : decode cX4_openSet 2 = .ok (.iconst 0, 1) := by decide +kernel
theorem dX4_openSet_3 : decode cX4_openSet 3 = .ok (.istore_n 2, 1) := by decide +kernel
theorem dX4_openSet_4 : decode cX4_openSet 4 = .ok (.iload_n 2, 1) := by decide +kernel
theorem dX4_openSet_5 : decode cX4_openSet 5 = .ok (.bipush 8, 2) := by decide +kernel
theorem dX4_openSet_7 : decode cX4_openSet 7 = .ok (.if_icmp .ge 22, 3) := by decide +kernel
theorem dX4_openSet_10 : decode cX4_openSet 10 = .ok (.iload_n 1, 1) := by decide +kernel
theorem dX4_openSet_11 : decode cX4_openSet 11 = .ok (.aload_n 0, 1) := by decide +kernel
theorem dX4_openSet_12 : decode cX4_openSet 12 = .ok (.getfield 7, 3) := by decide +kernel
theorem dX4_openSet_15 : decode cX4_openSet 15 = .ok (.iconst 0, 1) := by decide +kernel
theorem dX4_openSet_16 : decode cX4_openSet 16 = .ok (.iload_n 2, 1) := by decide +kernel
theorem dX4_openSet_17 : decode cX4_openSet 17 = .ok (.iadd, 1) := by decide +kernel
theorem dX4_openSet_18 : decode cX4_openSet 18 = .ok (.iaload, 1) := by decide +kernel
theorem dX4_openSet_19 : decode cX4_openSet 19 = .ok (.iload_n 2, 1) := by decide +kernel
theorem dX4_openSet_20 : decode cX4_openSet 20 = .ok (.ishl, 1) := by decide +kernel
theorem dX4_openSet_21 : decode cX4_openSet 21 = .ok (.ior, 1) := by decide +kernel
theorem dX4_openSet_22 : decode cX4_openSet 22 = .ok (.istore_n 1, 1) := by decide +kernel
theorem dX4_openSet_23 : decode cX4_openSet 23 = .ok (.iinc 2 1, 3) := by decide +kernel
theorem dX4_openSet_26 : decode cX4_openSet 26 = .ok (.goto (-22), 3) := by decide +kernel
theorem dX4_openSet_29 : decode cX4_openSet 29 = .ok (.iload_n 1, 1) := by decide +kernel
theorem dX4_openSet_30 : decode cX4_openSet 30 = .ok (.ireturn, 1) := by decide +kernel
theorem dX4_pairs_0 : decode cX4_pairs 0 = .ok (.iconst 0, 1) := by decide +kernel
theorem dX4_pairs_1 : decode cX4_pairs 1 = .ok (.istore_n 2, 1) := by decide +kernel
theorem dX4_pairs_2 : decode cX4_pairs 2 = .ok (.iconst 0, 1) := by decide +kernel
theorem dX4_pairs_3 : decode cX4_pairs 3 = .ok (.istore_n 3, 1) := by decide +kernel
theorem dX4_pairs_4 : decode cX4_pairs 4 = .ok (.iload_n 3, 1) := by decide +kernel
theorem dX4_pairs_5 : decode cX4_pairs 5 = .ok (.bipush 8, 2) := by decide +kernel
theorem dX4_pairs_7 : decode cX4_pairs 7 = .ok (.if_icmp .ge 35, 3) := by decide +kernel
theorem dX4_pairs_10 : decode cX4_pairs 10 = .ok (.iload_n 2, 1) := by decide +kernel
theorem dX4_pairs_11 : decode cX4_pairs 11 = .ok (.iload_n 1, 1) := by decide +kernel
theorem dX4_pairs_12 : decode cX4_pairs 12 = .ok (.iload_n 3, 1) := by decide +kernel
theorem dX4_pairs_13 : decode cX4_pairs 13 = .ok (.invokestatic 43, 3) := by decide +kernel
theorem dX4_pairs_16 : decode cX4_pairs 16 = .ok (.ifCond .eq 17, 3) := by decide +kernel
theorem dX4_pairs_19 : decode cX4_pairs 19 = .ok (.aload_n 0, 1) := by decide +kernel
theorem dX4_pairs_20 : decode cX4_pairs 20 = .ok (.getfield 19, 3) := by decide +kernel
theorem dX4_pairs_23 : decode cX4_pairs 23 = .ok (.iload_n 3, 1) := by decide +kernel
theorem dX4_pairs_24 : decode cX4_pairs 24 = .ok (.iaload, 1) := by decide +kernel
theorem dX4_pairs_25 : decode cX4_pairs 25 = .ok (.iload_n 1, 1) := by decide +kernel
theorem dX4_pairs_26 : decode cX4_pairs 26 = .ok (.iand, 1) := by decide +kernel
theorem dX4_pairs_27 : decode cX4_pairs 27 = .ok (.invokestatic 47, 3) := by decide +kernel
theorem dX4_pairs_30 : decode cX4_pairs 30 = .ok (.goto 4, 3) := by decide +kernel
theorem dX4_pairs_33 : decode cX4_pairs 33 = .ok (.iconst 0, 1) := by decide +kernel
theorem dX4_pairs_34 : decode cX4_pairs 34 = .ok (.iadd, 1) := by decide +kernel
theorem dX4_pairs_35 : decode cX4_pairs 35 = .ok (.istore_n 2, 1) := by decide +kernel
theorem dX4_pairs_36 : decode cX4_pairs 36 = .ok (.iinc 3 1, 3) := by decide +kernel
theorem dX4_pairs_39 : decode cX4_pairs 39 = .ok (.goto (-35), 3) := by decide +kernel
theorem dX4_pairs_42 : decode cX4_pairs 42 = .ok (.iload_n 2, 1) := by decide +kernel
theorem dX4_pairs_43 : decode cX4_pairs 43 = .ok (.ireturn, 1) := by decide +kernel
theorem dX4_longest_0 : decode cX4_longest 0 = .ok (.iconst 0, 1) := by decide +kernel
theorem dX4_longest_1 : decode cX4_longest 1 = .ok (.istore_n 2, 1) := by decide +kernel
theorem dX4_longest_2 : decode cX4_longest 2 = .ok (.iconst 0, 1) := by decide +kernel
theorem dX4_longest_3 : decode cX4_longest 3 = .ok (.istore_n 3, 1) := by decide +kernel
theorem dX4_longest_4 : decode cX4_longest 4 = .ok (.iload_n 3, 1) := by decide +kernel
theorem dX4_longest_5 : decode cX4_longest 5 = .ok (.bipush 8, 2) := by decide +kernel
theorem dX4_longest_7 : decode cX4_longest 7 = .ok (.if_icmp .ge 142, 3) := by decide +kernel
theorem dX4_longest_10 : decode cX4_longest 10 = .ok (.iconst 0, 1) := by decide +kernel
theorem dX4_longest_11 : decode cX4_longest 11 = .ok (.istore 4, 2) := by decide +kernel
theorem dX4_longest_13 : decode cX4_longest 13 = .ok (.iload 4, 2) := by decide +kernel
theorem dX4_longest_15 : decode cX4_longest 15 = .ok (.bipush 8, 2) := by decide +kernel
theorem dX4_longest_17 : decode cX4_longest 17 = .ok (.if_icmp .ge 126, 3) := by decide +kernel
theorem dX4_longest_20 : decode cX4_longest 20 = .ok (.iload_n 1, 1) := by decide +kernel
theorem dX4_longest_21 : decode cX4_longest 21 = .ok (.iload 4, 2) := by decide +kernel
theorem dX4_longest_23 : decode cX4_longest 23 = .ok (.invokestatic 43, 3) := by decide +kernel
theorem dX4_longest_26 : decode cX4_longest 26 = .ok (.ifCond .eq 7, 3) := by decide +kernel
theorem dX4_longest_29 : decode cX4_longest 29 = .ok (.iconst 1, 1) := by decide +kernel
theorem dX4_longest_30 : decode cX4_longest 30 = .ok (.goto 4, 3) := by decide +kernel
theorem dX4_longest_33 : decode cX4_longest 33 = .ok (.iconst 0, 1) := by decide +kernel
theorem dX4_longest_34 : decode cX4_longest 34 = .ok (.istore 5, 2) := by decide +kernel
theorem dX4_longest_36 : decode cX4_longest 36 = .ok (.iconst 0, 1) := by decide +kernel
theorem dX4_longest_37 : decode cX4_longest 37 = .ok (.istore 6, 2) := by decide +kernel
theorem dX4_longest_39 : decode cX4_longest 39 = .ok (.iload 6, 2) := by decide +kernel
theorem dX4_longest_41 : decode cX4_longest 41 = .ok (.bipush 8, 2) := by decide +kernel
theorem dX4_longest_43 : decode cX4_longest 43 = .ok (.if_icmp .ge 72, 3) := by decide +kernel
theorem dX4_longest_46 : decode cX4_longest 46 = .ok (.iload 5, 2) := by decide +kernel
theorem dX4_longest_48 : decode cX4_longest 48 = .ok (.ifCond .le 67, 3) := by decide +kernel
theorem dX4_longest_51 : decode cX4_longest 51 = .ok (.iload_n 3, 1) := by decide +kernel
theorem dX4_longest_52 : decode cX4_longest 52 = .ok (.ifCond .le 53, 3) := by decide +kernel
theorem dX4_longest_55 : decode cX4_longest 55 = .ok (.iload_n 1, 1) := by decide +kernel
theorem dX4_longest_56 : decode cX4_longest 56 = .ok (.iload 6, 2) := by decide +kernel
theorem dX4_longest_58 : decode cX4_longest 58 = .ok (.invokestatic 43, 3) := by decide +kernel
theorem dX4_longest_61 : decode cX4_longest 61 = .ok (.ifCond .eq 44, 3) := by decide +kernel
theorem dX4_longest_64 : decode cX4_longest 64 = .ok (.aload_n 0, 1) := by decide +kernel
theorem dX4_longest_65 : decode cX4_longest 65 = .ok (.getfield 19, 3) := by decide +kernel
theorem dX4_longest_68 : decode cX4_longest 68 = .ok (.iload 6, 2) := by decide +kernel
theorem dX4_longest_70 : decode cX4_longest 70 = .ok (.iaload, 1) := by decide +kernel
theorem dX4_longest_71 : decode cX4_longest 71 = .ok (.iload 4, 2) := by decide +kernel
theorem dX4_longest_73 : decode cX4_longest 73 = .ok (.invokestatic 43, 3) := by decide +kernel
theorem dX4_longest_76 : decode cX4_longest 76 = .ok (.ifCond .eq 29, 3) := by decide +kernel
theorem dX4_longest_79 : decode cX4_longest 79 = .ok (.aload_n 0, 1) := by decide +kernel
theorem dX4_longest_80 : decode cX4_longest 80 = .ok (.getfield 28, 3) := by decide +kernel
theorem dX4_longest_83 : decode cX4_longest 83 = .ok (.iload 6, 2) := by decide +kernel
theorem dX4_longest_85 : decode cX4_longest 85 = .ok (.iaload, 1) := by decide +kernel
theorem dX4_longest_86 : decode cX4_longest 86 = .ok (.iconst 1, 1) := by decide +kernel
theorem dX4_longest_87 : decode cX4_longest 87 = .ok (.iadd, 1) := by decide +kernel
theorem dX4_longest_88 : decode cX4_longest 88 = .ok (.iload 5, 2) := by decide +kernel
theorem dX4_longest_90 : decode cX4_longest 90 = .ok (.if_icmp .le 15, 3) := by decide +kernel
theorem dX4_longest_93 : decode cX4_longest 93 = .ok (.aload_n 0, 1) := by decide +kernel
theorem dX4_longest_94 : decode cX4_longest 94 = .ok (.getfield 28, 3) := by decide +kernel
theorem dX4_longest_97 : decode cX4_longest 97 = .ok (.iload 6, 2) := by decide +kernel
theorem dX4_longest_99 : decode cX4_longest 99 = .ok (.iaload, 1) := by decide +kernel
theorem dX4_longest_100 : decode cX4_longest 100 = .ok (.iconst 1, 1) := by decide +kernel
theorem dX4_longest_101 : decode cX4_longest 101 = .ok (.iadd, 1) := by decide +kernel
theorem dX4_longest_102 : decode cX4_longest 102 = .ok (.goto 5, 3) := by decide +kernel
theorem dX4_longest_105 : decode cX4_longest 105 = .ok (.iload 5, 2) := by decide +kernel
theorem dX4_longest_107 : decode cX4_longest 107 = .ok (.istore 5, 2) := by decide +kernel
theorem dX4_longest_109 : decode cX4_longest 109 = .ok (.iinc 6 1, 3) := by decide +kernel
theorem dX4_longest_112 : decode cX4_longest 112 = .ok (.goto (-73), 3) := by decide +kernel
theorem dX4_longest_115 : decode cX4_longest 115 = .ok (.aload_n 0, 1) := by decide +kernel
theorem dX4_longest_116 : decode cX4_longest 116 = .ok (.getfield 28, 3) := by decide +kernel
theorem dX4_longest_119 : decode cX4_longest 119 = .ok (.iload 4, 2) := by decide +kernel
theorem dX4_longest_121 : decode cX4_longest 121 = .ok (.iload 5, 2) := by decide +kernel
theorem dX4_longest_123 : decode cX4_longest 123 = .ok (.iastore, 1) := by decide +kernel
theorem dX4_longest_124 : decode cX4_longest 124 = .ok (.iload 5, 2) := by decide +kernel
theorem dX4_longest_126 : decode cX4_longest 126 = .ok (.iload_n 2, 1) := by decide +kernel
theorem dX4_longest_127 : decode cX4_longest 127 = .ok (.if_icmp .le 8, 3) := by decide +kernel
theorem dX4_longest_130 : decode cX4_longest 130 = .ok (.iload 5, 2) := by decide +kernel
theorem dX4_longest_132 : decode cX4_longest 132 = .ok (.goto 4, 3) := by decide +kernel
theorem dX4_longest_135 : decode cX4_longest 135 = .ok (.iload_n 2, 1) := by decide +kernel
theorem dX4_longest_136 : decode cX4_longest 136 = .ok (.istore_n 2, 1) := by decide +kernel
theorem dX4_longest_137 : decode cX4_longest 137 = .ok (.iinc 4 1, 3) := by decide +kernel
theorem dX4_longest_140 : decode cX4_longest 140 = .ok (.goto (-127), 3) := by decide +kernel
theorem dX4_longest_143 : decode cX4_longest 143 = .ok (.iinc 3 1, 3) := by decide +kernel
theorem dX4_longest_146 : decode cX4_longest 146 = .ok (.goto (-142), 3) := by decide +kernel
theorem dX4_longest_149 : decode cX4_longest 149 = .ok (.iload_n 2, 1) := by decide +kernel
theorem dX4_longest_150 : decode cX4_longest 150 = .ok (.ireturn, 1) := by decide +kernel
theorem dX4_widest_0 : decode cX4_widest 0 = .ok (.iconst 0, 1) := by decide +kernel
theorem dX4_widest_1 : decode cX4_widest 1 = .ok (.istore_n 2, 1) := by decide +kernel
theorem dX4_widest_2 : decode cX4_widest 2 = .ok (.iconst 0, 1) := by decide +kernel
theorem dX4_widest_3 : decode cX4_widest 3 = .ok (.istore_n 3, 1) := by decide +kernel
theorem dX4_widest_4 : decode cX4_widest 4 = .ok (.iload_n 3, 1) := by decide +kernel
theorem dX4_widest_5 : decode cX4_widest 5 = .ok (.sipush 256, 3) := by decide +kernel
theorem dX4_widest_8 : decode cX4_widest 8 = .ok (.if_icmp .ge 42, 3) := by decide +kernel
theorem dX4_widest_11 : decode cX4_widest 11 = .ok (.iload_n 3, 1) := by decide +kernel
theorem dX4_widest_12 : decode cX4_widest 12 = .ok (.iload_n 1, 1) := by decide +kernel
theorem dX4_widest_13 : decode cX4_widest 13 = .ok (.iconst (-1), 1) := by decide +kernel
theorem dX4_widest_14 : decode cX4_widest 14 = .ok (.ixor, 1) := by decide +kernel
theorem dX4_widest_15 : decode cX4_widest 15 = .ok (.iand, 1) := by decide +kernel
theorem dX4_widest_16 : decode cX4_widest 16 = .ok (.ifCond .ne 28, 3) := by decide +kernel
theorem dX4_widest_19 : decode cX4_widest 19 = .ok (.aload_n 0, 1) := by decide +kernel
theorem dX4_widest_20 : decode cX4_widest 20 = .ok (.iload_n 3, 1) := by decide +kernel
theorem dX4_widest_21 : decode cX4_widest 21 = .ok (.invokevirtual 116, 3) := by decide +kernel
theorem dX4_widest_24 : decode cX4_widest 24 = .ok (.ifCond .ne 20, 3) := by decide +kernel
theorem dX4_widest_27 : decode cX4_widest 27 = .ok (.iload_n 3, 1) := by decide +kernel
theorem dX4_widest_28 : decode cX4_widest 28 = .ok (.invokestatic 47, 3) := by decide +kernel
theorem dX4_widest_31 : decode cX4_widest 31 = .ok (.iload_n 2, 1) := by decide +kernel
theorem dX4_widest_32 : decode cX4_widest 32 = .ok (.if_icmp .le 10, 3) := by decide +kernel
theorem dX4_widest_35 : decode cX4_widest 35 = .ok (.iload_n 3, 1) := by decide +kernel
theorem dX4_widest_36 : decode cX4_widest 36 = .ok (.invokestatic 47, 3) := by decide +kernel
theorem dX4_widest_39 : decode cX4_widest 39 = .ok (.goto 4, 3) := by decide +kernel
theorem dX4_widest_42 : decode cX4_widest 42 = .ok (.iload_n 2, 1) := by decide +kernel
theorem dX4_widest_43 : decode cX4_widest 43 = .ok (.istore_n 2, 1) := by decide +kernel
theorem dX4_widest_44 : decode cX4_widest 44 = .ok (.iinc 3 1, 3) := by decide +kernel
theorem dX4_widest_47 : decode cX4_widest 47 = .ok (.goto (-43), 3) := by decide +kernel
theorem dX4_widest_50 : decode cX4_widest 50 = .ok (.iload_n 2, 1) := by decide +kernel
theorem dX4_widest_51 : decode cX4_widest 51 = .ok (.ireturn, 1) := by decide +kernel
theorem dX4_first_0 : decode cX4_first 0 = .ok (.iconst 0, 1) := by decide +kernel
theorem dX4_first_1 : decode cX4_first 1 = .ok (.istore_n 2, 1) := by decide +kernel
theorem dX4_first_2 : decode cX4_first 2 = .ok (.iconst 0, 1) := by decide +kernel
theorem dX4_first_3 : decode cX4_first 3 = .ok (.istore_n 3, 1) := by decide +kernel
theorem dX4_first_4 : decode cX4_first 4 = .ok (.iload_n 3, 1) := by decide +kernel
theorem dX4_first_5 : decode cX4_first 5 = .ok (.bipush 8, 2) := by decide +kernel
theorem dX4_first_7 : decode cX4_first 7 = .ok (.if_icmp .ge 30, 3) := by decide +kernel
theorem dX4_first_10 : decode cX4_first 10 = .ok (.iload_n 2, 1) := by decide +kernel
theorem dX4_first_11 : decode cX4_first 11 = .ok (.iload_n 1, 1) := by decide +kernel
theorem dX4_first_12 : decode cX4_first 12 = .ok (.iload_n 3, 1) := by decide +kernel
theorem dX4_first_13 : decode cX4_first 13 = .ok (.invokestatic 43, 3) := by decide +kernel
theorem dX4_first_16 : decode cX4_first 16 = .ok (.ifCond .eq 12, 3) := by decide +kernel
theorem dX4_first_19 : decode cX4_first 19 = .ok (.aload_n 0, 1) := by decide +kernel
theorem dX4_first_20 : decode cX4_first 20 = .ok (.getfield 19, 3) := by decide +kernel
theorem dX4_first_23 : decode cX4_first 23 = .ok (.iload_n 3, 1) := by decide +kernel
theorem dX4_first_24 : decode cX4_first 24 = .ok (.iaload, 1) := by decide +kernel
theorem dX4_first_25 : decode cX4_first 25 = .ok (.goto 4, 3) := by decide +kernel
theorem dX4_first_28 : decode cX4_first 28 = .ok (.iconst 0, 1) := by decide +kernel
theorem dX4_first_29 : decode cX4_first 29 = .ok (.ior, 1) := by decide +kernel
theorem dX4_first_30 : decode cX4_first 30 = .ok (.istore_n 2, 1) := by decide +kernel
theorem dX4_first_31 : decode cX4_first 31 = .ok (.iinc 3 1, 3) := by decide +kernel
theorem dX4_first_34 : decode cX4_first 34 = .ok (.goto (-30), 3) := by decide +kernel
theorem dX4_first_37 : decode cX4_first 37 = .ok (.iload_n 1, 1) := by decide +kernel
theorem dX4_first_38 : decode cX4_first 38 = .ok (.iload_n 2, 1) := by decide +kernel
theorem dX4_first_39 : decode cX4_first 39 = .ok (.iconst (-1), 1) := by decide +kernel
theorem dX4_first_40 : decode cX4_first 40 = .ok (.ixor, 1) := by decide +kernel
theorem dX4_first_41 : decode cX4_first 41 = .ok (.iand, 1) := by decide +kernel
theorem dX4_first_42 : decode cX4_first 42 = .ok (.invokestatic 47, 3) := by decide +kernel
theorem dX4_first_45 : decode cX4_first 45 = .ok (.ireturn, 1) := by decide +kernel
theorem dX4_superfluous_0 : decode cX4_superfluous 0 = .ok (.iconst 0, 1) := by decide +kernel
theorem dX4_superfluous_1 : decode cX4_superfluous 1 = .ok (.istore_n 2, 1) := by decide +kernel
theorem dX4_superfluous_2 : decode cX4_superfluous 2 = .ok (.iconst 0, 1) := by decide +kernel
theorem dX4_superfluous_3 : decode cX4_superfluous 3 = .ok (.istore_n 3, 1) := by decide +kernel
theorem dX4_superfluous_4 : decode cX4_superfluous 4 = .ok (.iload_n 3, 1) := by decide +kernel
theorem dX4_superfluous_5 : decode cX4_superfluous 5 = .ok (.bipush 8, 2) := by decide +kernel
theorem dX4_superfluous_7 : decode cX4_superfluous 7 = .ok (.if_icmp .ge 77, 3) := by decide +kernel
theorem dX4_superfluous_10 : decode cX4_superfluous 10 = .ok (.iconst 0, 1) := by decide +kernel
theorem dX4_superfluous_11 : decode cX4_superfluous 11 = .ok (.istore 4, 2) := by decide +kernel
theorem dX4_superfluous_13 : decode cX4_superfluous 13 = .ok (.iconst 0, 1) := by decide +kernel
theorem dX4_superfluous_14 : decode cX4_superfluous 14 = .ok (.istore 5, 2) := by decide +kernel
theorem dX4_superfluous_16 : decode cX4_superfluous 16 = .ok (.iload 5, 2) := by decide +kernel
theorem dX4_superfluous_18 : decode cX4_superfluous 18 = .ok (.bipush 8, 2) := by decide +kernel
theorem dX4_superfluous_20 : decode cX4_superfluous 20 = .ok (.if_icmp .ge 41, 3) := by decide +kernel
theorem dX4_superfluous_23 : decode cX4_superfluous 23 = .ok (.iload 4, 2) := by decide +kernel
theorem dX4_superfluous_25 : decode cX4_superfluous 25 = .ok (.aload_n 0, 1) := by decide +kernel
theorem dX4_superfluous_26 : decode cX4_superfluous 26 = .ok (.getfield 7, 3) := by decide +kernel
theorem dX4_superfluous_29 : decode cX4_superfluous 29 = .ok (.iload_n 1, 1) := by decide +kernel
theorem dX4_superfluous_30 : decode cX4_superfluous 30 = .ok (.iload_n 3, 1) := by decide +kernel
theorem dX4_superfluous_31 : decode cX4_superfluous 31 = .ok (.iadd, 1) := by decide +kernel
theorem dX4_superfluous_32 : decode cX4_superfluous 32 = .ok (.iaload, 1) := by decide +kernel
theorem dX4_superfluous_33 : decode cX4_superfluous 33 = .ok (.iload 5, 2) := by decide +kernel
theorem dX4_superfluous_35 : decode cX4_superfluous 35 = .ok (.invokestatic 43, 3) := by decide +kernel
theorem dX4_superfluous_38 : decode cX4_superfluous 38 = .ok (.ifCond .eq 13, 3) := by decide +kernel
theorem dX4_superfluous_41 : decode cX4_superfluous 41 = .ok (.aload_n 0, 1) := by decide +kernel
theorem dX4_superfluous_42 : decode cX4_superfluous 42 = .ok (.getfield 19, 3) := by decide +kernel
theorem dX4_superfluous_45 : decode cX4_superfluous 45 = .ok (.iload 5, 2) := by decide +kernel
theorem dX4_superfluous_47 : decode cX4_superfluous 47 = .ok (.iaload, 1) := by decide +kernel
theorem dX4_superfluous_48 : decode cX4_superfluous 48 = .ok (.goto 4, 3) := by decide +kernel
theorem dX4_superfluous_51 : decode cX4_superfluous 51 = .ok (.iconst 0, 1) := by decide +kernel
theorem dX4_superfluous_52 : decode cX4_superfluous 52 = .ok (.ior, 1) := by decide +kernel
theorem dX4_superfluous_53 : decode cX4_superfluous 53 = .ok (.istore 4, 2) := by decide +kernel
theorem dX4_superfluous_55 : decode cX4_superfluous 55 = .ok (.iinc 5 1, 3) := by decide +kernel
theorem dX4_superfluous_58 : decode cX4_superfluous 58 = .ok (.goto (-42), 3) := by decide +kernel
theorem dX4_superfluous_61 : decode cX4_superfluous 61 = .ok (.iload_n 2, 1) := by decide +kernel
theorem dX4_superfluous_62 : decode cX4_superfluous 62 = .ok (.aload_n 0, 1) := by decide +kernel
theorem dX4_superfluous_63 : decode cX4_superfluous 63 = .ok (.getfield 7, 3) := by decide +kernel
theorem dX4_superfluous_66 : decode cX4_superfluous 66 = .ok (.iload_n 1, 1) := by decide +kernel
theorem dX4_superfluous_67 : decode cX4_superfluous 67 = .ok (.iload_n 3, 1) := by decide +kernel
theorem dX4_superfluous_68 : decode cX4_superfluous 68 = .ok (.iadd, 1) := by decide +kernel
theorem dX4_superfluous_69 : decode cX4_superfluous 69 = .ok (.iaload, 1) := by decide +kernel
theorem dX4_superfluous_70 : decode cX4_superfluous 70 = .ok (.iload 4, 2) := by decide +kernel
theorem dX4_superfluous_72 : decode cX4_superfluous 72 = .ok (.iand, 1) := by decide +kernel
theorem dX4_superfluous_73 : decode cX4_superfluous 73 = .ok (.invokestatic 47, 3) := by decide +kernel
theorem dX4_superfluous_76 : decode cX4_superfluous 76 = .ok (.iadd, 1) := by decide +kernel
theorem dX4_superfluous_77 : decode cX4_superfluous 77 = .ok (.istore_n 2, 1) := by decide +kernel
theorem dX4_superfluous_78 : decode cX4_superfluous 78 = .ok (.iinc 3 1, 3) := by decide +kernel
theorem dX4_superfluous_81 : decode cX4_superfluous 81 = .ok (.goto (-77), 3) := by decide +kernel
theorem dX4_superfluous_84 : decode cX4_superfluous 84 = .ok (.iload_n 2, 1) := by decide +kernel
theorem dX4_superfluous_85 : decode cX4_superfluous 85 = .ok (.ireturn, 1) := by decide +kernel
theorem dX4_order_0 : decode cX4_order 0 = .ok (.aload_n 0, 1) := by decide +kernel
theorem dX4_order_1 : decode cX4_order 1 = .ok (.iload_n 1, 1) := by decide +kernel
theorem dX4_order_2 : decode cX4_order 2 = .ok (.invokevirtual 113, 3) := by decide +kernel
theorem dX4_order_5 : decode cX4_order 5 = .ok (.ifCond .eq 12, 3) := by decide +kernel
theorem dX4_order_8 : decode cX4_order 8 = .ok (.iload_n 2, 1) := by decide +kernel
theorem dX4_order_9 : decode cX4_order 9 = .ok (.iconst 0, 1) := by decide +kernel
theorem dX4_order_10 : decode cX4_order 10 = .ok (.iconst 4, 1) := by decide +kernel
theorem dX4_order_11 : decode cX4_order 11 = .ok (.invokestatic 35, 3) := by decide +kernel
theorem dX4_order_14 : decode cX4_order 14 = .ok (.ifCond .ne 5, 3) := by decide +kernel
theorem dX4_order_17 : decode cX4_order 17 = .ok (.iconst (-1), 1) := by decide +kernel
theorem dX4_order_18 : decode cX4_order 18 = .ok (.ireturn, 1) := by decide +kernel
theorem dX4_order_19 : decode cX4_order 19 = .ok (.aload_n 0, 1) := by decide +kernel
theorem dX4_order_20 : decode cX4_order 20 = .ok (.iload_n 1, 1) := by decide +kernel
theorem dX4_order_21 : decode cX4_order 21 = .ok (.invokestatic 55, 3) := by decide +kernel
theorem dX4_order_24 : decode cX4_order 24 = .ok (.invokevirtual 58, 3) := by decide +kernel
theorem dX4_order_27 : decode cX4_order 27 = .ok (.aload_n 0, 1) := by decide +kernel
theorem dX4_order_28 : decode cX4_order 28 = .ok (.invokevirtual 119, 3) := by decide +kernel
theorem dX4_order_31 : decode cX4_order 31 = .ok (.istore_n 3, 1) := by decide +kernel
theorem dX4_order_32 : decode cX4_order 32 = .ok (.iload_n 2, 1) := by decide +kernel
theorem dX4_order_33 : decode cX4_order 33 = .ok (.tableswitch 55 0 3 #[31, 37, 43, 49], 31) := by decide +kernel
theorem dX4_order_64 : decode cX4_order 64 = .ok (.aload_n 0, 1) := by decide +kernel
theorem dX4_order_65 : decode cX4_order 65 = .ok (.iload_n 3, 1) := by decide +kernel
theorem dX4_order_66 : decode cX4_order 66 = .ok (.invokevirtual 116, 3) := by decide +kernel
theorem dX4_order_69 : decode cX4_order 69 = .ok (.ireturn, 1) := by decide +kernel
theorem dX4_order_70 : decode cX4_order 70 = .ok (.aload_n 0, 1) := by decide +kernel
theorem dX4_order_71 : decode cX4_order 71 = .ok (.iload_n 3, 1) := by decide +kernel
theorem dX4_order_72 : decode cX4_order 72 = .ok (.invokevirtual 122, 3) := by decide +kernel
theorem dX4_order_75 : decode cX4_order 75 = .ok (.ireturn, 1) := by decide +kernel
theorem dX4_order_76 : decode cX4_order 76 = .ok (.aload_n 0, 1) := by decide +kernel
theorem dX4_order_77 : decode cX4_order 77 = .ok (.iload_n 3, 1) := by decide +kernel
theorem dX4_order_78 : decode cX4_order 78 = .ok (.invokevirtual 125, 3) := by decide +kernel
theorem dX4_order_81 : decode cX4_order 81 = .ok (.ireturn, 1) := by decide +kernel
theorem dX4_order_82 : decode cX4_order 82 = .ok (.aload_n 0, 1) := by decide +kernel
theorem dX4_order_83 : decode cX4_order 83 = .ok (.iload_n 3, 1) := by decide +kernel
theorem dX4_order_84 : decode cX4_order 84 = .ok (.invokevirtual 128, 3) := by decide +kernel
theorem dX4_order_87 : decode cX4_order 87 = .ok (.ireturn, 1) := by decide +kernel
theorem dX4_order_88 : decode cX4_order 88 = .ok (.aload_n 0, 1) := by decide +kernel
theorem dX4_order_89 : decode cX4_order 89 = .ok (.iload_n 1, 1) := by decide +kernel
theorem dX4_order_90 : decode cX4_order 90 = .ok (.invokestatic 55, 3) := by decide +kernel
theorem dX4_order_93 : decode cX4_order 93 = .ok (.invokevirtual 131, 3) := by decide +kernel
theorem dX4_order_96 : decode cX4_order 96 = .ok (.ireturn, 1) := by decide +kernel
theorem dX4_lists_0 : decode cX4_lists 0 = .ok (.aload_n 0, 1) := by decide +kernel
theorem dX4_lists_1 : decode cX4_lists 1 = .ok (.iload_n 1, 1) := by decide +kernel
theorem dX4_lists_2 : decode cX4_lists 2 = .ok (.invokevirtual 113, 3) := by decide +kernel
theorem dX4_lists_5 : decode cX4_lists 5 = .ok (.ifCond .ne 7, 3) := by decide +kernel
theorem dX4_lists_8 : decode cX4_lists 8 = .ok (.ldc2_w 134, 3) := by decide +kernel
theorem dX4_lists_11 : decode cX4_lists 11 = .ok (.lreturn, 1) := by decide +kernel
theorem dX4_lists_12 : decode cX4_lists 12 = .ok (.aload_n 0, 1) := by decide +kernel
theorem dX4_lists_13 : decode cX4_lists 13 = .ok (.iload_n 1, 1) := by decide +kernel
theorem dX4_lists_14 : decode cX4_lists 14 = .ok (.invokestatic 55, 3) := by decide +kernel
theorem dX4_lists_17 : decode cX4_lists 17 = .ok (.invokevirtual 58, 3) := by decide +kernel
theorem dX4_lists_20 : decode cX4_lists 20 = .ok (.aload_n 0, 1) := by decide +kernel
theorem dX4_lists_21 : decode cX4_lists 21 = .ok (.invokevirtual 119, 3) := by decide +kernel
theorem dX4_lists_24 : decode cX4_lists 24 = .ok (.istore_n 2, 1) := by decide +kernel
theorem dX4_lists_25 : decode cX4_lists 25 = .ok (.aload_n 0, 1) := by decide +kernel
theorem dX4_lists_26 : decode cX4_lists 26 = .ok (.getfield 31, 3) := by decide +kernel
theorem dX4_lists_29 : decode cX4_lists 29 = .ok (.iconst 0, 1) := by decide +kernel
theorem dX4_lists_30 : decode cX4_lists 30 = .ok (.lconst 1, 1) := by decide +kernel
theorem dX4_lists_31 : decode cX4_lists 31 = .ok (.lastore, 1) := by decide +kernel
theorem dX4_lists_32 : decode cX4_lists 32 = .ok (.iconst 1, 1) := by decide +kernel
theorem dX4_lists_33 : decode cX4_lists 33 = .ok (.istore_n 3, 1) := by decide +kernel
theorem dX4_lists_34 : decode cX4_lists 34 = .ok (.iload_n 3, 1) := by decide +kernel
theorem dX4_lists_35 : decode cX4_lists 35 = .ok (.sipush 256, 3) := by decide +kernel
theorem dX4_lists_38 : decode cX4_lists 38 = .ok (.if_icmp .ge 99, 3) := by decide +kernel
theorem dX4_lists_41 : decode cX4_lists 41 = .ok (.aload_n 0, 1) := by decide +kernel
theorem dX4_lists_42 : decode cX4_lists 42 = .ok (.getfield 31, 3) := by decide +kernel
theorem dX4_lists_45 : decode cX4_lists 45 = .ok (.iload_n 3, 1) := by decide +kernel
theorem dX4_lists_46 : decode cX4_lists 46 = .ok (.lconst 0, 1) := by decide +kernel
theorem dX4_lists_47 : decode cX4_lists 47 = .ok (.lastore, 1) := by decide +kernel
theorem dX4_lists_48 : decode cX4_lists 48 = .ok (.iconst 0, 1) := by decide +kernel
theorem dX4_lists_49 : decode cX4_lists 49 = .ok (.istore 4, 2) := by decide +kernel
theorem dX4_lists_51 : decode cX4_lists 51 = .ok (.iload 4, 2) := by decide +kernel
theorem dX4_lists_53 : decode cX4_lists 53 = .ok (.bipush 8, 2) := by decide +kernel
theorem dX4_lists_55 : decode cX4_lists 55 = .ok (.if_icmp .ge 76, 3) := by decide +kernel
theorem dX4_lists_58 : decode cX4_lists 58 = .ok (.iload_n 3, 1) := by decide +kernel
theorem dX4_lists_59 : decode cX4_lists 59 = .ok (.iload_n 2, 1) := by decide +kernel
theorem dX4_lists_60 : decode cX4_lists 60 = .ok (.iconst (-1), 1) := by decide +kernel
theorem dX4_lists_61 : decode cX4_lists 61 = .ok (.ixor, 1) := by decide +kernel
theorem dX4_lists_62 : decode cX4_lists 62 = .ok (.iand, 1) := by decide +kernel
theorem dX4_lists_63 : decode cX4_lists 63 = .ok (.ifCond .ne 28, 3) := by decide +kernel
theorem dX4_lists_66 : decode cX4_lists 66 = .ok (.iload_n 3, 1) := by decide +kernel
theorem dX4_lists_67 : decode cX4_lists 67 = .ok (.iload 4, 2) := by decide +kernel
theorem dX4_lists_69 : decode cX4_lists 69 = .ok (.invokestatic 43, 3) := by decide +kernel
theorem dX4_lists_72 : decode cX4_lists 72 = .ok (.ifCond .eq 19, 3) := by decide +kernel
theorem dX4_lists_75 : decode cX4_lists 75 = .ok (.aload_n 0, 1) := by decide +kernel
theorem dX4_lists_76 : decode cX4_lists 76 = .ok (.getfield 19, 3) := by decide +kernel
theorem dX4_lists_79 : decode cX4_lists 79 = .ok (.iload 4, 2) := by decide +kernel
theorem dX4_lists_81 : decode cX4_lists 81 = .ok (.iaload, 1) := by decide +kernel
theorem dX4_lists_82 : decode cX4_lists 82 = .ok (.iload_n 3, 1) := by decide +kernel
theorem dX4_lists_83 : decode cX4_lists 83 = .ok (.iand, 1) := by decide +kernel
theorem dX4_lists_84 : decode cX4_lists 84 = .ok (.ifCond .ne 7, 3) := by decide +kernel
theorem dX4_lists_87 : decode cX4_lists 87 = .ok (.iconst 1, 1) := by decide +kernel
theorem dX4_lists_88 : decode cX4_lists 88 = .ok (.goto 4, 3) := by decide +kernel
theorem dX4_lists_91 : decode cX4_lists 91 = .ok (.iconst 0, 1) := by decide +kernel
theorem dX4_lists_92 : decode cX4_lists 92 = .ok (.istore 5, 2) := by decide +kernel
theorem dX4_lists_94 : decode cX4_lists 94 = .ok (.aload_n 0, 1) := by decide +kernel
theorem dX4_lists_95 : decode cX4_lists 95 = .ok (.getfield 31, 3) := by decide +kernel
theorem dX4_lists_98 : decode cX4_lists 98 = .ok (.iload_n 3, 1) := by decide +kernel
theorem dX4_lists_99 : decode cX4_lists 99 = .ok (.dup2, 1) := by decide +kernel
theorem dX4_lists_100 : decode cX4_lists 100 = .ok (.laload, 1) := by decide +kernel
theorem dX4_lists_101 : decode cX4_lists 101 = .ok (.iload 5, 2) := by decide +kernel
theorem dX4_lists_103 : decode cX4_lists 103 = .ok (.ifCond .eq 19, 3) := by decide +kernel
theorem dX4_lists_106 : decode cX4_lists 106 = .ok (.aload_n 0, 1) := by decide +kernel
theorem dX4_lists_107 : decode cX4_lists 107 = .ok (.getfield 31, 3) := by decide +kernel
theorem dX4_lists_110 : decode cX4_lists 110 = .ok (.iload_n 3, 1) := by decide +kernel
theorem dX4_lists_111 : decode cX4_lists 111 = .ok (.iconst 1, 1) := by decide +kernel
theorem dX4_lists_112 : decode cX4_lists 112 = .ok (.iload 4, 2) := by decide +kernel
theorem dX4_lists_114 : decode cX4_lists 114 = .ok (.ishl, 1) := by decide +kernel
theorem dX4_lists_115 : decode cX4_lists 115 = .ok (.iconst (-1), 1) := by decide +kernel
theorem dX4_lists_116 : decode cX4_lists 116 = .ok (.ixor, 1) := by decide +kernel
theorem dX4_lists_117 : decode cX4_lists 117 = .ok (.iand, 1) := by decide +kernel
theorem dX4_lists_118 : decode cX4_lists 118 = .ok (.laload, 1) := by decide +kernel
theorem dX4_lists_119 : decode cX4_lists 119 = .ok (.goto 4, 3) := by decide +kernel
theorem dX4_lists_122 : decode cX4_lists 122 = .ok (.lconst 0, 1) := by decide +kernel
theorem dX4_lists_123 : decode cX4_lists 123 = .ok (.ladd, 1) := by decide +kernel
theorem dX4_lists_124 : decode cX4_lists 124 = .ok (.lastore, 1) := by decide +kernel
theorem dX4_lists_125 : decode cX4_lists 125 = .ok (.iinc 4 1, 3) := by decide +kernel
theorem dX4_lists_128 : decode cX4_lists 128 = .ok (.goto (-77), 3) := by decide +kernel
theorem dX4_lists_131 : decode cX4_lists 131 = .ok (.iinc 3 1, 3) := by decide +kernel
theorem dX4_lists_134 : decode cX4_lists 134 = .ok (.goto (-100), 3) := by decide +kernel
theorem dX4_lists_137 : decode cX4_lists 137 = .ok (.aload_n 0, 1) := by decide +kernel
theorem dX4_lists_138 : decode cX4_lists 138 = .ok (.getfield 31, 3) := by decide +kernel
theorem dX4_lists_141 : decode cX4_lists 141 = .ok (.iload_n 2, 1) := by decide +kernel
theorem dX4_lists_142 : decode cX4_lists 142 = .ok (.laload, 1) := by decide +kernel
theorem dX4_lists_143 : decode cX4_lists 143 = .ok (.lreturn, 1) := by decide +kernel
theorem dX4_isImage_0 : decode cX4_isImage 0 = .ok (.iload_n 0, 1) := by decide +kernel
theorem dX4_isImage_1 : decode cX4_isImage 1 = .ok (.iconst 0, 1) := by decide +kernel
theorem dX4_isImage_2 : decode cX4_isImage 2 = .ok (.iconst 1, 1) := by decide +kernel
theorem dX4_isImage_3 : decode cX4_isImage 3 = .ok (.invokestatic 35, 3) := by decide +kernel
theorem dX4_isImage_6 : decode cX4_isImage 6 = .ok (.ireturn, 1) := by decide +kernel
theorem dX4_keep_0 : decode cX4_keep 0 = .ok (.iload_n 1, 1) := by decide +kernel
theorem dX4_keep_1 : decode cX4_keep 1 = .ok (.invokestatic 136, 3) := by decide +kernel
theorem dX4_keep_4 : decode cX4_keep 4 = .ok (.ifCond .ne 5, 3) := by decide +kernel
theorem dX4_keep_7 : decode cX4_keep 7 = .ok (.iconst (-1), 1) := by decide +kernel
theorem dX4_keep_8 : decode cX4_keep 8 = .ok (.ireturn, 1) := by decide +kernel
theorem dX4_keep_9 : decode cX4_keep 9 = .ok (.iconst 0, 1) := by decide +kernel
theorem dX4_keep_10 : decode cX4_keep 10 = .ok (.istore_n 2, 1) := by decide +kernel
theorem dX4_keep_11 : decode cX4_keep 11 = .ok (.iload_n 2, 1) := by decide +kernel
theorem dX4_keep_12 : decode cX4_keep 12 = .ok (.sipush 428, 3) := by decide +kernel
theorem dX4_keep_15 : decode cX4_keep 15 = .ok (.if_icmp .ge 27, 3) := by decide +kernel
theorem dX4_keep_18 : decode cX4_keep 18 = .ok (.aload_n 0, 1) := by decide +kernel
theorem dX4_keep_19 : decode cX4_keep 19 = .ok (.getfield 16, 3) := by decide +kernel
theorem dX4_keep_22 : decode cX4_keep 22 = .ok (.sipush 428, 3) := by decide +kernel
theorem dX4_keep_25 : decode cX4_keep 25 = .ok (.iload_n 1, 1) := by decide +kernel
theorem dX4_keep_26 : decode cX4_keep 26 = .ok (.imul, 1) := by decide +kernel
theorem dX4_keep_27 : decode cX4_keep 27 = .ok (.iload_n 2, 1) := by decide +kernel
theorem dX4_keep_28 : decode cX4_keep 28 = .ok (.iadd, 1) := by decide +kernel
theorem dX4_keep_29 : decode cX4_keep 29 = .ok (.aload_n 0, 1) := by decide +kernel
theorem dX4_keep_30 : decode cX4_keep 30 = .ok (.getfield 7, 3) := by decide +kernel
theorem dX4_keep_33 : decode cX4_keep 33 = .ok (.iload_n 2, 1) := by decide +kernel
theorem dX4_keep_34 : decode cX4_keep 34 = .ok (.iaload, 1) := by decide +kernel
theorem dX4_keep_35 : decode cX4_keep 35 = .ok (.iastore, 1) := by decide +kernel
theorem dX4_keep_36 : decode cX4_keep 36 = .ok (.iinc 2 1, 3) := by decide +kernel
theorem dX4_keep_39 : decode cX4_keep 39 = .ok (.goto (-28), 3) := by decide +kernel
theorem dX4_keep_42 : decode cX4_keep 42 = .ok (.aload_n 0, 1) := by decide +kernel
theorem dX4_keep_43 : decode cX4_keep 43 = .ok (.dup, 1) := by decide +kernel
theorem dX4_keep_44 : decode cX4_keep 44 = .ok (.getfield 139, 3) := by decide +kernel
theorem dX4_keep_47 : decode cX4_keep 47 = .ok (.iconst 1, 1) := by decide +kernel
theorem dX4_keep_48 : decode cX4_keep 48 = .ok (.iload_n 1, 1) := by decide +kernel
theorem dX4_keep_49 : decode cX4_keep 49 = .ok (.ishl, 1) := by decide +kernel
theorem dX4_keep_50 : decode cX4_keep 50 = .ok (.ior, 1) := by decide +kernel
theorem dX4_keep_51 : decode cX4_keep 51 = .ok (.putfield 139, 3) := by decide +kernel
theorem dX4_keep_54 : decode cX4_keep 54 = .ok (.aload_n 0, 1) := by decide +kernel
theorem dX4_keep_55 : decode cX4_keep 55 = .ok (.invokevirtual 94, 3) := by decide +kernel
theorem dX4_keep_58 : decode cX4_keep 58 = .ok (.ireturn, 1) := by decide +kernel
theorem dX4_back_0 : decode cX4_back 0 = .ok (.iload_n 1, 1) := by decide +kernel
theorem dX4_back_1 : decode cX4_back 1 = .ok (.invokestatic 136, 3) := by decide +kernel
theorem dX4_back_4 : decode cX4_back 4 = .ok (.ifCond .ne 5, 3) := by decide +kernel
theorem dX4_back_7 : decode cX4_back 7 = .ok (.iconst (-1), 1) := by decide +kernel
theorem dX4_back_8 : decode cX4_back 8 = .ok (.ireturn, 1) := by decide +kernel
theorem dX4_back_9 : decode cX4_back 9 = .ok (.aload_n 0, 1) := by decide +kernel
theorem dX4_back_10 : decode cX4_back 10 = .ok (.getfield 139, 3) := by decide +kernel
theorem dX4_back_13 : decode cX4_back 13 = .ok (.iload_n 1, 1) := by decide +kernel
theorem dX4_back_14 : decode cX4_back 14 = .ok (.invokestatic 43, 3) := by decide +kernel
theorem dX4_back_17 : decode cX4_back 17 = .ok (.ifCond .ne 6, 3) := by decide +kernel
theorem dX4_back_20 : decode cX4_back 20 = .ok (.bipush (-2), 2) := by decide +kernel
theorem dX4_back_22 : decode cX4_back 22 = .ok (.ireturn, 1) := by decide +kernel
theorem dX4_back_23 : decode cX4_back 23 = .ok (.aload_n 0, 1) := by decide +kernel
theorem dX4_back_24 : decode cX4_back 24 = .ok (.invokevirtual 82, 3) := by decide +kernel
theorem dX4_back_27 : decode cX4_back 27 = .ok (.iconst 0, 1) := by decide +kernel
theorem dX4_back_28 : decode cX4_back 28 = .ok (.istore_n 2, 1) := by decide +kernel
theorem dX4_back_29 : decode cX4_back 29 = .ok (.iload_n 2, 1) := by decide +kernel
theorem dX4_back_30 : decode cX4_back 30 = .ok (.sipush 428, 3) := by decide +kernel
theorem dX4_back_33 : decode cX4_back 33 = .ok (.if_icmp .ge 27, 3) := by decide +kernel
theorem dX4_back_36 : decode cX4_back 36 = .ok (.aload_n 0, 1) := by decide +kernel
theorem dX4_back_37 : decode cX4_back 37 = .ok (.getfield 7, 3) := by decide +kernel
theorem dX4_back_40 : decode cX4_back 40 = .ok (.iload_n 2, 1) := by decide +kernel
theorem dX4_back_41 : decode cX4_back 41 = .ok (.aload_n 0, 1) := by decide +kernel
theorem dX4_back_42 : decode cX4_back 42 = .ok (.getfield 16, 3) := by decide +kernel
theorem dX4_back_45 : decode cX4_back 45 = .ok (.sipush 428, 3) := by decide +kernel
theorem dX4_back_48 : decode cX4_back 48 = .ok (.iload_n 1, 1) := by decide +kernel
theorem dX4_back_49 : decode cX4_back 49 = .ok (.imul, 1) := by decide +kernel
theorem dX4_back_50 : decode cX4_back 50 = .ok (.iload_n 2, 1) := by decide +kernel
theorem dX4_back_51 : decode cX4_back 51 = .ok (.iadd, 1) := by decide +kernel
theorem dX4_back_52 : decode cX4_back 52 = .ok (.iaload, 1) := by decide +kernel
theorem dX4_back_53 : decode cX4_back 53 = .ok (.iastore, 1) := by decide +kernel
theorem dX4_back_54 : decode cX4_back 54 = .ok (.iinc 2 1, 3) := by decide +kernel
theorem dX4_back_57 : decode cX4_back 57 = .ok (.goto (-28), 3) := by decide +kernel
theorem dX4_back_60 : decode cX4_back 60 = .ok (.aload_n 0, 1) := by decide +kernel
theorem dX4_back_61 : decode cX4_back 61 = .ok (.invokevirtual 94, 3) := by decide +kernel
theorem dX4_back_64 : decode cX4_back 64 = .ok (.ireturn, 1) := by decide +kernel


set_option maxRecDepth 20000 in
theorem ggX4_isStream_X4_isIn : GoodIn wsX4_isStream wsX4_isIn := goodIn_r _ [4] (by decide +kernel) (by decide +kernel)
set_option maxRecDepth 20000 in
theorem gX4_isStream_X4_isIn : GoodIn wsX4_isStream (va_wsS RX4 35 yX4_isIn wsX4_isIn) := goodIn_app (goodIn_of _ (by decide +kernel)) ggX4_isStream_X4_isIn




set_option maxRecDepth 20000 in
theorem ggX4_isOrder_X4_isIn : GoodIn wsX4_isOrder wsX4_isIn := goodIn_r _ [5] (by decide +kernel) (by decide +kernel)
set_option maxRecDepth 20000 in
theorem gX4_isOrder_X4_isIn : GoodIn wsX4_isOrder (va_wsS RX4 35 yX4_isIn wsX4_isIn) := goodIn_app (goodIn_of _ (by decide +kernel)) ggX4_isOrder_X4_isIn
set_option maxRecDepth 20000 in
theorem ggX4_layAfter_X4_has : GoodIn wsX4_layAfter wsX4_has := goodIn_r _ [6] (by decide +kernel) (by decide +kernel)
set_option maxRecDepth 20000 in
theorem gX4_layAfter_X4_has : GoodIn wsX4_layAfter (va_wsS RX4 43 yX4_has wsX4_has) := goodIn_app (goodIn_of _ (by decide +kernel)) ggX4_layAfter_X4_has

set_option maxRecDepth 20000 in
theorem ggX4_edges_X4_size : GoodIn wsX4_edges wsX4_size := goodIn_r _ [5] (by decide +kernel) (by decide +kernel)
set_option maxRecDepth 20000 in
theorem gX4_edges_X4_size : GoodIn wsX4_edges (va_wsS RX4 47 yX4_size wsX4_size) := goodIn_app (goodIn_of _ (by decide +kernel)) ggX4_edges_X4_size
set_option maxRecDepth 20000 in
theorem ggX4_blocking_X4_frameAt : GoodIn wsX4_blocking wsX4_frameAt := goodIn_r _ [7, 1, 18, 19, 20, 21, 22, 23, 24, 25, 26, 27] (by decide +kernel) (by decide +kernel)
set_option maxRecDepth 20000 in
theorem gX4_blocking_X4_frameAt : GoodIn wsX4_blocking (wsV RX4 51 RX4 yX4_frameAt wsX4_frameAt) := goodIn_app (goodIn_of _ (by decide +kernel)) ggX4_blocking_X4_frameAt
set_option maxRecDepth 20000 in
theorem ggX4_blocking_X4_orderOf : GoodIn wsX4_blocking wsX4_orderOf := goodIn_r _ [10] (by decide +kernel) (by decide +kernel)
set_option maxRecDepth 20000 in
theorem gX4_blocking_X4_orderOf : GoodIn wsX4_blocking (va_wsS RX4 55 yX4_orderOf wsX4_orderOf) := goodIn_app (goodIn_of _ (by decide +kernel)) ggX4_blocking_X4_orderOf
set_option maxRecDepth 20000 in
theorem ggX4_blocking_X4_layAfter : GoodIn wsX4_blocking wsX4_layAfter := goodIn_r _ [14, 2, 1, 15, 16, 6, 17, 18, 19, 20, 21, 22, 23, 24, 25, 26, 27] (by decide +kernel) (by decide +kernel)
set_option maxRecDepth 20000 in
theorem gX4_blocking_X4_layAfter : GoodIn wsX4_blocking (wsV RX4 58 RX4 yX4_layAfter wsX4_layAfter) := goodIn_app (goodIn_of _ (by decide +kernel)) ggX4_blocking_X4_layAfter
set_option maxRecDepth 20000 in
theorem ggX4_blocking_X4_has : GoodIn wsX4_blocking wsX4_has := goodIn_r _ [17] (by decide +kernel) (by decide +kernel)
set_option maxRecDepth 20000 in
theorem gX4_blocking_X4_has : GoodIn wsX4_blocking (va_wsS RX4 43 yX4_has wsX4_has) := goodIn_app (goodIn_of _ (by decide +kernel)) ggX4_blocking_X4_has
set_option maxRecDepth 20000 in
theorem ggX4_isCandidate_X4_blocking : GoodIn wsX4_isCandidate wsX4_blocking := goodIn_r _ [6, 1, 7, 8, 9, 10, 5, 11, 12, 13, 14, 15, 16, 17, 18, 19, 20, 21, 22, 23, 24, 25, 26, 27, 28, 29, 30, 31] (by decide +kernel) (by decide +kernel)
set_option maxRecDepth 20000 in
theorem gX4_isCandidate_X4_blocking : GoodIn wsX4_isCandidate (wsV RX4 62 RX4 yX4_blocking wsX4_blocking) := goodIn_app (goodIn_of _ (by decide +kernel)) ggX4_isCandidate_X4_blocking
set_option maxRecDepth 20000 in
theorem ggX4_nextStream_X4_isCandidate : GoodIn wsX4_nextStream wsX4_isCandidate := goodIn_r _ [6, 1, 7, 8, 9, 5, 10, 11, 12, 13, 14, 15, 16, 17, 18, 19, 20, 21, 22, 23, 24, 25, 26, 27, 28, 29, 30, 31, 32, 33, 34, 35] (by decide +kernel) (by decide +kernel)
set_option maxRecDepth 20000 in
theorem gX4_nextStream_X4_isCandidate : GoodIn wsX4_nextStream (wsV RX4 65 RX4 yX4_isCandidate wsX4_isCandidate) := goodIn_app (goodIn_of _ (by decide +kernel)) ggX4_nextStream_X4_isCandidate
set_option maxRecDepth 20000 in
theorem ggX4_sendNext_X4_nextStream : GoodIn wsX4_sendNext wsX4_nextStream := goodIn_r _ [6, 1, 7, 8, 9, 5, 10, 11, 12, 13, 14, 15, 16, 17, 18, 19, 20, 21, 22, 23, 24, 25, 26, 27, 28, 29, 30, 31, 32, 33, 34, 35, 36, 37, 38, 39] (by decide +kernel) (by decide +kernel)
set_option maxRecDepth 20000 in
theorem gX4_sendNext_X4_nextStream : GoodIn wsX4_sendNext (wsV RX4 69 RX4 yX4_nextStream wsX4_nextStream) := goodIn_app (goodIn_of _ (by decide +kernel)) ggX4_sendNext_X4_nextStream
set_option maxRecDepth 20000 in
theorem ggX4_sendNext_X4_frameAt : GoodIn wsX4_sendNext wsX4_frameAt := goodIn_r _ [19, 1, 30, 31, 32, 33, 34, 35, 36, 37, 38, 39] (by decide +kernel) (by decide +kernel)
set_option maxRecDepth 20000 in
theorem gX4_sendNext_X4_frameAt : GoodIn wsX4_sendNext (wsV RX4 51 RX4 yX4_frameAt wsX4_frameAt) := goodIn_app (goodIn_of _ (by decide +kernel)) ggX4_sendNext_X4_frameAt

set_option maxRecDepth 20000 in
theorem ggX4_before_X4_sendNext : GoodIn wsX4_before wsX4_sendNext := goodIn_r _ [7, 2, 8, 9, 10, 6, 11, 12, 13, 14, 15, 16, 17, 18, 19, 20, 21, 22, 23, 24, 25, 26, 27, 28, 29, 30, 31, 32, 33, 34, 35, 36, 37, 38, 39, 40, 41, 42, 43, 44] (by decide +kernel) (by decide +kernel)
set_option maxRecDepth 20000 in
theorem gX4_before_X4_sendNext : GoodIn wsX4_before (wsV RX4 73 RX4 yX4_sendNext wsX4_sendNext) := goodIn_app (goodIn_of _ (by decide +kernel)) ggX4_before_X4_sendNext

set_option maxRecDepth 20000 in
theorem ggX4_open_X4_isStream : GoodIn wsX4_open wsX4_isStream := goodIn_r _ [5, 6, 7, 4, 8] (by decide +kernel) (by decide +kernel)
set_option maxRecDepth 20000 in
theorem gX4_open_X4_isStream : GoodIn wsX4_open (va_wsS RX4 76 yX4_isStream wsX4_isStream) := goodIn_app (goodIn_of _ (by decide +kernel)) ggX4_open_X4_isStream
set_option maxRecDepth 20000 in
theorem ggX4_open_X4_isIn : GoodIn wsX4_open wsX4_isIn := goodIn_r _ [8] (by decide +kernel) (by decide +kernel)
set_option maxRecDepth 20000 in
theorem gX4_open_X4_isIn : GoodIn wsX4_open (va_wsS RX4 35 yX4_isIn wsX4_isIn) := goodIn_app (goodIn_of _ (by decide +kernel)) ggX4_open_X4_isIn
set_option maxRecDepth 20000 in
theorem ggX4_open_X4_isOpen : GoodIn wsX4_open wsX4_isOpen := goodIn_r _ [12, 1, 23, 24, 25, 26, 27, 28, 29, 30, 31, 32] (by decide +kernel) (by decide +kernel)
set_option maxRecDepth 20000 in
theorem gX4_open_X4_isOpen : GoodIn wsX4_open (wsV RX4 79 RX4 yX4_isOpen wsX4_isOpen) := goodIn_app (goodIn_of _ (by decide +kernel)) ggX4_open_X4_isOpen
set_option maxRecDepth 20000 in
theorem ggX4_open_X4_remember : GoodIn wsX4_open wsX4_remember := goodIn_r _ [16, 17, 18, 1, 23, 24, 25, 26, 27, 28, 29, 30, 31, 32] (by decide +kernel) (by decide +kernel)
set_option maxRecDepth 20000 in
theorem gX4_open_X4_remember : GoodIn wsX4_open (wsV RX4 82 RX4 yX4_remember wsX4_remember) := goodIn_app (goodIn_of _ (by decide +kernel)) ggX4_open_X4_remember
set_option maxRecDepth 20000 in
theorem ggX4_open_X4_opened : GoodIn wsX4_open wsX4_opened := goodIn_r _ [22, 1, 23, 24, 25, 26, 27, 28, 29, 30, 31, 32] (by decide +kernel) (by decide +kernel)
set_option maxRecDepth 20000 in
theorem gX4_open_X4_opened : GoodIn wsX4_open (wsV RX4 85 RX4 yX4_opened wsX4_opened) := goodIn_app (goodIn_of _ (by decide +kernel)) ggX4_open_X4_opened
set_option maxRecDepth 20000 in
theorem ggX4_close_X4_isStream : GoodIn wsX4_close wsX4_isStream := goodIn_r _ [5, 6, 7, 4, 8] (by decide +kernel) (by decide +kernel)
set_option maxRecDepth 20000 in
theorem gX4_close_X4_isStream : GoodIn wsX4_close (va_wsS RX4 76 yX4_isStream wsX4_isStream) := goodIn_app (goodIn_of _ (by decide +kernel)) ggX4_close_X4_isStream
set_option maxRecDepth 20000 in
theorem ggX4_close_X4_isOpen : GoodIn wsX4_close wsX4_isOpen := goodIn_r _ [12, 1, 19, 20, 21, 22, 23, 24, 25, 26, 27, 28] (by decide +kernel) (by decide +kernel)
set_option maxRecDepth 20000 in
theorem gX4_close_X4_isOpen : GoodIn wsX4_close (wsV RX4 79 RX4 yX4_isOpen wsX4_isOpen) := goodIn_app (goodIn_of _ (by decide +kernel)) ggX4_close_X4_isOpen
set_option maxRecDepth 20000 in
theorem ggX4_close_X4_remember : GoodIn wsX4_close wsX4_remember := goodIn_r _ [16, 17, 18, 1, 19, 20, 21, 22, 23, 24, 25, 26, 27, 28] (by decide +kernel) (by decide +kernel)
set_option maxRecDepth 20000 in
theorem gX4_close_X4_remember : GoodIn wsX4_close (wsV RX4 82 RX4 yX4_remember wsX4_remember) := goodIn_app (goodIn_of _ (by decide +kernel)) ggX4_close_X4_remember
set_option maxRecDepth 20000 in
theorem ggX4_setWeight_X4_isStream : GoodIn wsX4_setWeight wsX4_isStream := goodIn_r _ [5, 6, 7, 4, 8] (by decide +kernel) (by decide +kernel)
set_option maxRecDepth 20000 in
theorem gX4_setWeight_X4_isStream : GoodIn wsX4_setWeight (va_wsS RX4 76 yX4_isStream wsX4_isStream) := goodIn_app (goodIn_of _ (by decide +kernel)) ggX4_setWeight_X4_isStream
set_option maxRecDepth 20000 in
theorem ggX4_setWeight_X4_isIn : GoodIn wsX4_setWeight wsX4_isIn := goodIn_r _ [8] (by decide +kernel) (by decide +kernel)
set_option maxRecDepth 20000 in
theorem gX4_setWeight_X4_isIn : GoodIn wsX4_setWeight (va_wsS RX4 35 yX4_isIn wsX4_isIn) := goodIn_app (goodIn_of _ (by decide +kernel)) ggX4_setWeight_X4_isIn
set_option maxRecDepth 20000 in
theorem ggX4_setWeight_X4_isOpen : GoodIn wsX4_setWeight wsX4_isOpen := goodIn_r _ [12, 1, 19, 20, 21, 22, 23, 24, 25, 26, 27, 28] (by decide +kernel) (by decide +kernel)
set_option maxRecDepth 20000 in
theorem gX4_setWeight_X4_isOpen : GoodIn wsX4_setWeight (wsV RX4 79 RX4 yX4_isOpen wsX4_isOpen) := goodIn_app (goodIn_of _ (by decide +kernel)) ggX4_setWeight_X4_isOpen
set_option maxRecDepth 20000 in
theorem ggX4_setWeight_X4_remember : GoodIn wsX4_setWeight wsX4_remember := goodIn_r _ [16, 17, 18, 1, 19, 20, 21, 22, 23, 24, 25, 26, 27, 28] (by decide +kernel) (by decide +kernel)
set_option maxRecDepth 20000 in
theorem gX4_setWeight_X4_remember : GoodIn wsX4_setWeight (wsV RX4 82 RX4 yX4_remember wsX4_remember) := goodIn_app (goodIn_of _ (by decide +kernel)) ggX4_setWeight_X4_remember
set_option maxRecDepth 20000 in
theorem ggX4_push_X4_isStream : GoodIn wsX4_push wsX4_isStream := goodIn_r _ [5, 6, 7, 4, 8] (by decide +kernel) (by decide +kernel)
set_option maxRecDepth 20000 in
theorem gX4_push_X4_isStream : GoodIn wsX4_push (va_wsS RX4 76 yX4_isStream wsX4_isStream) := goodIn_app (goodIn_of _ (by decide +kernel)) ggX4_push_X4_isStream
set_option maxRecDepth 20000 in
theorem ggX4_push_X4_isIn : GoodIn wsX4_push wsX4_isIn := goodIn_r _ [8] (by decide +kernel) (by decide +kernel)
set_option maxRecDepth 20000 in
theorem gX4_push_X4_isIn : GoodIn wsX4_push (va_wsS RX4 35 yX4_isIn wsX4_isIn) := goodIn_app (goodIn_of _ (by decide +kernel)) ggX4_push_X4_isIn
set_option maxRecDepth 20000 in
theorem ggX4_push_X4_isOpen : GoodIn wsX4_push wsX4_isOpen := goodIn_r _ [12, 1, 19, 20, 21, 22, 23, 24, 25, 26, 27, 28] (by decide +kernel) (by decide +kernel)
set_option maxRecDepth 20000 in
theorem gX4_push_X4_isOpen : GoodIn wsX4_push (wsV RX4 79 RX4 yX4_isOpen wsX4_isOpen) := goodIn_app (goodIn_of _ (by decide +kernel)) ggX4_push_X4_isOpen
set_option maxRecDepth 20000 in
theorem ggX4_push_X4_remember : GoodIn wsX4_push wsX4_remember := goodIn_r _ [16, 17, 18, 1, 19, 20, 21, 22, 23, 24, 25, 26, 27, 28] (by decide +kernel) (by decide +kernel)
set_option maxRecDepth 20000 in
theorem gX4_push_X4_remember : GoodIn wsX4_push (wsV RX4 82 RX4 yX4_remember wsX4_remember) := goodIn_app (goodIn_of _ (by decide +kernel)) ggX4_push_X4_remember
set_option maxRecDepth 20000 in
theorem ggX4_edge_X4_isStream : GoodIn wsX4_edge wsX4_isStream := goodIn_r _ [6, 7, 8, 5, 9] (by decide +kernel) (by decide +kernel)
set_option maxRecDepth 20000 in
theorem gX4_edge_X4_isStream : GoodIn wsX4_edge (va_wsS RX4 76 yX4_isStream wsX4_isStream) := goodIn_app (goodIn_of _ (by decide +kernel)) ggX4_edge_X4_isStream
set_option maxRecDepth 20000 in
theorem ggX4_edge_X4_isIn : GoodIn wsX4_edge wsX4_isIn := goodIn_r _ [9] (by decide +kernel) (by decide +kernel)
set_option maxRecDepth 20000 in
theorem gX4_edge_X4_isIn : GoodIn wsX4_edge (va_wsS RX4 35 yX4_isIn wsX4_isIn) := goodIn_app (goodIn_of _ (by decide +kernel)) ggX4_edge_X4_isIn
set_option maxRecDepth 20000 in
theorem ggX4_edge_X4_layAfter : GoodIn wsX4_edge wsX4_layAfter := goodIn_r _ [13, 1, 2, 14, 15, 5, 16, 23, 24, 25, 26, 27, 28, 29, 30, 31, 32] (by decide +kernel) (by decide +kernel)
set_option maxRecDepth 20000 in
theorem gX4_edge_X4_layAfter : GoodIn wsX4_edge (wsV RX4 58 RX4 yX4_layAfter wsX4_layAfter) := goodIn_app (goodIn_of _ (by decide +kernel)) ggX4_edge_X4_layAfter
set_option maxRecDepth 20000 in
theorem ggX4_edge_X4_has : GoodIn wsX4_edge wsX4_has := goodIn_r _ [16] (by decide +kernel) (by decide +kernel)
set_option maxRecDepth 20000 in
theorem gX4_edge_X4_has : GoodIn wsX4_edge (va_wsS RX4 43 yX4_has wsX4_has) := goodIn_app (goodIn_of _ (by decide +kernel)) ggX4_edge_X4_has
set_option maxRecDepth 20000 in
theorem ggX4_edge_X4_remember : GoodIn wsX4_edge wsX4_remember := goodIn_r _ [20, 21, 22, 2, 23, 24, 25, 26, 27, 28, 29, 30, 31, 32] (by decide +kernel) (by decide +kernel)
set_option maxRecDepth 20000 in
theorem gX4_edge_X4_remember : GoodIn wsX4_edge (wsV RX4 82 RX4 yX4_remember wsX4_remember) := goodIn_app (goodIn_of _ (by decide +kernel)) ggX4_edge_X4_remember
set_option maxRecDepth 20000 in
theorem ggX4_commit_X4_remember : GoodIn wsX4_commit wsX4_remember := goodIn_r _ [6, 7, 8, 1, 12, 13, 14, 15, 16, 17, 18, 19, 20, 21] (by decide +kernel) (by decide +kernel)
set_option maxRecDepth 20000 in
theorem gX4_commit_X4_remember : GoodIn wsX4_commit (wsV RX4 82 RX4 yX4_remember wsX4_remember) := goodIn_app (goodIn_of _ (by decide +kernel)) ggX4_commit_X4_remember
set_option maxRecDepth 20000 in
theorem ggX4_commit_X4_orderOf : GoodIn wsX4_commit wsX4_orderOf := goodIn_r _ [11] (by decide +kernel) (by decide +kernel)
set_option maxRecDepth 20000 in
theorem gX4_commit_X4_orderOf : GoodIn wsX4_commit (va_wsS RX4 55 yX4_orderOf wsX4_orderOf) := goodIn_app (goodIn_of _ (by decide +kernel)) ggX4_commit_X4_orderOf
set_option maxRecDepth 20000 in
theorem ggX4_revert_X4_isIn : GoodIn wsX4_revert wsX4_isIn := goodIn_r _ [5] (by decide +kernel) (by decide +kernel)
set_option maxRecDepth 20000 in
theorem gX4_revert_X4_isIn : GoodIn wsX4_revert (va_wsS RX4 35 yX4_isIn wsX4_isIn) := goodIn_app (goodIn_of _ (by decide +kernel)) ggX4_revert_X4_isIn
set_option maxRecDepth 20000 in
theorem ggX4_revert_X4_remember : GoodIn wsX4_revert wsX4_remember := goodIn_r _ [9, 10, 11, 1, 22, 23, 24, 25, 26, 27, 28, 29, 30, 31] (by decide +kernel) (by decide +kernel)
set_option maxRecDepth 20000 in
theorem gX4_revert_X4_remember : GoodIn wsX4_revert (wsV RX4 82 RX4 yX4_remember wsX4_remember) := goodIn_app (goodIn_of _ (by decide +kernel)) ggX4_revert_X4_remember
set_option maxRecDepth 20000 in
theorem ggX4_revert_X4_orderOf : GoodIn wsX4_revert wsX4_orderOf := goodIn_r _ [14] (by decide +kernel) (by decide +kernel)
set_option maxRecDepth 20000 in
theorem gX4_revert_X4_orderOf : GoodIn wsX4_revert (va_wsS RX4 55 yX4_orderOf wsX4_orderOf) := goodIn_app (goodIn_of _ (by decide +kernel)) ggX4_revert_X4_orderOf
set_option maxRecDepth 20000 in
theorem ggX4_revert_X4_edges : GoodIn wsX4_revert wsX4_edges := goodIn_r _ [18, 1, 19, 20, 4, 21, 22, 23, 24, 25, 26, 27, 28, 29, 30, 31] (by decide +kernel) (by decide +kernel)
set_option maxRecDepth 20000 in
theorem gX4_revert_X4_edges : GoodIn wsX4_revert (wsV RX4 88 RX4 yX4_edges wsX4_edges) := goodIn_app (goodIn_of _ (by decide +kernel)) ggX4_revert_X4_edges
set_option maxRecDepth 20000 in
theorem ggX4_layLeft_X4_has : GoodIn wsX4_layLeft wsX4_has := goodIn_r _ [6] (by decide +kernel) (by decide +kernel)
set_option maxRecDepth 20000 in
theorem gX4_layLeft_X4_has : GoodIn wsX4_layLeft (va_wsS RX4 43 yX4_has wsX4_has) := goodIn_app (goodIn_of _ (by decide +kernel)) ggX4_layLeft_X4_has
set_option maxRecDepth 20000 in
theorem ggX4_witness_X4_isStream : GoodIn wsX4_witness wsX4_isStream := goodIn_r _ [6, 7, 8, 5, 9] (by decide +kernel) (by decide +kernel)
set_option maxRecDepth 20000 in
theorem gX4_witness_X4_isStream : GoodIn wsX4_witness (va_wsS RX4 76 yX4_isStream wsX4_isStream) := goodIn_app (goodIn_of _ (by decide +kernel)) ggX4_witness_X4_isStream
set_option maxRecDepth 20000 in
theorem ggX4_witness_X4_layLeft : GoodIn wsX4_witness wsX4_layLeft := goodIn_r _ [13, 1, 2, 14, 15, 5, 16, 17, 18, 19, 20, 21, 22, 23, 24, 25, 26] (by decide +kernel) (by decide +kernel)
set_option maxRecDepth 20000 in
theorem gX4_witness_X4_layLeft : GoodIn wsX4_witness (wsV RX4 91 RX4 yX4_layLeft wsX4_layLeft) := goodIn_app (goodIn_of _ (by decide +kernel)) ggX4_witness_X4_layLeft
set_option maxRecDepth 20000 in
theorem ggX4_witness_X4_has : GoodIn wsX4_witness wsX4_has := goodIn_r _ [16] (by decide +kernel) (by decide +kernel)
set_option maxRecDepth 20000 in
theorem gX4_witness_X4_has : GoodIn wsX4_witness (va_wsS RX4 43 yX4_has wsX4_has) := goodIn_app (goodIn_of _ (by decide +kernel)) ggX4_witness_X4_has
set_option maxRecDepth 20000 in
theorem ggX4_send_X4_waiting : GoodIn wsX4_send wsX4_waiting := goodIn_r _ [5, 6, 44, 45, 46, 47, 48, 49, 50, 51, 52, 53] (by decide +kernel) (by decide +kernel)
set_option maxRecDepth 20000 in
theorem gX4_send_X4_waiting : GoodIn wsX4_send (wsV RX4 94 RX4 yX4_waiting wsX4_waiting) := goodIn_app (goodIn_of _ (by decide +kernel)) ggX4_send_X4_waiting
set_option maxRecDepth 20000 in
theorem ggX4_send_X4_remember : GoodIn wsX4_send wsX4_remember := goodIn_r _ [10, 11, 12, 6, 44, 45, 46, 47, 48, 49, 50, 51, 52, 53] (by decide +kernel) (by decide +kernel)
set_option maxRecDepth 20000 in
theorem gX4_send_X4_remember : GoodIn wsX4_send (wsV RX4 82 RX4 yX4_remember wsX4_remember) := goodIn_app (goodIn_of _ (by decide +kernel)) ggX4_send_X4_remember
set_option maxRecDepth 20000 in
theorem ggX4_send_X4_sendNext : GoodIn wsX4_send wsX4_sendNext := goodIn_r _ [16, 6, 17, 18, 19, 4, 20, 21, 22, 23, 24, 25, 26, 27, 28, 29, 30, 31, 32, 33, 34, 35, 36, 37, 38, 39, 40, 41, 42, 43, 44, 45, 46, 47, 48, 49, 50, 51, 52, 53] (by decide +kernel) (by decide +kernel)
set_option maxRecDepth 20000 in
theorem gX4_send_X4_sendNext : GoodIn wsX4_send (wsV RX4 73 RX4 yX4_sendNext wsX4_sendNext) := goodIn_app (goodIn_of _ (by decide +kernel)) ggX4_send_X4_sendNext
set_option maxRecDepth 20000 in
theorem ggX4_sendSome_X4_isIn : GoodIn wsX4_sendSome wsX4_isIn := goodIn_r _ [4] (by decide +kernel) (by decide +kernel)
set_option maxRecDepth 20000 in
theorem gX4_sendSome_X4_isIn : GoodIn wsX4_sendSome (va_wsS RX4 35 yX4_isIn wsX4_isIn) := goodIn_app (goodIn_of _ (by decide +kernel)) ggX4_sendSome_X4_isIn
set_option maxRecDepth 20000 in
theorem ggX4_sendSome_X4_remember : GoodIn wsX4_sendSome wsX4_remember := goodIn_r _ [8, 9, 10, 11, 43, 44, 45, 46, 47, 48, 49, 50, 51, 52] (by decide +kernel) (by decide +kernel)
set_option maxRecDepth 20000 in
theorem gX4_sendSome_X4_remember : GoodIn wsX4_sendSome (wsV RX4 82 RX4 yX4_remember wsX4_remember) := goodIn_app (goodIn_of _ (by decide +kernel)) ggX4_sendSome_X4_remember
set_option maxRecDepth 20000 in
theorem ggX4_sendSome_X4_nextStream : GoodIn wsX4_sendSome wsX4_nextStream := goodIn_r _ [15, 11, 16, 17, 18, 3, 19, 20, 21, 22, 23, 24, 25, 26, 27, 28, 29, 30, 31, 32, 33, 34, 35, 36, 37, 38, 43, 44, 45, 46, 47, 48, 49, 50, 51, 52] (by decide +kernel) (by decide +kernel)
set_option maxRecDepth 20000 in
theorem gX4_sendSome_X4_nextStream : GoodIn wsX4_sendSome (wsV RX4 69 RX4 yX4_nextStream wsX4_nextStream) := goodIn_app (goodIn_of _ (by decide +kernel)) ggX4_sendSome_X4_nextStream
set_option maxRecDepth 20000 in
theorem ggX4_sendSome_X4_frameAt : GoodIn wsX4_sendSome wsX4_frameAt := goodIn_r _ [28, 11, 43, 44, 45, 46, 47, 48, 49, 50, 51, 52] (by decide +kernel) (by decide +kernel)
set_option maxRecDepth 20000 in
theorem gX4_sendSome_X4_frameAt : GoodIn wsX4_sendSome (wsV RX4 51 RX4 yX4_frameAt wsX4_frameAt) := goodIn_app (goodIn_of _ (by decide +kernel)) ggX4_sendSome_X4_frameAt
set_option maxRecDepth 20000 in
theorem ggX4_sendSome_X4_sendNext : GoodIn wsX4_sendSome wsX4_sendNext := goodIn_r _ [42, 11, 12, 13, 14, 3, 15, 16, 17, 18, 19, 20, 21, 22, 23, 24, 25, 26, 27, 28, 29, 30, 31, 32, 33, 34, 35, 36, 37, 38, 43, 44, 45, 46, 47, 48, 49, 50, 51, 52] (by decide +kernel) (by decide +kernel)
set_option maxRecDepth 20000 in
theorem gX4_sendSome_X4_sendNext : GoodIn wsX4_sendSome (wsV RX4 73 RX4 yX4_sendNext wsX4_sendNext) := goodIn_app (goodIn_of _ (by decide +kernel)) ggX4_sendSome_X4_sendNext

set_option maxRecDepth 20000 in
theorem ggX4_waitingSize_X4_frameAt : GoodIn wsX4_waitingSize wsX4_frameAt := goodIn_r _ [6, 1, 7, 8, 9, 10, 11, 12, 13, 14, 15, 16] (by decide +kernel) (by decide +kernel)
set_option maxRecDepth 20000 in
theorem gX4_waitingSize_X4_frameAt : GoodIn wsX4_waitingSize (wsV RX4 51 RX4 yX4_frameAt wsX4_frameAt) := goodIn_app (goodIn_of _ (by decide +kernel)) ggX4_waitingSize_X4_frameAt
set_option maxRecDepth 20000 in
theorem ggX4_allWaitingSizes_X4_waitingSize : GoodIn wsX4_allWaitingSizes wsX4_waitingSize := goodIn_r _ [5, 6, 7, 8, 9, 4, 10, 11, 12, 13, 14, 15, 16, 17, 18, 19, 20] (by decide +kernel) (by decide +kernel)
set_option maxRecDepth 20000 in
theorem gX4_allWaitingSizes_X4_waitingSize : GoodIn wsX4_allWaitingSizes (wsV RX4 97 RX4 yX4_waitingSize wsX4_waitingSize) := goodIn_app (goodIn_of _ (by decide +kernel)) ggX4_allWaitingSizes_X4_waitingSize
set_option maxRecDepth 20000 in
theorem ggX4_candidates_X4_isCandidate : GoodIn wsX4_candidates wsX4_isCandidate := goodIn_r _ [5, 6, 7, 8, 9, 4, 10, 11, 12, 13, 14, 15, 16, 17, 18, 19, 20, 21, 22, 23, 24, 25, 26, 27, 28, 29, 30, 31, 32, 33, 34, 35] (by decide +kernel) (by decide +kernel)
set_option maxRecDepth 20000 in
theorem gX4_candidates_X4_isCandidate : GoodIn wsX4_candidates (wsV RX4 65 RX4 yX4_isCandidate wsX4_isCandidate) := goodIn_app (goodIn_of _ (by decide +kernel)) ggX4_candidates_X4_isCandidate
set_option maxRecDepth 20000 in
theorem ggX4_isCommitted_X4_orderOf : GoodIn wsX4_isCommitted wsX4_orderOf := goodIn_r _ [5] (by decide +kernel) (by decide +kernel)
set_option maxRecDepth 20000 in
theorem gX4_isCommitted_X4_orderOf : GoodIn wsX4_isCommitted (va_wsS RX4 55 yX4_orderOf wsX4_orderOf) := goodIn_app (goodIn_of _ (by decide +kernel)) ggX4_isCommitted_X4_orderOf
set_option maxRecDepth 20000 in
theorem ggX4_told_X4_opened : GoodIn wsX4_told wsX4_opened := goodIn_r _ [7, 1, 62, 63, 64, 65, 66, 67, 68, 69, 70, 71] (by decide +kernel) (by decide +kernel)
set_option maxRecDepth 20000 in
theorem gX4_told_X4_opened : GoodIn wsX4_told (wsV RX4 85 RX4 yX4_opened wsX4_opened) := goodIn_app (goodIn_of _ (by decide +kernel)) ggX4_told_X4_opened
set_option maxRecDepth 20000 in
theorem ggX4_told_X4_waiting : GoodIn wsX4_told wsX4_waiting := goodIn_r _ [11, 1, 62, 63, 64, 65, 66, 67, 68, 69, 70, 71] (by decide +kernel) (by decide +kernel)
set_option maxRecDepth 20000 in
theorem gX4_told_X4_waiting : GoodIn wsX4_told (wsV RX4 94 RX4 yX4_waiting wsX4_waiting) := goodIn_app (goodIn_of _ (by decide +kernel)) ggX4_told_X4_waiting
set_option maxRecDepth 20000 in
theorem ggX4_told_X4_allWaitingSizes : GoodIn wsX4_told wsX4_allWaitingSizes := goodIn_r _ [15, 16, 17, 18, 6, 19, 1, 20, 21, 22, 23, 62, 63, 64, 65, 66, 67, 68, 69, 70, 71] (by decide +kernel) (by decide +kernel)
set_option maxRecDepth 20000 in
theorem gX4_told_X4_allWaitingSizes : GoodIn wsX4_told (wsV RX4 100 RX4 yX4_allWaitingSizes wsX4_allWaitingSizes) := goodIn_app (goodIn_of _ (by decide +kernel)) ggX4_told_X4_allWaitingSizes
set_option maxRecDepth 20000 in
theorem ggX4_told_X4_edges : GoodIn wsX4_told wsX4_edges := goodIn_r _ [27, 1, 28, 29, 6, 30, 62, 63, 64, 65, 66, 67, 68, 69, 70, 71] (by decide +kernel) (by decide +kernel)
set_option maxRecDepth 20000 in
theorem gX4_told_X4_edges : GoodIn wsX4_told (wsV RX4 88 RX4 yX4_edges wsX4_edges) := goodIn_app (goodIn_of _ (by decide +kernel)) ggX4_told_X4_edges
set_option maxRecDepth 20000 in
theorem ggX4_told_X4_candidates : GoodIn wsX4_told wsX4_candidates := goodIn_r _ [34, 35, 36, 37, 6, 38, 1, 39, 40, 41, 42, 43, 20, 21, 22, 23, 44, 45, 46, 47, 48, 49, 50, 51, 52, 53, 62, 63, 64, 65, 66, 67, 68, 69, 70, 71] (by decide +kernel) (by decide +kernel)
set_option maxRecDepth 20000 in
theorem gX4_told_X4_candidates : GoodIn wsX4_told (wsV RX4 103 RX4 yX4_candidates wsX4_candidates) := goodIn_app (goodIn_of _ (by decide +kernel)) ggX4_told_X4_candidates
set_option maxRecDepth 20000 in
theorem ggX4_told_X4_nextStream : GoodIn wsX4_told wsX4_nextStream := goodIn_r _ [57, 1, 35, 36, 37, 6, 38, 39, 40, 41, 42, 43, 20, 21, 22, 23, 44, 45, 46, 47, 48, 49, 50, 51, 52, 53, 62, 63, 64, 65, 66, 67, 68, 69, 70, 71] (by decide +kernel) (by decide +kernel)
set_option maxRecDepth 20000 in
theorem gX4_told_X4_nextStream : GoodIn wsX4_told (wsV RX4 69 RX4 yX4_nextStream wsX4_nextStream) := goodIn_app (goodIn_of _ (by decide +kernel)) ggX4_told_X4_nextStream
set_option maxRecDepth 20000 in
theorem ggX4_told_X4_isCommitted : GoodIn wsX4_told wsX4_isCommitted := goodIn_r _ [61, 1, 44, 45, 6, 46, 62, 63, 64, 65, 66, 67, 68, 69, 70, 71] (by decide +kernel) (by decide +kernel)
set_option maxRecDepth 20000 in
theorem gX4_told_X4_isCommitted : GoodIn wsX4_told (wsV RX4 106 RX4 yX4_isCommitted wsX4_isCommitted) := goodIn_app (goodIn_of _ (by decide +kernel)) ggX4_told_X4_isCommitted
set_option maxRecDepth 20000 in
theorem ggX4_stream_X4_isStream : GoodIn wsX4_stream wsX4_isStream := goodIn_r _ [5, 6, 7, 4, 8] (by decide +kernel) (by decide +kernel)
set_option maxRecDepth 20000 in
theorem gX4_stream_X4_isStream : GoodIn wsX4_stream (va_wsS RX4 76 yX4_isStream wsX4_isStream) := goodIn_app (goodIn_of _ (by decide +kernel)) ggX4_stream_X4_isStream
set_option maxRecDepth 20000 in
theorem ggX4_stream_X4_isIn : GoodIn wsX4_stream wsX4_isIn := goodIn_r _ [8] (by decide +kernel) (by decide +kernel)
set_option maxRecDepth 20000 in
theorem gX4_stream_X4_isIn : GoodIn wsX4_stream (va_wsS RX4 35 yX4_isIn wsX4_isIn) := goodIn_app (goodIn_of _ (by decide +kernel)) ggX4_stream_X4_isIn
set_option maxRecDepth 20000 in
theorem ggX4_stream_X4_waitingSize : GoodIn wsX4_stream wsX4_waitingSize := goodIn_r _ [12, 1, 13, 14, 15, 4, 16, 49, 50, 51, 52, 53, 54, 55, 56, 57, 58] (by decide +kernel) (by decide +kernel)
set_option maxRecDepth 20000 in
theorem gX4_stream_X4_waitingSize : GoodIn wsX4_stream (wsV RX4 97 RX4 yX4_waitingSize wsX4_waitingSize) := goodIn_app (goodIn_of _ (by decide +kernel)) ggX4_stream_X4_waitingSize
set_option maxRecDepth 20000 in
theorem ggX4_stream_X4_isCandidate : GoodIn wsX4_stream wsX4_isCandidate := goodIn_r _ [20, 1, 21, 22, 23, 4, 24, 25, 13, 14, 15, 16, 26, 27, 28, 29, 30, 31, 32, 33, 34, 35, 49, 50, 51, 52, 53, 54, 55, 56, 57, 58] (by decide +kernel) (by decide +kernel)
set_option maxRecDepth 20000 in
theorem gX4_stream_X4_isCandidate : GoodIn wsX4_stream (wsV RX4 65 RX4 yX4_isCandidate wsX4_isCandidate) := goodIn_app (goodIn_of _ (by decide +kernel)) ggX4_stream_X4_isCandidate
set_option maxRecDepth 20000 in
theorem ggX4_stream_X4_blocking : GoodIn wsX4_stream wsX4_blocking := goodIn_r _ [24, 1, 25, 13, 14, 15, 4, 16, 26, 27, 28, 29, 30, 31, 32, 33, 34, 35, 49, 50, 51, 52, 53, 54, 55, 56, 57, 58] (by decide +kernel) (by decide +kernel)
set_option maxRecDepth 20000 in
theorem gX4_stream_X4_blocking : GoodIn wsX4_stream (wsV RX4 62 RX4 yX4_blocking wsX4_blocking) := goodIn_app (goodIn_of _ (by decide +kernel)) ggX4_stream_X4_blocking
set_option maxRecDepth 20000 in
theorem ggX4_stream_X4_frameAt : GoodIn wsX4_stream wsX4_frameAt := goodIn_r _ [16, 1, 49, 50, 51, 52, 53, 54, 55, 56, 57, 58] (by decide +kernel) (by decide +kernel)
set_option maxRecDepth 20000 in
theorem gX4_stream_X4_frameAt : GoodIn wsX4_stream (wsV RX4 51 RX4 yX4_frameAt wsX4_frameAt) := goodIn_app (goodIn_of _ (by decide +kernel)) ggX4_stream_X4_frameAt
set_option maxRecDepth 20000 in
theorem ggX4_stream_X4_before : GoodIn wsX4_stream wsX4_before := goodIn_r _ [39, 40, 1, 41, 42, 43, 4, 44, 45, 46, 47, 48, 17, 18, 19, 20, 21, 22, 23, 24, 25, 13, 14, 15, 16, 26, 27, 28, 29, 30, 31, 32, 33, 34, 35, 49, 50, 51, 52, 53, 54, 55, 56, 57, 58] (by decide +kernel) (by decide +kernel)
set_option maxRecDepth 20000 in
theorem gX4_stream_X4_before : GoodIn wsX4_stream (wsV RX4 110 RX4 yX4_before wsX4_before) := goodIn_app (goodIn_of _ (by decide +kernel)) ggX4_stream_X4_before
set_option maxRecDepth 20000 in
theorem ggX4_frame_X4_isStream : GoodIn wsX4_frame wsX4_isStream := goodIn_r _ [5, 6, 7, 4, 8] (by decide +kernel) (by decide +kernel)
set_option maxRecDepth 20000 in
theorem gX4_frame_X4_isStream : GoodIn wsX4_frame (va_wsS RX4 76 yX4_isStream wsX4_isStream) := goodIn_app (goodIn_of _ (by decide +kernel)) ggX4_frame_X4_isStream
set_option maxRecDepth 20000 in
theorem ggX4_frame_X4_isIn : GoodIn wsX4_frame wsX4_isIn := goodIn_r _ [8] (by decide +kernel) (by decide +kernel)
set_option maxRecDepth 20000 in
theorem gX4_frame_X4_isIn : GoodIn wsX4_frame (va_wsS RX4 35 yX4_isIn wsX4_isIn) := goodIn_app (goodIn_of _ (by decide +kernel)) ggX4_frame_X4_isIn
set_option maxRecDepth 20000 in
theorem ggX4_frame_X4_frameAt : GoodIn wsX4_frame wsX4_frameAt := goodIn_r _ [12, 1, 45, 46, 47, 48, 49, 50, 51, 52, 53, 54] (by decide +kernel) (by decide +kernel)
set_option maxRecDepth 20000 in
theorem gX4_frame_X4_frameAt : GoodIn wsX4_frame (wsV RX4 51 RX4 yX4_frameAt wsX4_frameAt) := goodIn_app (goodIn_of _ (by decide +kernel)) ggX4_frame_X4_frameAt
set_option maxRecDepth 20000 in
theorem ggX4_frame_X4_before : GoodIn wsX4_frame wsX4_before := goodIn_r _ [16, 17, 1, 18, 19, 20, 4, 21, 22, 23, 24, 25, 26, 27, 28, 29, 30, 31, 32, 33, 34, 9, 10, 11, 12, 35, 36, 37, 38, 39, 40, 41, 42, 43, 44, 45, 46, 47, 48, 49, 50, 51, 52, 53, 54] (by decide +kernel) (by decide +kernel)
set_option maxRecDepth 20000 in
theorem gX4_frame_X4_before : GoodIn wsX4_frame (wsV RX4 110 RX4 yX4_before wsX4_before) := goodIn_app (goodIn_of _ (by decide +kernel)) ggX4_frame_X4_before
set_option maxRecDepth 20000 in
theorem ggX4_log_X4_isIn : GoodIn wsX4_log wsX4_isIn := goodIn_r _ [5] (by decide +kernel) (by decide +kernel)
set_option maxRecDepth 20000 in
theorem gX4_log_X4_isIn : GoodIn wsX4_log (va_wsS RX4 35 yX4_isIn wsX4_isIn) := goodIn_app (goodIn_of _ (by decide +kernel)) ggX4_log_X4_isIn
set_option maxRecDepth 20000 in
theorem ggX4_relation_X4_isOrder : GoodIn wsX4_relation wsX4_isOrder := goodIn_r _ [7, 2, 8, 9, 6, 10, 24, 25, 26, 27, 28, 29, 30, 31, 32, 33] (by decide +kernel) (by decide +kernel)
set_option maxRecDepth 20000 in
theorem gX4_relation_X4_isOrder : GoodIn wsX4_relation (wsV RX4 113 RX4 yX4_isOrder wsX4_isOrder) := goodIn_app (goodIn_of _ (by decide +kernel)) ggX4_relation_X4_isOrder
set_option maxRecDepth 20000 in
theorem ggX4_relation_X4_isStream : GoodIn wsX4_relation wsX4_isStream := goodIn_r _ [13, 8, 9, 6, 10] (by decide +kernel) (by decide +kernel)
set_option maxRecDepth 20000 in
theorem gX4_relation_X4_isStream : GoodIn wsX4_relation (va_wsS RX4 76 yX4_isStream wsX4_isStream) := goodIn_app (goodIn_of _ (by decide +kernel)) ggX4_relation_X4_isStream
set_option maxRecDepth 20000 in
theorem ggX4_relation_X4_orderOf : GoodIn wsX4_relation wsX4_orderOf := goodIn_r _ [16] (by decide +kernel) (by decide +kernel)
set_option maxRecDepth 20000 in
theorem gX4_relation_X4_orderOf : GoodIn wsX4_relation (va_wsS RX4 55 yX4_orderOf wsX4_orderOf) := goodIn_app (goodIn_of _ (by decide +kernel)) ggX4_relation_X4_orderOf
set_option maxRecDepth 20000 in
theorem ggX4_relation_X4_layAfter : GoodIn wsX4_relation wsX4_layAfter := goodIn_r _ [20, 1, 2, 21, 22, 6, 23, 24, 25, 26, 27, 28, 29, 30, 31, 32, 33] (by decide +kernel) (by decide +kernel)
set_option maxRecDepth 20000 in
theorem gX4_relation_X4_layAfter : GoodIn wsX4_relation (wsV RX4 58 RX4 yX4_layAfter wsX4_layAfter) := goodIn_app (goodIn_of _ (by decide +kernel)) ggX4_relation_X4_layAfter
set_option maxRecDepth 20000 in
theorem ggX4_relation_X4_has : GoodIn wsX4_relation wsX4_has := goodIn_r _ [23] (by decide +kernel) (by decide +kernel)
set_option maxRecDepth 20000 in
theorem gX4_relation_X4_has : GoodIn wsX4_relation (va_wsS RX4 43 yX4_has wsX4_has) := goodIn_app (goodIn_of _ (by decide +kernel)) ggX4_relation_X4_has

set_option maxRecDepth 20000 in
theorem ggX4_pairs_X4_has : GoodIn wsX4_pairs wsX4_has := goodIn_r _ [5] (by decide +kernel) (by decide +kernel)
set_option maxRecDepth 20000 in
theorem gX4_pairs_X4_has : GoodIn wsX4_pairs (va_wsS RX4 43 yX4_has wsX4_has) := goodIn_app (goodIn_of _ (by decide +kernel)) ggX4_pairs_X4_has
set_option maxRecDepth 20000 in
theorem ggX4_pairs_X4_size : GoodIn wsX4_pairs wsX4_size := goodIn_r _ [8] (by decide +kernel) (by decide +kernel)
set_option maxRecDepth 20000 in
theorem gX4_pairs_X4_size : GoodIn wsX4_pairs (va_wsS RX4 47 yX4_size wsX4_size) := goodIn_app (goodIn_of _ (by decide +kernel)) ggX4_pairs_X4_size
set_option maxRecDepth 20000 in
theorem ggX4_longest_X4_has : GoodIn wsX4_longest wsX4_has := goodIn_r _ [6] (by decide +kernel) (by decide +kernel)
set_option maxRecDepth 20000 in
theorem gX4_longest_X4_has : GoodIn wsX4_longest (va_wsS RX4 43 yX4_has wsX4_has) := goodIn_app (goodIn_of _ (by decide +kernel)) ggX4_longest_X4_has
set_option maxRecDepth 20000 in
theorem ggX4_widest_X4_pairs : GoodIn wsX4_widest wsX4_pairs := goodIn_r _ [5, 6, 7, 8, 4, 9, 10, 11, 12, 13, 14, 15, 16, 17, 18, 19, 20, 21, 22] (by decide +kernel) (by decide +kernel)
set_option maxRecDepth 20000 in
theorem gX4_widest_X4_pairs : GoodIn wsX4_widest (wsV RX4 116 RX4 yX4_pairs wsX4_pairs) := goodIn_app (goodIn_of _ (by decide +kernel)) ggX4_widest_X4_pairs
set_option maxRecDepth 20000 in
theorem ggX4_widest_X4_size : GoodIn wsX4_widest wsX4_size := goodIn_r _ [12] (by decide +kernel) (by decide +kernel)
set_option maxRecDepth 20000 in
theorem gX4_widest_X4_size : GoodIn wsX4_widest (va_wsS RX4 47 yX4_size wsX4_size) := goodIn_app (goodIn_of _ (by decide +kernel)) ggX4_widest_X4_size
set_option maxRecDepth 20000 in
theorem ggX4_first_X4_has : GoodIn wsX4_first wsX4_has := goodIn_r _ [5] (by decide +kernel) (by decide +kernel)
set_option maxRecDepth 20000 in
theorem gX4_first_X4_has : GoodIn wsX4_first (va_wsS RX4 43 yX4_has wsX4_has) := goodIn_app (goodIn_of _ (by decide +kernel)) ggX4_first_X4_has
set_option maxRecDepth 20000 in
theorem ggX4_first_X4_size : GoodIn wsX4_first wsX4_size := goodIn_r _ [8] (by decide +kernel) (by decide +kernel)
set_option maxRecDepth 20000 in
theorem gX4_first_X4_size : GoodIn wsX4_first (va_wsS RX4 47 yX4_size wsX4_size) := goodIn_app (goodIn_of _ (by decide +kernel)) ggX4_first_X4_size
set_option maxRecDepth 20000 in
theorem ggX4_superfluous_X4_has : GoodIn wsX4_superfluous wsX4_has := goodIn_r _ [6] (by decide +kernel) (by decide +kernel)
set_option maxRecDepth 20000 in
theorem gX4_superfluous_X4_has : GoodIn wsX4_superfluous (va_wsS RX4 43 yX4_has wsX4_has) := goodIn_app (goodIn_of _ (by decide +kernel)) ggX4_superfluous_X4_has
set_option maxRecDepth 20000 in
theorem ggX4_superfluous_X4_size : GoodIn wsX4_superfluous wsX4_size := goodIn_r _ [9] (by decide +kernel) (by decide +kernel)
set_option maxRecDepth 20000 in
theorem gX4_superfluous_X4_size : GoodIn wsX4_superfluous (va_wsS RX4 47 yX4_size wsX4_size) := goodIn_app (goodIn_of _ (by decide +kernel)) ggX4_superfluous_X4_size
set_option maxRecDepth 20000 in
theorem ggX4_order_X4_isOrder : GoodIn wsX4_order wsX4_isOrder := goodIn_r _ [5, 6, 7, 8, 4, 9, 49, 50, 51, 52, 53, 54, 55, 56, 57, 58] (by decide +kernel) (by decide +kernel)
set_option maxRecDepth 20000 in
theorem gX4_order_X4_isOrder : GoodIn wsX4_order (wsV RX4 113 RX4 yX4_isOrder wsX4_isOrder) := goodIn_app (goodIn_of _ (by decide +kernel)) ggX4_order_X4_isOrder
set_option maxRecDepth 20000 in
theorem ggX4_order_X4_isIn : GoodIn wsX4_order wsX4_isIn := goodIn_r _ [9] (by decide +kernel) (by decide +kernel)
set_option maxRecDepth 20000 in
theorem gX4_order_X4_isIn : GoodIn wsX4_order (va_wsS RX4 35 yX4_isIn wsX4_isIn) := goodIn_app (goodIn_of _ (by decide +kernel)) ggX4_order_X4_isIn
set_option maxRecDepth 20000 in
theorem ggX4_order_X4_orderOf : GoodIn wsX4_order wsX4_orderOf := goodIn_r _ [12] (by decide +kernel) (by decide +kernel)
set_option maxRecDepth 20000 in
theorem gX4_order_X4_orderOf : GoodIn wsX4_order (va_wsS RX4 55 yX4_orderOf wsX4_orderOf) := goodIn_app (goodIn_of _ (by decide +kernel)) ggX4_order_X4_orderOf
set_option maxRecDepth 20000 in
theorem ggX4_order_X4_layAfter : GoodIn wsX4_order wsX4_layAfter := goodIn_r _ [16, 17, 6, 18, 19, 4, 20, 49, 50, 51, 52, 53, 54, 55, 56, 57, 58] (by decide +kernel) (by decide +kernel)
set_option maxRecDepth 20000 in
theorem gX4_order_X4_layAfter : GoodIn wsX4_order (wsV RX4 58 RX4 yX4_layAfter wsX4_layAfter) := goodIn_app (goodIn_of _ (by decide +kernel)) ggX4_order_X4_layAfter
set_option maxRecDepth 20000 in
theorem ggX4_order_X4_openSet : GoodIn wsX4_order wsX4_openSet := goodIn_r _ [24, 6, 49, 50, 51, 52, 53, 54, 55, 56, 57, 58] (by decide +kernel) (by decide +kernel)
set_option maxRecDepth 20000 in
theorem gX4_order_X4_openSet : GoodIn wsX4_order (wsV RX4 119 RX4 yX4_openSet wsX4_openSet) := goodIn_app (goodIn_of _ (by decide +kernel)) ggX4_order_X4_openSet
set_option maxRecDepth 20000 in
theorem ggX4_order_X4_pairs : GoodIn wsX4_order wsX4_pairs := goodIn_r _ [28, 17, 18, 19, 4, 20, 29, 30, 31, 49, 50, 51, 52, 53, 54, 55, 56, 57, 58] (by decide +kernel) (by decide +kernel)
set_option maxRecDepth 20000 in
theorem gX4_order_X4_pairs : GoodIn wsX4_order (wsV RX4 116 RX4 yX4_pairs wsX4_pairs) := goodIn_app (goodIn_of _ (by decide +kernel)) ggX4_order_X4_pairs
set_option maxRecDepth 20000 in
theorem ggX4_order_X4_longest : GoodIn wsX4_order wsX4_longest := goodIn_r _ [35, 17, 36, 18, 19, 4, 20, 49, 50, 51, 52, 53, 54, 55, 56, 57, 58] (by decide +kernel) (by decide +kernel)
set_option maxRecDepth 20000 in
theorem gX4_order_X4_longest : GoodIn wsX4_order (wsV RX4 122 RX4 yX4_longest wsX4_longest) := goodIn_app (goodIn_of _ (by decide +kernel)) ggX4_order_X4_longest
set_option maxRecDepth 20000 in
theorem ggX4_order_X4_widest : GoodIn wsX4_order wsX4_widest := goodIn_r _ [40, 25, 26, 27, 4, 28, 17, 18, 19, 20, 29, 30, 31, 49, 50, 51, 52, 53, 54, 55, 56, 57, 58] (by decide +kernel) (by decide +kernel)
set_option maxRecDepth 20000 in
theorem gX4_order_X4_widest : GoodIn wsX4_order (wsV RX4 125 RX4 yX4_widest wsX4_widest) := goodIn_app (goodIn_of _ (by decide +kernel)) ggX4_order_X4_widest
set_option maxRecDepth 20000 in
theorem ggX4_order_X4_first : GoodIn wsX4_order wsX4_first := goodIn_r _ [44, 17, 18, 19, 4, 20, 29, 30, 31, 49, 50, 51, 52, 53, 54, 55, 56, 57, 58] (by decide +kernel) (by decide +kernel)
set_option maxRecDepth 20000 in
theorem gX4_order_X4_first : GoodIn wsX4_order (wsV RX4 128 RX4 yX4_first wsX4_first) := goodIn_app (goodIn_of _ (by decide +kernel)) ggX4_order_X4_first
set_option maxRecDepth 20000 in
theorem ggX4_order_X4_superfluous : GoodIn wsX4_order wsX4_superfluous := goodIn_r _ [48, 6, 17, 18, 19, 4, 20, 29, 30, 31, 49, 50, 51, 52, 53, 54, 55, 56, 57, 58] (by decide +kernel) (by decide +kernel)
set_option maxRecDepth 20000 in
theorem gX4_order_X4_superfluous : GoodIn wsX4_order (wsV RX4 131 RX4 yX4_superfluous wsX4_superfluous) := goodIn_app (goodIn_of _ (by decide +kernel)) ggX4_order_X4_superfluous
set_option maxRecDepth 20000 in
theorem ggX4_lists_X4_isOrder : GoodIn wsX4_lists wsX4_isOrder := goodIn_r _ [8, 9, 10, 11, 7, 12, 27, 28, 29, 30, 31, 32, 33, 34, 35, 36] (by decide +kernel) (by decide +kernel)
set_option maxRecDepth 20000 in
theorem gX4_lists_X4_isOrder : GoodIn wsX4_lists (wsV RX4 113 RX4 yX4_isOrder wsX4_isOrder) := goodIn_app (goodIn_of _ (by decide +kernel)) ggX4_lists_X4_isOrder
set_option maxRecDepth 20000 in
theorem ggX4_lists_X4_orderOf : GoodIn wsX4_lists wsX4_orderOf := goodIn_r _ [15] (by decide +kernel) (by decide +kernel)
set_option maxRecDepth 20000 in
theorem gX4_lists_X4_orderOf : GoodIn wsX4_lists (va_wsS RX4 55 yX4_orderOf wsX4_orderOf) := goodIn_app (goodIn_of _ (by decide +kernel)) ggX4_lists_X4_orderOf
set_option maxRecDepth 20000 in
theorem ggX4_lists_X4_layAfter : GoodIn wsX4_lists wsX4_layAfter := goodIn_r _ [19, 3, 9, 20, 21, 7, 22, 27, 28, 29, 30, 31, 32, 33, 34, 35, 36] (by decide +kernel) (by decide +kernel)
set_option maxRecDepth 20000 in
theorem gX4_lists_X4_layAfter : GoodIn wsX4_lists (wsV RX4 58 RX4 yX4_layAfter wsX4_layAfter) := goodIn_app (goodIn_of _ (by decide +kernel)) ggX4_lists_X4_layAfter
set_option maxRecDepth 20000 in
theorem ggX4_lists_X4_openSet : GoodIn wsX4_lists wsX4_openSet := goodIn_r _ [26, 9, 27, 28, 29, 30, 31, 32, 33, 34, 35, 36] (by decide +kernel) (by decide +kernel)
set_option maxRecDepth 20000 in
theorem gX4_lists_X4_openSet : GoodIn wsX4_lists (wsV RX4 119 RX4 yX4_openSet wsX4_openSet) := goodIn_app (goodIn_of _ (by decide +kernel)) ggX4_lists_X4_openSet
set_option maxRecDepth 20000 in
theorem ggX4_lists_X4_has : GoodIn wsX4_lists wsX4_has := goodIn_r _ [22] (by decide +kernel) (by decide +kernel)
set_option maxRecDepth 20000 in
theorem gX4_lists_X4_has : GoodIn wsX4_lists (va_wsS RX4 43 yX4_has wsX4_has) := goodIn_app (goodIn_of _ (by decide +kernel)) ggX4_lists_X4_has
set_option maxRecDepth 20000 in
theorem ggX4_isImage_X4_isIn : GoodIn wsX4_isImage wsX4_isIn := goodIn_r _ [4] (by decide +kernel) (by decide +kernel)
set_option maxRecDepth 20000 in
theorem gX4_isImage_X4_isIn : GoodIn wsX4_isImage (va_wsS RX4 35 yX4_isIn wsX4_isIn) := goodIn_app (goodIn_of _ (by decide +kernel)) ggX4_isImage_X4_isIn
set_option maxRecDepth 20000 in
theorem ggX4_keep_X4_isImage : GoodIn wsX4_keep wsX4_isImage := goodIn_r _ [7, 8, 9, 6, 10] (by decide +kernel) (by decide +kernel)
set_option maxRecDepth 20000 in
theorem gX4_keep_X4_isImage : GoodIn wsX4_keep (va_wsS RX4 136 yX4_isImage wsX4_isImage) := goodIn_app (goodIn_of _ (by decide +kernel)) ggX4_keep_X4_isImage
set_option maxRecDepth 20000 in
theorem ggX4_keep_X4_waiting : GoodIn wsX4_keep wsX4_waiting := goodIn_r _ [14, 2, 15, 16, 17, 18, 19, 20, 21, 22, 23, 24] (by decide +kernel) (by decide +kernel)
set_option maxRecDepth 20000 in
theorem gX4_keep_X4_waiting : GoodIn wsX4_keep (wsV RX4 94 RX4 yX4_waiting wsX4_waiting) := goodIn_app (goodIn_of _ (by decide +kernel)) ggX4_keep_X4_waiting
set_option maxRecDepth 20000 in
theorem ggX4_back_X4_isImage : GoodIn wsX4_back wsX4_isImage := goodIn_r _ [7, 8, 9, 6, 10] (by decide +kernel) (by decide +kernel)
set_option maxRecDepth 20000 in
theorem gX4_back_X4_isImage : GoodIn wsX4_back (va_wsS RX4 136 yX4_isImage wsX4_isImage) := goodIn_app (goodIn_of _ (by decide +kernel)) ggX4_back_X4_isImage
set_option maxRecDepth 20000 in
theorem ggX4_back_X4_has : GoodIn wsX4_back wsX4_has := goodIn_r _ [13] (by decide +kernel) (by decide +kernel)
set_option maxRecDepth 20000 in
theorem gX4_back_X4_has : GoodIn wsX4_back (va_wsS RX4 43 yX4_has wsX4_has) := goodIn_app (goodIn_of _ (by decide +kernel)) ggX4_back_X4_has
set_option maxRecDepth 20000 in
theorem ggX4_back_X4_remember : GoodIn wsX4_back wsX4_remember := goodIn_r _ [17, 18, 19, 2, 24, 25, 26, 27, 28, 29, 30, 31, 32, 33] (by decide +kernel) (by decide +kernel)
set_option maxRecDepth 20000 in
theorem gX4_back_X4_remember : GoodIn wsX4_back (wsV RX4 82 RX4 yX4_remember wsX4_remember) := goodIn_app (goodIn_of _ (by decide +kernel)) ggX4_back_X4_remember
set_option maxRecDepth 20000 in
theorem ggX4_back_X4_waiting : GoodIn wsX4_back wsX4_waiting := goodIn_r _ [23, 2, 24, 25, 26, 27, 28, 29, 30, 31, 32, 33] (by decide +kernel) (by decide +kernel)
set_option maxRecDepth 20000 in
theorem gX4_back_X4_waiting : GoodIn wsX4_back (wsV RX4 94 RX4 yX4_waiting wsX4_waiting) := goodIn_app (goodIn_of _ (by decide +kernel)) ggX4_back_X4_waiting
