theorem dX2_copyFrom_0 : decode cX2_copyFrom 0 = .ok (.aload_n 0, 1) := by decide +kernel
theorem dX2_copyFrom_1 : decode cX2_copyFrom 1 = .ok (.aload_n 1, 1) := by decide +kernel
theorem dX2_copyFrom_2 : decode cX2_copyFrom 2 = .ok (.getfield 9, 3) := by decide +kernel
theorem dX2_copyFrom_5 : decode cX2_copyFrom 5 = .ok (.putfield 9, 3) := by decide +kernel
theorem dX2_copyFrom_8 : decode cX2_copyFrom 8 = .ok (.iconst 0, 1) := by decide +kernel
theorem dX2_copyFrom_9 : decode cX2_copyFrom 9 = .ok (.istore_n 2, 1) := by decide +kernel
theorem dX2_copyFrom_10 : decode cX2_copyFrom 10 = .ok (.iload_n 2, 1) := by decide +kernel
theorem dX2_copyFrom_11 : decode cX2_copyFrom 11 = .ok (.bipush 8, 2) := by decide +kernel
theorem dX2_copyFrom_13 : decode cX2_copyFrom 13 = .ok (.if_icmp .ge 48, 3) := by decide +kernel
theorem dX2_copyFrom_16 : decode cX2_copyFrom 16 = .ok (.aload_n 0, 1) := by decide +kernel
theorem dX2_copyFrom_17 : decode cX2_copyFrom 17 = .ok (.getfield 15, 3) := by decide +kernel
theorem dX2_copyFrom_20 : decode cX2_copyFrom 20 = .ok (.iload_n 2, 1) := by decide +kernel
theorem dX2_copyFrom_21 : decode cX2_copyFrom 21 = .ok (.aload_n 1, 1) := by decide +kernel
theorem dX2_copyFrom_22 : decode cX2_copyFrom 22 = .ok (.getfield 15, 3) := by decide +kernel
theorem dX2_copyFrom_25 : decode cX2_copyFrom 25 = .ok (.iload_n 2, 1) := by decide +kernel
theorem dX2_copyFrom_26 : decode cX2_copyFrom 26 = .ok (.iaload, 1) := by decide +kernel
theorem dX2_copyFrom_27 : decode cX2_copyFrom 27 = .ok (.iastore, 1) := by decide +kernel
theorem dX2_copyFrom_28 : decode cX2_copyFrom 28 = .ok (.aload_n 0, 1) := by decide +kernel
theorem dX2_copyFrom_29 : decode cX2_copyFrom 29 = .ok (.getfield 19, 3) := by decide +kernel
theorem dX2_copyFrom_32 : decode cX2_copyFrom 32 = .ok (.iload_n 2, 1) := by decide +kernel
theorem dX2_copyFrom_33 : decode cX2_copyFrom 33 = .ok (.aload_n 1, 1) := by decide +kernel
theorem dX2_copyFrom_34 : decode cX2_copyFrom 34 = .ok (.getfield 19, 3) := by decide +kernel
theorem dX2_copyFrom_37 : decode cX2_copyFrom 37 = .ok (.iload_n 2, 1) := by decide +kernel
theorem dX2_copyFrom_38 : decode cX2_copyFrom 38 = .ok (.iaload, 1) := by decide +kernel
theorem dX2_copyFrom_39 : decode cX2_copyFrom 39 = .ok (.iastore, 1) := by decide +kernel
theorem dX2_copyFrom_40 : decode cX2_copyFrom 40 = .ok (.aload_n 0, 1) := by decide +kernel
theorem dX2_copyFrom_41 : decode cX2_copyFrom 41 = .ok (.getfield 24, 3) := by decide +kernel
theorem dX2_copyFrom_44 : decode cX2_copyFrom 44 = .ok (.iload_n 2, 1) := by decide +kernel
theorem dX2_copyFrom_45 : decode cX2_copyFrom 45 = .ok (.aaload, 1) := by decide +kernel
theorem dX2_copyFrom_46 : decode cX2_copyFrom 46 = .ok (.aload_n 1, 1) := by decide +kernel
theorem dX2_copyFrom_47 : decode cX2_copyFrom 47 = .ok (.getfield 24, 3) := by decide +kernel
theorem dX2_copyFrom_50 : decode cX2_copyFrom 50 = .ok (.iload_n 2, 1) := by decide +kernel
theorem dX2_copyFrom_51 : decode cX2_copyFrom 51 = .ok (.aaload, 1) := by decide +kernel
theorem dX2_copyFrom_52 : decode cX2_copyFrom 52 = .ok (.invokevirtual 55, 3) := by decide +kernel
theorem dX2_copyFrom_55 : decode cX2_copyFrom 55 = .ok (.iinc 2 1, 3) := by decide +kernel
theorem dX2_copyFrom_58 : decode cX2_copyFrom 58 = .ok (.goto (-48), 3) := by decide +kernel
theorem dX2_copyFrom_61 : decode cX2_copyFrom 61 = .ok (.aload_n 0, 1) := by decide +kernel
theorem dX2_copyFrom_62 : decode cX2_copyFrom 62 = .ok (.getfield 34, 3) := by decide +kernel
theorem dX2_copyFrom_65 : decode cX2_copyFrom 65 = .ok (.aload_n 1, 1) := by decide +kernel
theorem dX2_copyFrom_66 : decode cX2_copyFrom 66 = .ok (.getfield 34, 3) := by decide +kernel
theorem dX2_copyFrom_69 : decode cX2_copyFrom 69 = .ok (.invokevirtual 59, 3) := by decide +kernel
theorem dX2_copyFrom_72 : decode cX2_copyFrom 72 = .ok (.aload_n 0, 1) := by decide +kernel
theorem dX2_copyFrom_73 : decode cX2_copyFrom 73 = .ok (.aload_n 1, 1) := by decide +kernel
theorem dX2_copyFrom_74 : decode cX2_copyFrom 74 = .ok (.getfield 42, 3) := by decide +kernel
theorem dX2_copyFrom_77 : decode cX2_copyFrom 77 = .ok (.putfield 42, 3) := by decide +kernel
theorem dX2_copyFrom_80 : decode cX2_copyFrom 80 = .ok (.iconst 0, 1) := by decide +kernel
theorem dX2_copyFrom_81 : decode cX2_copyFrom 81 = .ok (.istore_n 2, 1) := by decide +kernel
theorem dX2_copyFrom_82 : decode cX2_copyFrom 82 = .ok (.iload_n 2, 1) := by decide +kernel
theorem dX2_copyFrom_83 : decode cX2_copyFrom 83 = .ok (.aload_n 0, 1) := by decide +kernel
theorem dX2_copyFrom_84 : decode cX2_copyFrom 84 = .ok (.getfield 42, 3) := by decide +kernel
theorem dX2_copyFrom_87 : decode cX2_copyFrom 87 = .ok (.if_icmp .ge 30, 3) := by decide +kernel
theorem dX2_copyFrom_90 : decode cX2_copyFrom 90 = .ok (.iload_n 2, 1) := by decide +kernel
theorem dX2_copyFrom_91 : decode cX2_copyFrom 91 = .ok (.bipush 10, 2) := by decide +kernel
theorem dX2_copyFrom_93 : decode cX2_copyFrom 93 = .ok (.if_icmp .ge 24, 3) := by decide +kernel
theorem dX2_copyFrom_96 : decode cX2_copyFrom 96 = .ok (.aload_n 0, 1) := by decide +kernel
theorem dX2_copyFrom_97 : decode cX2_copyFrom 97 = .ok (.getfield 38, 3) := by decide +kernel
theorem dX2_copyFrom_100 : decode cX2_copyFrom 100 = .ok (.iload_n 2, 1) := by decide +kernel
theorem dX2_copyFrom_101 : decode cX2_copyFrom 101 = .ok (.aaload, 1) := by decide +kernel
theorem dX2_copyFrom_102 : decode cX2_copyFrom 102 = .ok (.aload_n 1, 1) := by decide +kernel
theorem dX2_copyFrom_103 : decode cX2_copyFrom 103 = .ok (.getfield 38, 3) := by decide +kernel
theorem dX2_copyFrom_106 : decode cX2_copyFrom 106 = .ok (.iload_n 2, 1) := by decide +kernel
theorem dX2_copyFrom_107 : decode cX2_copyFrom 107 = .ok (.aaload, 1) := by decide +kernel
theorem dX2_copyFrom_108 : decode cX2_copyFrom 108 = .ok (.invokevirtual 59, 3) := by decide +kernel
theorem dX2_copyFrom_111 : decode cX2_copyFrom 111 = .ok (.iinc 2 1, 3) := by decide +kernel
theorem dX2_copyFrom_114 : decode cX2_copyFrom 114 = .ok (.goto (-32), 3) := by decide +kernel
theorem dX2_copyFrom_117 : decode cX2_copyFrom 117 = .ok (.aload_n 0, 1) := by decide +kernel
theorem dX2_copyFrom_118 : decode cX2_copyFrom 118 = .ok (.aload_n 1, 1) := by decide +kernel
theorem dX2_copyFrom_119 : decode cX2_copyFrom 119 = .ok (.getfield 45, 3) := by decide +kernel
theorem dX2_copyFrom_122 : decode cX2_copyFrom 122 = .ok (.putfield 45, 3) := by decide +kernel
theorem dX2_copyFrom_125 : decode cX2_copyFrom 125 = .ok (.aload_n 0, 1) := by decide +kernel
theorem dX2_copyFrom_126 : decode cX2_copyFrom 126 = .ok (.aload_n 1, 1) := by decide +kernel
theorem dX2_copyFrom_127 : decode cX2_copyFrom 127 = .ok (.getfield 48, 3) := by decide +kernel
theorem dX2_copyFrom_130 : decode cX2_copyFrom 130 = .ok (.putfield 48, 3) := by decide +kernel
theorem dX2_copyFrom_133 : decode cX2_copyFrom 133 = .ok (.aload_n 0, 1) := by decide +kernel
theorem dX2_copyFrom_134 : decode cX2_copyFrom 134 = .ok (.getfield 51, 3) := by decide +kernel
theorem dX2_copyFrom_137 : decode cX2_copyFrom 137 = .ok (.aload_n 1, 1) := by decide +kernel
theorem dX2_copyFrom_138 : decode cX2_copyFrom 138 = .ok (.getfield 51, 3) := by decide +kernel
theorem dX2_copyFrom_141 : decode cX2_copyFrom 141 = .ok (.invokevirtual 55, 3) := by decide +kernel
theorem dX2_copyFrom_144 : decode cX2_copyFrom 144 = .ok (.return_, 1) := by decide +kernel
theorem dX2_isOpen_0 : decode cX2_isOpen 0 = .ok (.aload_n 0, 1) := by decide +kernel
theorem dX2_isOpen_1 : decode cX2_isOpen 1 = .ok (.getfield 9, 3) := by decide +kernel
theorem dX2_isOpen_4 : decode cX2_isOpen 4 = .ok (.iload_n 1, 1) := by decide +kernel
theorem dX2_isOpen_5 : decode cX2_isOpen 5 = .ok (.invokestatic 62, 3) := by decide +kernel
theorem dX2_isOpen_8 : decode cX2_isOpen 8 = .ok (.ireturn, 1) := by decide +kernel
theorem dX2_openStream_0 : decode cX2_openStream 0 = .ok (.iload_n 1, 1) := by decide +kernel
theorem dX2_openStream_1 : decode cX2_openStream 1 = .ok (.invokestatic 66, 3) := by decide +kernel
theorem dX2_openStream_4 : decode cX2_openStream 4 = .ok (.ifCond .ne 4, 3) := by decide +kernel
theorem dX2_openStream_7 : decode cX2_openStream 7 = .ok (.return_, 1) := by decide +kernel
theorem dX2_openStream_8 : decode cX2_openStream 8 = .ok (.aload_n 0, 1) := by decide +kernel
theorem dX2_openStream_9 : decode cX2_openStream 9 = .ok (.dup, 1) := by decide +kernel
theorem dX2_openStream_10 : decode cX2_openStream 10 = .ok (.getfield 9, 3) := by decide +kernel
theorem dX2_openStream_13 : decode cX2_openStream 13 = .ok (.iload_n 1, 1) := by decide +kernel
theorem dX2_openStream_14 : decode cX2_openStream 14 = .ok (.invokestatic 70, 3) := by decide +kernel
theorem dX2_openStream_17 : decode cX2_openStream 17 = .ok (.ior, 1) := by decide +kernel
theorem dX2_openStream_18 : decode cX2_openStream 18 = .ok (.putfield 9, 3) := by decide +kernel
theorem dX2_openStream_21 : decode cX2_openStream 21 = .ok (.aload_n 0, 1) := by decide +kernel
theorem dX2_openStream_22 : decode cX2_openStream 22 = .ok (.getfield 15, 3) := by decide +kernel
theorem dX2_openStream_25 : decode cX2_openStream 25 = .ok (.iload_n 1, 1) := by decide +kernel
theorem dX2_openStream_26 : decode cX2_openStream 26 = .ok (.iload_n 2, 1) := by decide +kernel
theorem dX2_openStream_27 : decode cX2_openStream 27 = .ok (.iastore, 1) := by decide +kernel
theorem dX2_openStream_28 : decode cX2_openStream 28 = .ok (.aload_n 0, 1) := by decide +kernel
theorem dX2_openStream_29 : decode cX2_openStream 29 = .ok (.getfield 19, 3) := by decide +kernel
theorem dX2_openStream_32 : decode cX2_openStream 32 = .ok (.iload_n 1, 1) := by decide +kernel
theorem dX2_openStream_33 : decode cX2_openStream 33 = .ok (.iconst 0, 1) := by decide +kernel
theorem dX2_openStream_34 : decode cX2_openStream 34 = .ok (.iastore, 1) := by decide +kernel
theorem dX2_openStream_35 : decode cX2_openStream 35 = .ok (.return_, 1) := by decide +kernel
theorem dX2_closeStream_0 : decode cX2_closeStream 0 = .ok (.aload_n 0, 1) := by decide +kernel
theorem dX2_closeStream_1 : decode cX2_closeStream 1 = .ok (.dup, 1) := by decide +kernel
theorem dX2_closeStream_2 : decode cX2_closeStream 2 = .ok (.getfield 9, 3) := by decide +kernel
theorem dX2_closeStream_5 : decode cX2_closeStream 5 = .ok (.iload_n 1, 1) := by decide +kernel
theorem dX2_closeStream_6 : decode cX2_closeStream 6 = .ok (.invokestatic 70, 3) := by decide +kernel
theorem dX2_closeStream_9 : decode cX2_closeStream 9 = .ok (.iconst (-1), 1) := by decide +kernel
theorem dX2_closeStream_10 : decode cX2_closeStream 10 = .ok (.ixor, 1) := by decide +kernel
theorem dX2_closeStream_11 : decode cX2_closeStream 11 = .ok (.iand, 1) := by decide +kernel
theorem dX2_closeStream_12 : decode cX2_closeStream 12 = .ok (.putfield 9, 3) := by decide +kernel
theorem dX2_closeStream_15 : decode cX2_closeStream 15 = .ok (.return_, 1) := by decide +kernel
theorem dX2_currentEpoch_0 : decode cX2_currentEpoch 0 = .ok (.aload_n 0, 1) := by decide +kernel
theorem dX2_currentEpoch_1 : decode cX2_currentEpoch 1 = .ok (.getfield 42, 3) := by decide +kernel
theorem dX2_currentEpoch_4 : decode cX2_currentEpoch 4 = .ok (.iconst 1, 1) := by decide +kernel
theorem dX2_currentEpoch_5 : decode cX2_currentEpoch 5 = .ok (.isub, 1) := by decide +kernel
theorem dX2_currentEpoch_6 : decode cX2_currentEpoch 6 = .ok (.ireturn, 1) := by decide +kernel
theorem dX2_orderOf_0 : decode cX2_orderOf 0 = .ok (.iload_n 1, 1) := by decide +kernel
theorem dX2_orderOf_1 : decode cX2_orderOf 1 = .ok (.ifCond .lt 26, 3) := by decide +kernel
theorem dX2_orderOf_4 : decode cX2_orderOf 4 = .ok (.iload_n 1, 1) := by decide +kernel
theorem dX2_orderOf_5 : decode cX2_orderOf 5 = .ok (.aload_n 0, 1) := by decide +kernel
theorem dX2_orderOf_6 : decode cX2_orderOf 6 = .ok (.getfield 42, 3) := by decide +kernel
theorem dX2_orderOf_9 : decode cX2_orderOf 9 = .ok (.if_icmp .ge 18, 3) := by decide +kernel
theorem dX2_orderOf_12 : decode cX2_orderOf 12 = .ok (.iload_n 1, 1) := by decide +kernel
theorem dX2_orderOf_13 : decode cX2_orderOf 13 = .ok (.bipush 10, 2) := by decide +kernel
theorem dX2_orderOf_15 : decode cX2_orderOf 15 = .ok (.if_icmp .ge 12, 3) := by decide +kernel
theorem dX2_orderOf_18 : decode cX2_orderOf 18 = .ok (.aload_n 0, 1) := by decide +kernel
theorem dX2_orderOf_19 : decode cX2_orderOf 19 = .ok (.getfield 38, 3) := by decide +kernel
theorem dX2_orderOf_22 : decode cX2_orderOf 22 = .ok (.iload_n 1, 1) := by decide +kernel
theorem dX2_orderOf_23 : decode cX2_orderOf 23 = .ok (.aaload, 1) := by decide +kernel
theorem dX2_orderOf_24 : decode cX2_orderOf 24 = .ok (.goto 7, 3) := by decide +kernel
theorem dX2_orderOf_27 : decode cX2_orderOf 27 = .ok (.aload_n 0, 1) := by decide +kernel
theorem dX2_orderOf_28 : decode cX2_orderOf 28 = .ok (.getfield 34, 3) := by decide +kernel
theorem dX2_orderOf_31 : decode cX2_orderOf 31 = .ok (.areturn, 1) := by decide +kernel
theorem dX2_beginEpoch_0 : decode cX2_beginEpoch 0 = .ok (.aload_n 0, 1) := by decide +kernel
theorem dX2_beginEpoch_1 : decode cX2_beginEpoch 1 = .ok (.getfield 42, 3) := by decide +kernel
theorem dX2_beginEpoch_4 : decode cX2_beginEpoch 4 = .ok (.bipush 10, 2) := by decide +kernel
theorem dX2_beginEpoch_6 : decode cX2_beginEpoch 6 = .ok (.if_icmp .lt 4, 3) := by decide +kernel
theorem dX2_beginEpoch_9 : decode cX2_beginEpoch 9 = .ok (.return_, 1) := by decide +kernel
theorem dX2_beginEpoch_10 : decode cX2_beginEpoch 10 = .ok (.aload_n 0, 1) := by decide +kernel
theorem dX2_beginEpoch_11 : decode cX2_beginEpoch 11 = .ok (.getfield 38, 3) := by decide +kernel
theorem dX2_beginEpoch_14 : decode cX2_beginEpoch 14 = .ok (.aload_n 0, 1) := by decide +kernel
theorem dX2_beginEpoch_15 : decode cX2_beginEpoch 15 = .ok (.getfield 42, 3) := by decide +kernel
theorem dX2_beginEpoch_18 : decode cX2_beginEpoch 18 = .ok (.aaload, 1) := by decide +kernel
theorem dX2_beginEpoch_19 : decode cX2_beginEpoch 19 = .ok (.aload_n 0, 1) := by decide +kernel
theorem dX2_beginEpoch_20 : decode cX2_beginEpoch 20 = .ok (.getfield 34, 3) := by decide +kernel
theorem dX2_beginEpoch_23 : decode cX2_beginEpoch 23 = .ok (.invokevirtual 59, 3) := by decide +kernel
theorem dX2_beginEpoch_26 : decode cX2_beginEpoch 26 = .ok (.aload_n 0, 1) := by decide +kernel
theorem dX2_beginEpoch_27 : decode cX2_beginEpoch 27 = .ok (.dup, 1) := by decide +kernel
theorem dX2_beginEpoch_28 : decode cX2_beginEpoch 28 = .ok (.getfield 42, 3) := by decide +kernel
theorem dX2_beginEpoch_31 : decode cX2_beginEpoch 31 = .ok (.iconst 1, 1) := by decide +kernel
theorem dX2_beginEpoch_32 : decode cX2_beginEpoch 32 = .ok (.iadd, 1) := by decide +kernel
theorem dX2_beginEpoch_33 : decode cX2_beginEpoch 33 = .ok (.putfield 42, 3) := by decide +kernel
theorem dX2_beginEpoch_36 : decode cX2_beginEpoch 36 = .ok (.return_, 1) := by decide +kernel
theorem dX2_takeFrame_0 : decode cX2_takeFrame 0 = .ok (.iload_n 1, 1) := by decide +kernel
theorem dX2_takeFrame_1 : decode cX2_takeFrame 1 = .ok (.invokestatic 66, 3) := by decide +kernel
theorem dX2_takeFrame_4 : decode cX2_takeFrame 4 = .ok (.ifCond .ne 6, 3) := by decide +kernel
theorem dX2_takeFrame_7 : decode cX2_takeFrame 7 = .ok (.bipush (-9), 2) := by decide +kernel
theorem dX2_takeFrame_9 : decode cX2_takeFrame 9 = .ok (.ireturn, 1) := by decide +kernel
theorem dX2_takeFrame_10 : decode cX2_takeFrame 10 = .ok (.aload_n 0, 1) := by decide +kernel
theorem dX2_takeFrame_11 : decode cX2_takeFrame 11 = .ok (.getfield 45, 3) := by decide +kernel
theorem dX2_takeFrame_14 : decode cX2_takeFrame 14 = .ok (.istore_n 3, 1) := by decide +kernel
theorem dX2_takeFrame_15 : decode cX2_takeFrame 15 = .ok (.aload_n 0, 1) := by decide +kernel
theorem dX2_takeFrame_16 : decode cX2_takeFrame 16 = .ok (.getfield 24, 3) := by decide +kernel
theorem dX2_takeFrame_19 : decode cX2_takeFrame 19 = .ok (.iload_n 1, 1) := by decide +kernel
theorem dX2_takeFrame_20 : decode cX2_takeFrame 20 = .ok (.aaload, 1) := by decide +kernel
theorem dX2_takeFrame_21 : decode cX2_takeFrame 21 = .ok (.iload_n 3, 1) := by decide +kernel
theorem dX2_takeFrame_22 : decode cX2_takeFrame 22 = .ok (.iload_n 1, 1) := by decide +kernel
theorem dX2_takeFrame_23 : decode cX2_takeFrame 23 = .ok (.iload_n 2, 1) := by decide +kernel
theorem dX2_takeFrame_24 : decode cX2_takeFrame 24 = .ok (.aload_n 0, 1) := by decide +kernel
theorem dX2_takeFrame_25 : decode cX2_takeFrame 25 = .ok (.invokevirtual 74, 3) := by decide +kernel
theorem dX2_takeFrame_28 : decode cX2_takeFrame 28 = .ok (.invokevirtual 78, 3) := by decide +kernel
theorem dX2_takeFrame_31 : decode cX2_takeFrame 31 = .ok (.aload_n 0, 1) := by decide +kernel
theorem dX2_takeFrame_32 : decode cX2_takeFrame 32 = .ok (.dup, 1) := by decide +kernel
theorem dX2_takeFrame_33 : decode cX2_takeFrame 33 = .ok (.getfield 45, 3) := by decide +kernel
theorem dX2_takeFrame_36 : decode cX2_takeFrame 36 = .ok (.iconst 1, 1) := by decide +kernel
theorem dX2_takeFrame_37 : decode cX2_takeFrame 37 = .ok (.iadd, 1) := by decide +kernel
theorem dX2_takeFrame_38 : decode cX2_takeFrame 38 = .ok (.putfield 45, 3) := by decide +kernel
theorem dX2_takeFrame_41 : decode cX2_takeFrame 41 = .ok (.iload_n 3, 1) := by decide +kernel
theorem dX2_takeFrame_42 : decode cX2_takeFrame 42 = .ok (.ireturn, 1) := by decide +kernel
theorem dX2_waitingCount_0 : decode cX2_waitingCount 0 = .ok (.iconst 0, 1) := by decide +kernel
theorem dX2_waitingCount_1 : decode cX2_waitingCount 1 = .ok (.istore_n 1, 1) := by decide +kernel
theorem dX2_waitingCount_2 : decode cX2_waitingCount 2 = .ok (.iconst 0, 1) := by decide +kernel
theorem dX2_waitingCount_3 : decode cX2_waitingCount 3 = .ok (.istore_n 2, 1) := by decide +kernel
theorem dX2_waitingCount_4 : decode cX2_waitingCount 4 = .ok (.iload_n 2, 1) := by decide +kernel
theorem dX2_waitingCount_5 : decode cX2_waitingCount 5 = .ok (.bipush 8, 2) := by decide +kernel
theorem dX2_waitingCount_7 : decode cX2_waitingCount 7 = .ok (.if_icmp .ge 21, 3) := by decide +kernel
theorem dX2_waitingCount_10 : decode cX2_waitingCount 10 = .ok (.iload_n 1, 1) := by decide +kernel
theorem dX2_waitingCount_11 : decode cX2_waitingCount 11 = .ok (.aload_n 0, 1) := by decide +kernel
theorem dX2_waitingCount_12 : decode cX2_waitingCount 12 = .ok (.getfield 24, 3) := by decide +kernel
theorem dX2_waitingCount_15 : decode cX2_waitingCount 15 = .ok (.iload_n 2, 1) := by decide +kernel
theorem dX2_waitingCount_16 : decode cX2_waitingCount 16 = .ok (.aaload, 1) := by decide +kernel
theorem dX2_waitingCount_17 : decode cX2_waitingCount 17 = .ok (.getfield 82, 3) := by decide +kernel
theorem dX2_waitingCount_20 : decode cX2_waitingCount 20 = .ok (.iadd, 1) := by decide +kernel
theorem dX2_waitingCount_21 : decode cX2_waitingCount 21 = .ok (.istore_n 1, 1) := by decide +kernel
theorem dX2_waitingCount_22 : decode cX2_waitingCount 22 = .ok (.iinc 2 1, 3) := by decide +kernel
theorem dX2_waitingCount_25 : decode cX2_waitingCount 25 = .ok (.goto (-21), 3) := by decide +kernel
theorem dX2_waitingCount_28 : decode cX2_waitingCount 28 = .ok (.iload_n 1, 1) := by decide +kernel
theorem dX2_waitingCount_29 : decode cX2_waitingCount 29 = .ok (.ireturn, 1) := by decide +kernel
theorem dX2_waitingSize_0 : decode cX2_waitingSize 0 = .ok (.iconst 0, 1) := by decide +kernel
theorem dX2_waitingSize_1 : decode cX2_waitingSize 1 = .ok (.istore_n 1, 1) := by decide +kernel
theorem dX2_waitingSize_2 : decode cX2_waitingSize 2 = .ok (.iconst 0, 1) := by decide +kernel
theorem dX2_waitingSize_3 : decode cX2_waitingSize 3 = .ok (.istore_n 2, 1) := by decide +kernel
theorem dX2_waitingSize_4 : decode cX2_waitingSize 4 = .ok (.iload_n 2, 1) := by decide +kernel
theorem dX2_waitingSize_5 : decode cX2_waitingSize 5 = .ok (.bipush 8, 2) := by decide +kernel
theorem dX2_waitingSize_7 : decode cX2_waitingSize 7 = .ok (.if_icmp .ge 21, 3) := by decide +kernel
theorem dX2_waitingSize_10 : decode cX2_waitingSize 10 = .ok (.iload_n 1, 1) := by decide +kernel
theorem dX2_waitingSize_11 : decode cX2_waitingSize 11 = .ok (.aload_n 0, 1) := by decide +kernel
theorem dX2_waitingSize_12 : decode cX2_waitingSize 12 = .ok (.getfield 24, 3) := by decide +kernel
theorem dX2_waitingSize_15 : decode cX2_waitingSize 15 = .ok (.iload_n 2, 1) := by decide +kernel
theorem dX2_waitingSize_16 : decode cX2_waitingSize 16 = .ok (.aaload, 1) := by decide +kernel
theorem dX2_waitingSize_17 : decode cX2_waitingSize 17 = .ok (.invokevirtual 85, 3) := by decide +kernel
theorem dX2_waitingSize_20 : decode cX2_waitingSize 20 = .ok (.iadd, 1) := by decide +kernel
theorem dX2_waitingSize_21 : decode cX2_waitingSize 21 = .ok (.istore_n 1, 1) := by decide +kernel
theorem dX2_waitingSize_22 : decode cX2_waitingSize 22 = .ok (.iinc 2 1, 3) := by decide +kernel
theorem dX2_waitingSize_25 : decode cX2_waitingSize 25 = .ok (.goto (-21), 3) := by decide +kernel
theorem dX2_waitingSize_28 : decode cX2_waitingSize 28 = .ok (.iload_n 1, 1) := by decide +kernel
theorem dX2_waitingSize_29 : decode cX2_waitingSize 29 = .ok (.ireturn, 1) := by decide +kernel
theorem dX2_blockersOfFirst_0 : decode cX2_blockersOfFirst 0 = .ok (.iload_n 1, 1) := by decide +kernel
theorem dX2_blockersOfFirst_1 : decode cX2_blockersOfFirst 1 = .ok (.invokestatic 66, 3) := by decide +kernel
theorem dX2_blockersOfFirst_4 : decode cX2_blockersOfFirst 4 = .ok (.ifCond .eq 15, 3) := by decide +kernel
theorem dX2_blockersOfFirst_7 : decode cX2_blockersOfFirst 7 = .ok (.aload_n 0, 1) := by decide +kernel
theorem dX2_blockersOfFirst_8 : decode cX2_blockersOfFirst 8 = .ok (.getfield 24, 3) := by decide +kernel
theorem dX2_blockersOfFirst_11 : decode cX2_blockersOfFirst 11 = .ok (.iload_n 1, 1) := by decide +kernel
theorem dX2_blockersOfFirst_12 : decode cX2_blockersOfFirst 12 = .ok (.aaload, 1) := by decide +kernel
theorem dX2_blockersOfFirst_13 : decode cX2_blockersOfFirst 13 = .ok (.getfield 82, 3) := by decide +kernel
theorem dX2_blockersOfFirst_16 : decode cX2_blockersOfFirst 16 = .ok (.ifCond .ne 5, 3) := by decide +kernel
theorem dX2_blockersOfFirst_19 : decode cX2_blockersOfFirst 19 = .ok (.iconst 0, 1) := by decide +kernel
theorem dX2_blockersOfFirst_20 : decode cX2_blockersOfFirst 20 = .ok (.ireturn, 1) := by decide +kernel
theorem dX2_blockersOfFirst_21 : decode cX2_blockersOfFirst 21 = .ok (.aload_n 0, 1) := by decide +kernel
theorem dX2_blockersOfFirst_22 : decode cX2_blockersOfFirst 22 = .ok (.getfield 24, 3) := by decide +kernel
theorem dX2_blockersOfFirst_25 : decode cX2_blockersOfFirst 25 = .ok (.iload_n 1, 1) := by decide +kernel
theorem dX2_blockersOfFirst_26 : decode cX2_blockersOfFirst 26 = .ok (.aaload, 1) := by decide +kernel
theorem dX2_blockersOfFirst_27 : decode cX2_blockersOfFirst 27 = .ok (.iconst 0, 1) := by decide +kernel
theorem dX2_blockersOfFirst_28 : decode cX2_blockersOfFirst 28 = .ok (.invokevirtual 88, 3) := by decide +kernel
theorem dX2_blockersOfFirst_31 : decode cX2_blockersOfFirst 31 = .ok (.istore_n 2, 1) := by decide +kernel
theorem dX2_blockersOfFirst_32 : decode cX2_blockersOfFirst 32 = .ok (.aload_n 0, 1) := by decide +kernel
theorem dX2_blockersOfFirst_33 : decode cX2_blockersOfFirst 33 = .ok (.iload_n 2, 1) := by decide +kernel
theorem dX2_blockersOfFirst_34 : decode cX2_blockersOfFirst 34 = .ok (.invokevirtual 91, 3) := by decide +kernel
theorem dX2_blockersOfFirst_37 : decode cX2_blockersOfFirst 37 = .ok (.astore_n 3, 1) := by decide +kernel
theorem dX2_blockersOfFirst_38 : decode cX2_blockersOfFirst 38 = .ok (.iconst 0, 1) := by decide +kernel
theorem dX2_blockersOfFirst_39 : decode cX2_blockersOfFirst 39 = .ok (.istore 4, 2) := by decide +kernel
theorem dX2_blockersOfFirst_41 : decode cX2_blockersOfFirst 41 = .ok (.iconst 0, 1) := by decide +kernel
theorem dX2_blockersOfFirst_42 : decode cX2_blockersOfFirst 42 = .ok (.istore 5, 2) := by decide +kernel
theorem dX2_blockersOfFirst_44 : decode cX2_blockersOfFirst 44 = .ok (.iload 5, 2) := by decide +kernel
theorem dX2_blockersOfFirst_46 : decode cX2_blockersOfFirst 46 = .ok (.bipush 8, 2) := by decide +kernel
theorem dX2_blockersOfFirst_48 : decode cX2_blockersOfFirst 48 = .ok (.if_icmp .ge 35, 3) := by decide +kernel
theorem dX2_blockersOfFirst_51 : decode cX2_blockersOfFirst 51 = .ok (.aload_n 3, 1) := by decide +kernel
theorem dX2_blockersOfFirst_52 : decode cX2_blockersOfFirst 52 = .ok (.iload 5, 2) := by decide +kernel
theorem dX2_blockersOfFirst_54 : decode cX2_blockersOfFirst 54 = .ok (.iload_n 1, 1) := by decide +kernel
theorem dX2_blockersOfFirst_55 : decode cX2_blockersOfFirst 55 = .ok (.invokevirtual 95, 3) := by decide +kernel
theorem dX2_blockersOfFirst_58 : decode cX2_blockersOfFirst 58 = .ok (.ifCond .eq 19, 3) := by decide +kernel
theorem dX2_blockersOfFirst_61 : decode cX2_blockersOfFirst 61 = .ok (.iload 4, 2) := by decide +kernel
theorem dX2_blockersOfFirst_63 : decode cX2_blockersOfFirst 63 = .ok (.aload_n 0, 1) := by decide +kernel
theorem dX2_blockersOfFirst_64 : decode cX2_blockersOfFirst 64 = .ok (.getfield 24, 3) := by decide +kernel
theorem dX2_blockersOfFirst_67 : decode cX2_blockersOfFirst 67 = .ok (.iload 5, 2) := by decide +kernel
theorem dX2_blockersOfFirst_69 : decode cX2_blockersOfFirst 69 = .ok (.aaload, 1) := by decide +kernel
theorem dX2_blockersOfFirst_70 : decode cX2_blockersOfFirst 70 = .ok (.iload_n 2, 1) := by decide +kernel
theorem dX2_blockersOfFirst_71 : decode cX2_blockersOfFirst 71 = .ok (.invokevirtual 98, 3) := by decide +kernel
theorem dX2_blockersOfFirst_74 : decode cX2_blockersOfFirst 74 = .ok (.iadd, 1) := by decide +kernel
theorem dX2_blockersOfFirst_75 : decode cX2_blockersOfFirst 75 = .ok (.istore 4, 2) := by decide +kernel
theorem dX2_blockersOfFirst_77 : decode cX2_blockersOfFirst 77 = .ok (.iinc 5 1, 3) := by decide +kernel
theorem dX2_blockersOfFirst_80 : decode cX2_blockersOfFirst 80 = .ok (.goto (-36), 3) := by decide +kernel
theorem dX2_blockersOfFirst_83 : decode cX2_blockersOfFirst 83 = .ok (.iload 4, 2) := by decide +kernel
theorem dX2_blockersOfFirst_85 : decode cX2_blockersOfFirst 85 = .ok (.ireturn, 1) := by decide +kernel
theorem dX2_isCandidate_0 : decode cX2_isCandidate 0 = .ok (.iload_n 1, 1) := by decide +kernel
theorem dX2_isCandidate_1 : decode cX2_isCandidate 1 = .ok (.invokestatic 66, 3) := by decide +kernel
theorem dX2_isCandidate_4 : decode cX2_isCandidate 4 = .ok (.ifCond .eq 27, 3) := by decide +kernel
theorem dX2_isCandidate_7 : decode cX2_isCandidate 7 = .ok (.aload_n 0, 1) := by decide +kernel
theorem dX2_isCandidate_8 : decode cX2_isCandidate 8 = .ok (.getfield 24, 3) := by decide +kernel
theorem dX2_isCandidate_11 : decode cX2_isCandidate 11 = .ok (.iload_n 1, 1) := by decide +kernel
theorem dX2_isCandidate_12 : decode cX2_isCandidate 12 = .ok (.aaload, 1) := by decide +kernel
theorem dX2_isCandidate_13 : decode cX2_isCandidate 13 = .ok (.getfield 82, 3) := by decide +kernel
theorem dX2_isCandidate_16 : decode cX2_isCandidate 16 = .ok (.ifCond .le 15, 3) := by decide +kernel
theorem dX2_isCandidate_19 : decode cX2_isCandidate 19 = .ok (.aload_n 0, 1) := by decide +kernel
theorem dX2_isCandidate_20 : decode cX2_isCandidate 20 = .ok (.iload_n 1, 1) := by decide +kernel
theorem dX2_isCandidate_21 : decode cX2_isCandidate 21 = .ok (.invokevirtual 101, 3) := by decide +kernel
theorem dX2_isCandidate_24 : decode cX2_isCandidate 24 = .ok (.ifCond .ne 7, 3) := by decide +kernel
theorem dX2_isCandidate_27 : decode cX2_isCandidate 27 = .ok (.iconst 1, 1) := by decide +kernel
theorem dX2_isCandidate_28 : decode cX2_isCandidate 28 = .ok (.goto 4, 3) := by decide +kernel
theorem dX2_isCandidate_31 : decode cX2_isCandidate 31 = .ok (.iconst 0, 1) := by decide +kernel
theorem dX2_isCandidate_32 : decode cX2_isCandidate 32 = .ok (.ireturn, 1) := by decide +kernel
theorem dX2_candidateCount_0 : decode cX2_candidateCount 0 = .ok (.iconst 0, 1) := by decide +kernel
theorem dX2_candidateCount_1 : decode cX2_candidateCount 1 = .ok (.istore_n 1, 1) := by decide +kernel
theorem dX2_candidateCount_2 : decode cX2_candidateCount 2 = .ok (.iconst 0, 1) := by decide +kernel
theorem dX2_candidateCount_3 : decode cX2_candidateCount 3 = .ok (.istore_n 2, 1) := by decide +kernel
theorem dX2_candidateCount_4 : decode cX2_candidateCount 4 = .ok (.iload_n 2, 1) := by decide +kernel
theorem dX2_candidateCount_5 : decode cX2_candidateCount 5 = .ok (.bipush 8, 2) := by decide +kernel
theorem dX2_candidateCount_7 : decode cX2_candidateCount 7 = .ok (.if_icmp .ge 20, 3) := by decide +kernel
theorem dX2_candidateCount_10 : decode cX2_candidateCount 10 = .ok (.aload_n 0, 1) := by decide +kernel
theorem dX2_candidateCount_11 : decode cX2_candidateCount 11 = .ok (.iload_n 2, 1) := by decide +kernel
theorem dX2_candidateCount_12 : decode cX2_candidateCount 12 = .ok (.invokevirtual 104, 3) := by decide +kernel
theorem dX2_candidateCount_15 : decode cX2_candidateCount 15 = .ok (.ifCond .eq 6, 3) := by decide +kernel
theorem dX2_candidateCount_18 : decode cX2_candidateCount 18 = .ok (.iinc 1 1, 3) := by decide +kernel
theorem dX2_candidateCount_21 : decode cX2_candidateCount 21 = .ok (.iinc 2 1, 3) := by decide +kernel
theorem dX2_candidateCount_24 : decode cX2_candidateCount 24 = .ok (.goto (-20), 3) := by decide +kernel
theorem dX2_candidateCount_27 : decode cX2_candidateCount 27 = .ok (.iload_n 1, 1) := by decide +kernel
theorem dX2_candidateCount_28 : decode cX2_candidateCount 28 = .ok (.ireturn, 1) := by decide +kernel
theorem dX2_nextStream_0 : decode cX2_nextStream 0 = .ok (.bipush (-9), 2) := by decide +kernel
theorem dX2_nextStream_2 : decode cX2_nextStream 2 = .ok (.istore_n 1, 1) := by decide +kernel
theorem dX2_nextStream_3 : decode cX2_nextStream 3 = .ok (.iconst 0, 1) := by decide +kernel
theorem dX2_nextStream_4 : decode cX2_nextStream 4 = .ok (.istore_n 2, 1) := by decide +kernel
theorem dX2_nextStream_5 : decode cX2_nextStream 5 = .ok (.iload_n 2, 1) := by decide +kernel
theorem dX2_nextStream_6 : decode cX2_nextStream 6 = .ok (.bipush 8, 2) := by decide +kernel
theorem dX2_nextStream_8 : decode cX2_nextStream 8 = .ok (.if_icmp .ge 34, 3) := by decide +kernel
theorem dX2_nextStream_11 : decode cX2_nextStream 11 = .ok (.aload_n 0, 1) := by decide +kernel
theorem dX2_nextStream_12 : decode cX2_nextStream 12 = .ok (.iload_n 2, 1) := by decide +kernel
theorem dX2_nextStream_13 : decode cX2_nextStream 13 = .ok (.invokevirtual 104, 3) := by decide +kernel
theorem dX2_nextStream_16 : decode cX2_nextStream 16 = .ok (.ifCond .eq 20, 3) := by decide +kernel
theorem dX2_nextStream_19 : decode cX2_nextStream 19 = .ok (.iload_n 1, 1) := by decide +kernel
theorem dX2_nextStream_20 : decode cX2_nextStream 20 = .ok (.bipush (-9), 2) := by decide +kernel
theorem dX2_nextStream_22 : decode cX2_nextStream 22 = .ok (.if_icmp .eq 12, 3) := by decide +kernel
theorem dX2_nextStream_25 : decode cX2_nextStream 25 = .ok (.aload_n 0, 1) := by decide +kernel
theorem dX2_nextStream_26 : decode cX2_nextStream 26 = .ok (.iload_n 2, 1) := by decide +kernel
theorem dX2_nextStream_27 : decode cX2_nextStream 27 = .ok (.iload_n 1, 1) := by decide +kernel
theorem dX2_nextStream_28 : decode cX2_nextStream 28 = .ok (.invokevirtual 107, 3) := by decide +kernel
theorem dX2_nextStream_31 : decode cX2_nextStream 31 = .ok (.ifCond .eq 5, 3) := by decide +kernel
theorem dX2_nextStream_34 : decode cX2_nextStream 34 = .ok (.iload_n 2, 1) := by decide +kernel
theorem dX2_nextStream_35 : decode cX2_nextStream 35 = .ok (.istore_n 1, 1) := by decide +kernel
theorem dX2_nextStream_36 : decode cX2_nextStream 36 = .ok (.iinc 2 1, 3) := by decide +kernel
theorem dX2_nextStream_39 : decode cX2_nextStream 39 = .ok (.goto (-34), 3) := by decide +kernel
theorem dX2_nextStream_42 : decode cX2_nextStream 42 = .ok (.iload_n 1, 1) := by decide +kernel
theorem dX2_nextStream_43 : decode cX2_nextStream 43 = .ok (.ireturn, 1) := by decide +kernel
theorem dX2_isLessServed_0 : decode cX2_isLessServed 0 = .ok (.iload_n 1, 1) := by decide +kernel
theorem dX2_isLessServed_1 : decode cX2_isLessServed 1 = .ok (.invokestatic 66, 3) := by decide +kernel
theorem dX2_isLessServed_4 : decode cX2_isLessServed 4 = .ok (.ifCond .eq 48, 3) := by decide +kernel
theorem dX2_isLessServed_7 : decode cX2_isLessServed 7 = .ok (.iload_n 2, 1) := by decide +kernel
theorem dX2_isLessServed_8 : decode cX2_isLessServed 8 = .ok (.invokestatic 66, 3) := by decide +kernel
theorem dX2_isLessServed_11 : decode cX2_isLessServed 11 = .ok (.ifCond .eq 41, 3) := by decide +kernel
theorem dX2_isLessServed_14 : decode cX2_isLessServed 14 = .ok (.aload_n 0, 1) := by decide +kernel
theorem dX2_isLessServed_15 : decode cX2_isLessServed 15 = .ok (.getfield 19, 3) := by decide +kernel
theorem dX2_isLessServed_18 : decode cX2_isLessServed 18 = .ok (.iload_n 1, 1) := by decide +kernel
theorem dX2_isLessServed_19 : decode cX2_isLessServed 19 = .ok (.iaload, 1) := by decide +kernel
theorem dX2_isLessServed_20 : decode cX2_isLessServed 20 = .ok (.i2l, 1) := by decide +kernel
theorem dX2_isLessServed_21 : decode cX2_isLessServed 21 = .ok (.aload_n 0, 1) := by decide +kernel
theorem dX2_isLessServed_22 : decode cX2_isLessServed 22 = .ok (.getfield 15, 3) := by decide +kernel
theorem dX2_isLessServed_25 : decode cX2_isLessServed 25 = .ok (.iload_n 2, 1) := by decide +kernel
theorem dX2_isLessServed_26 : decode cX2_isLessServed 26 = .ok (.iaload, 1) := by decide +kernel
theorem dX2_isLessServed_27 : decode cX2_isLessServed 27 = .ok (.i2l, 1) := by decide +kernel
theorem dX2_isLessServed_28 : decode cX2_isLessServed 28 = .ok (.lmul, 1) := by decide +kernel
theorem dX2_isLessServed_29 : decode cX2_isLessServed 29 = .ok (.aload_n 0, 1) := by decide +kernel
theorem dX2_isLessServed_30 : decode cX2_isLessServed 30 = .ok (.getfield 19, 3) := by decide +kernel
theorem dX2_isLessServed_33 : decode cX2_isLessServed 33 = .ok (.iload_n 2, 1) := by decide +kernel
theorem dX2_isLessServed_34 : decode cX2_isLessServed 34 = .ok (.iaload, 1) := by decide +kernel
theorem dX2_isLessServed_35 : decode cX2_isLessServed 35 = .ok (.i2l, 1) := by decide +kernel
theorem dX2_isLessServed_36 : decode cX2_isLessServed 36 = .ok (.aload_n 0, 1) := by decide +kernel
theorem dX2_isLessServed_37 : decode cX2_isLessServed 37 = .ok (.getfield 15, 3) := by decide +kernel
theorem dX2_isLessServed_40 : decode cX2_isLessServed 40 = .ok (.iload_n 1, 1) := by decide +kernel
theorem dX2_isLessServed_41 : decode cX2_isLessServed 41 = .ok (.iaload, 1) := by decide +kernel
theorem dX2_isLessServed_42 : decode cX2_isLessServed 42 = .ok (.i2l, 1) := by decide +kernel
theorem dX2_isLessServed_43 : decode cX2_isLessServed 43 = .ok (.lmul, 1) := by decide +kernel
theorem dX2_isLessServed_44 : decode cX2_isLessServed 44 = .ok (.lcmp, 1) := by decide +kernel
theorem dX2_isLessServed_45 : decode cX2_isLessServed 45 = .ok (.ifCond .ge 7, 3) := by decide +kernel
theorem dX2_isLessServed_48 : decode cX2_isLessServed 48 = .ok (.iconst 1, 1) := by decide +kernel
theorem dX2_isLessServed_49 : decode cX2_isLessServed 49 = .ok (.goto 4, 3) := by decide +kernel
theorem dX2_isLessServed_52 : decode cX2_isLessServed 52 = .ok (.iconst 0, 1) := by decide +kernel
theorem dX2_isLessServed_53 : decode cX2_isLessServed 53 = .ok (.ireturn, 1) := by decide +kernel
theorem dX2_sendFirst_0 : decode cX2_sendFirst 0 = .ok (.iload_n 1, 1) := by decide +kernel
theorem dX2_sendFirst_1 : decode cX2_sendFirst 1 = .ok (.invokestatic 66, 3) := by decide +kernel
theorem dX2_sendFirst_4 : decode cX2_sendFirst 4 = .ok (.ifCond .eq 15, 3) := by decide +kernel
theorem dX2_sendFirst_7 : decode cX2_sendFirst 7 = .ok (.aload_n 0, 1) := by decide +kernel
theorem dX2_sendFirst_8 : decode cX2_sendFirst 8 = .ok (.getfield 24, 3) := by decide +kernel
theorem dX2_sendFirst_11 : decode cX2_sendFirst 11 = .ok (.iload_n 1, 1) := by decide +kernel
theorem dX2_sendFirst_12 : decode cX2_sendFirst 12 = .ok (.aaload, 1) := by decide +kernel
theorem dX2_sendFirst_13 : decode cX2_sendFirst 13 = .ok (.getfield 82, 3) := by decide +kernel
theorem dX2_sendFirst_16 : decode cX2_sendFirst 16 = .ok (.ifCond .ne 4, 3) := by decide +kernel
theorem dX2_sendFirst_19 : decode cX2_sendFirst 19 = .ok (.return_, 1) := by decide +kernel
theorem dX2_sendFirst_20 : decode cX2_sendFirst 20 = .ok (.aload_n 0, 1) := by decide +kernel
theorem dX2_sendFirst_21 : decode cX2_sendFirst 21 = .ok (.getfield 24, 3) := by decide +kernel
theorem dX2_sendFirst_24 : decode cX2_sendFirst 24 = .ok (.iload_n 1, 1) := by decide +kernel
theorem dX2_sendFirst_25 : decode cX2_sendFirst 25 = .ok (.aaload, 1) := by decide +kernel
theorem dX2_sendFirst_26 : decode cX2_sendFirst 26 = .ok (.astore_n 2, 1) := by decide +kernel
theorem dX2_sendFirst_27 : decode cX2_sendFirst 27 = .ok (.aload_n 2, 1) := by decide +kernel
theorem dX2_sendFirst_28 : decode cX2_sendFirst 28 = .ok (.iconst 0, 1) := by decide +kernel
theorem dX2_sendFirst_29 : decode cX2_sendFirst 29 = .ok (.invokevirtual 110, 3) := by decide +kernel
theorem dX2_sendFirst_32 : decode cX2_sendFirst 32 = .ok (.istore_n 3, 1) := by decide +kernel
theorem dX2_sendFirst_33 : decode cX2_sendFirst 33 = .ok (.aload_n 0, 1) := by decide +kernel
theorem dX2_sendFirst_34 : decode cX2_sendFirst 34 = .ok (.getfield 51, 3) := by decide +kernel
theorem dX2_sendFirst_37 : decode cX2_sendFirst 37 = .ok (.invokevirtual 113, 3) := by decide +kernel
theorem dX2_sendFirst_40 : decode cX2_sendFirst 40 = .ok (.ifCond .eq 10, 3) := by decide +kernel
theorem dX2_sendFirst_43 : decode cX2_sendFirst 43 = .ok (.aload_n 0, 1) := by decide +kernel
theorem dX2_sendFirst_44 : decode cX2_sendFirst 44 = .ok (.getfield 51, 3) := by decide +kernel
theorem dX2_sendFirst_47 : decode cX2_sendFirst 47 = .ok (.invokevirtual 117, 3) := by decide +kernel
theorem dX2_sendFirst_50 : decode cX2_sendFirst 50 = .ok (.aload_n 0, 1) := by decide +kernel
theorem dX2_sendFirst_51 : decode cX2_sendFirst 51 = .ok (.getfield 51, 3) := by decide +kernel
theorem dX2_sendFirst_54 : decode cX2_sendFirst 54 = .ok (.aload_n 2, 1) := by decide +kernel
theorem dX2_sendFirst_55 : decode cX2_sendFirst 55 = .ok (.iconst 0, 1) := by decide +kernel
theorem dX2_sendFirst_56 : decode cX2_sendFirst 56 = .ok (.invokevirtual 120, 3) := by decide +kernel
theorem dX2_sendFirst_59 : decode cX2_sendFirst 59 = .ok (.iload_n 1, 1) := by decide +kernel
theorem dX2_sendFirst_60 : decode cX2_sendFirst 60 = .ok (.iload_n 3, 1) := by decide +kernel
theorem dX2_sendFirst_61 : decode cX2_sendFirst 61 = .ok (.aload_n 2, 1) := by decide +kernel
theorem dX2_sendFirst_62 : decode cX2_sendFirst 62 = .ok (.iconst 0, 1) := by decide +kernel
theorem dX2_sendFirst_63 : decode cX2_sendFirst 63 = .ok (.invokevirtual 88, 3) := by decide +kernel
theorem dX2_sendFirst_66 : decode cX2_sendFirst 66 = .ok (.invokevirtual 78, 3) := by decide +kernel
theorem dX2_sendFirst_69 : decode cX2_sendFirst 69 = .ok (.aload_n 2, 1) := by decide +kernel
theorem dX2_sendFirst_70 : decode cX2_sendFirst 70 = .ok (.invokevirtual 117, 3) := by decide +kernel
theorem dX2_sendFirst_73 : decode cX2_sendFirst 73 = .ok (.aload_n 0, 1) := by decide +kernel
theorem dX2_sendFirst_74 : decode cX2_sendFirst 74 = .ok (.getfield 19, 3) := by decide +kernel
theorem dX2_sendFirst_77 : decode cX2_sendFirst 77 = .ok (.iload_n 1, 1) := by decide +kernel
theorem dX2_sendFirst_78 : decode cX2_sendFirst 78 = .ok (.dup2, 1) := by decide +kernel
theorem dX2_sendFirst_79 : decode cX2_sendFirst 79 = .ok (.iaload, 1) := by decide +kernel
theorem dX2_sendFirst_80 : decode cX2_sendFirst 80 = .ok (.iload_n 3, 1) := by decide +kernel
theorem dX2_sendFirst_81 : decode cX2_sendFirst 81 = .ok (.iadd, 1) := by decide +kernel
theorem dX2_sendFirst_82 : decode cX2_sendFirst 82 = .ok (.iastore, 1) := by decide +kernel
theorem dX2_sendFirst_83 : decode cX2_sendFirst 83 = .ok (.aload_n 0, 1) := by decide +kernel
theorem dX2_sendFirst_84 : decode cX2_sendFirst 84 = .ok (.dup, 1) := by decide +kernel
theorem dX2_sendFirst_85 : decode cX2_sendFirst 85 = .ok (.getfield 48, 3) := by decide +kernel
theorem dX2_sendFirst_88 : decode cX2_sendFirst 88 = .ok (.iconst 1, 1) := by decide +kernel
theorem dX2_sendFirst_89 : decode cX2_sendFirst 89 = .ok (.iadd, 1) := by decide +kernel
theorem dX2_sendFirst_90 : decode cX2_sendFirst 90 = .ok (.putfield 48, 3) := by decide +kernel
theorem dX2_sendFirst_93 : decode cX2_sendFirst 93 = .ok (.return_, 1) := by decide +kernel
set_option maxRecDepth 20000 in
theorem ggX2_copyFrom_X0_copyFrom : GoodIn wsX2_copyFrom wsX0_copyFrom := goodIn_r _ [15, 16, 17, 18, 19, 20, 21, 22, 23, 24, 42, 43, 44, 45, 46] (by decide +kernel) (by decide +kernel)
set_option maxRecDepth 20000 in
theorem gX2_copyFrom_X0_copyFrom : GoodIn wsX2_copyFrom (wsV RX2 55 RX0 yX0_copyFrom wsX0_copyFrom) := goodIn_app (goodIn_of _ (by decide +kernel)) ggX2_copyFrom_X0_copyFrom
set_option maxRecDepth 20000 in
theorem ggX2_copyFrom_X1_copyFrom : GoodIn wsX2_copyFrom wsX1_copyFrom := goodIn_r _ [29, 30, 31, 47, 48] (by decide +kernel) (by decide +kernel)
set_option maxRecDepth 20000 in
theorem gX2_copyFrom_X1_copyFrom : GoodIn wsX2_copyFrom (wsV RX2 59 RX1 yX1_copyFrom wsX1_copyFrom) := goodIn_app (goodIn_of _ (by decide +kernel)) ggX2_copyFrom_X1_copyFrom
set_option maxRecDepth 20000 in
theorem ggX2_isOpen_X3_isIn : GoodIn wsX2_isOpen wsX3_isIn := goodIn_r _ [4] (by decide +kernel) (by decide +kernel)
set_option maxRecDepth 20000 in
theorem gX2_isOpen_X3_isIn_n62 : GoodIn wsX2_isOpen (wsX3_isIn) := ggX2_isOpen_X3_isIn
set_option maxRecDepth 20000 in
theorem ggX2_openStream_X3_isStream : GoodIn wsX2_openStream wsX3_isStream := goodIn_r _ [6] (by decide +kernel) (by decide +kernel)
set_option maxRecDepth 20000 in
theorem gX2_openStream_X3_isStream_n66 : GoodIn wsX2_openStream (wsX3_isStream) := ggX2_openStream_X3_isStream
set_option maxRecDepth 20000 in
theorem ggX2_openStream_X3_setOf : GoodIn wsX2_openStream wsX3_setOf := goodIn_r _ [8] (by decide +kernel) (by decide +kernel)
set_option maxRecDepth 20000 in
theorem gX2_openStream_X3_setOf_n70 : GoodIn wsX2_openStream (wsX3_setOf) := ggX2_openStream_X3_setOf
set_option maxRecDepth 20000 in
theorem ggX2_closeStream_X3_setOf : GoodIn wsX2_closeStream wsX3_setOf := goodIn_r _ [4] (by decide +kernel) (by decide +kernel)
set_option maxRecDepth 20000 in
theorem gX2_closeStream_X3_setOf_n70 : GoodIn wsX2_closeStream (wsX3_setOf) := ggX2_closeStream_X3_setOf


set_option maxRecDepth 20000 in
theorem ggX2_beginEpoch_X1_copyFrom : GoodIn wsX2_beginEpoch wsX1_copyFrom := goodIn_r _ [8, 9, 10, 21, 22] (by decide +kernel) (by decide +kernel)
set_option maxRecDepth 20000 in
theorem gX2_beginEpoch_X1_copyFrom : GoodIn wsX2_beginEpoch (wsV RX2 59 RX1 yX1_copyFrom wsX1_copyFrom) := goodIn_app (goodIn_of _ (by decide +kernel)) ggX2_beginEpoch_X1_copyFrom
set_option maxRecDepth 20000 in
theorem ggX2_takeFrame_X3_isStream : GoodIn wsX2_takeFrame wsX3_isStream := goodIn_r _ [5] (by decide +kernel) (by decide +kernel)
set_option maxRecDepth 20000 in
theorem gX2_takeFrame_X3_isStream_n66 : GoodIn wsX2_takeFrame (wsX3_isStream) := ggX2_takeFrame_X3_isStream
set_option maxRecDepth 20000 in
theorem ggX2_takeFrame_X2_currentEpoch : GoodIn wsX2_takeFrame wsX2_currentEpoch := goodIn_r _ [10, 11, 26, 27, 28, 29, 30, 31, 32, 33, 34, 35] (by decide +kernel) (by decide +kernel)
set_option maxRecDepth 20000 in
theorem gX2_takeFrame_X2_currentEpoch : GoodIn wsX2_takeFrame (wsV RX2 74 RX2 yX2_currentEpoch wsX2_currentEpoch) := goodIn_app (goodIn_of _ (by decide +kernel)) ggX2_takeFrame_X2_currentEpoch
set_option maxRecDepth 20000 in
theorem ggX2_takeFrame_X0_add : GoodIn wsX2_takeFrame wsX0_add := goodIn_r _ [16, 17, 18, 19, 20, 21, 22, 23, 24, 15, 25, 36, 37, 38, 39, 40] (by decide +kernel) (by decide +kernel)
set_option maxRecDepth 20000 in
theorem gX2_takeFrame_X0_add : GoodIn wsX2_takeFrame (wsV RX2 78 RX0 yX0_add wsX0_add) := goodIn_app (goodIn_of _ (by decide +kernel)) ggX2_takeFrame_X0_add

set_option maxRecDepth 20000 in
theorem ggX2_waitingSize_X0_sizeOfAll : GoodIn wsX2_waitingSize wsX0_sizeOfAll := goodIn_r _ [6, 7, 8, 19, 20, 21, 22, 23] (by decide +kernel) (by decide +kernel)
set_option maxRecDepth 20000 in
theorem gX2_waitingSize_X0_sizeOfAll : GoodIn wsX2_waitingSize (wsV RX2 85 RX0 yX0_sizeOfAll wsX0_sizeOfAll) := goodIn_app (goodIn_of _ (by decide +kernel)) ggX2_waitingSize_X0_sizeOfAll
set_option maxRecDepth 20000 in
theorem ggX2_blockersOfFirst_X3_isStream : GoodIn wsX2_blockersOfFirst wsX3_isStream := goodIn_r _ [5] (by decide +kernel) (by decide +kernel)
set_option maxRecDepth 20000 in
theorem gX2_blockersOfFirst_X3_isStream_n66 : GoodIn wsX2_blockersOfFirst (wsX3_isStream) := ggX2_blockersOfFirst_X3_isStream
set_option maxRecDepth 20000 in
theorem ggX2_blockersOfFirst_X0_epochAt : GoodIn wsX2_blockersOfFirst wsX0_epochAt := goodIn_r _ [10, 11, 12, 13, 14, 9, 15, 16, 47, 48, 49, 50, 51] (by decide +kernel) (by decide +kernel)
set_option maxRecDepth 20000 in
theorem gX2_blockersOfFirst_X0_epochAt : GoodIn wsX2_blockersOfFirst (wsV RX2 88 RX0 yX0_epochAt wsX0_epochAt) := goodIn_app (goodIn_of _ (by decide +kernel)) ggX2_blockersOfFirst_X0_epochAt
set_option maxRecDepth 20000 in
theorem ggX2_blockersOfFirst_X2_orderOf : GoodIn wsX2_blockersOfFirst wsX2_orderOf := goodIn_r _ [21, 22, 23, 24, 37, 38, 39, 40, 41, 42, 43, 44, 45, 46] (by decide +kernel) (by decide +kernel)
set_option maxRecDepth 20000 in
theorem gX2_blockersOfFirst_X2_orderOf : GoodIn wsX2_blockersOfFirst (wsV RX2 91 RX2 yX2_orderOf wsX2_orderOf) := goodIn_app (goodIn_of _ (by decide +kernel)) ggX2_blockersOfFirst_X2_orderOf
set_option maxRecDepth 20000 in
theorem ggX2_blockersOfFirst_X1_precedes : GoodIn wsX2_blockersOfFirst wsX1_precedes := goodIn_r _ [29, 30, 3, 4, 5, 31, 32, 52, 53] (by decide +kernel) (by decide +kernel)
set_option maxRecDepth 20000 in
theorem gX2_blockersOfFirst_X1_precedes : GoodIn wsX2_blockersOfFirst (wsV RX2 95 RX1 yX1_precedes wsX1_precedes) := goodIn_app (goodIn_of _ (by decide +kernel)) ggX2_blockersOfFirst_X1_precedes
set_option maxRecDepth 20000 in
theorem ggX2_blockersOfFirst_X0_countOfEpochUpTo : GoodIn wsX2_blockersOfFirst wsX0_countOfEpochUpTo := goodIn_r _ [36, 16, 11, 47, 48, 49, 50, 51] (by decide +kernel) (by decide +kernel)
set_option maxRecDepth 20000 in
theorem gX2_blockersOfFirst_X0_countOfEpochUpTo : GoodIn wsX2_blockersOfFirst (wsV RX2 98 RX0 yX0_countOfEpochUpTo wsX0_countOfEpochUpTo) := goodIn_app (goodIn_of _ (by decide +kernel)) ggX2_blockersOfFirst_X0_countOfEpochUpTo
set_option maxRecDepth 20000 in
theorem ggX2_isCandidate_X3_isStream : GoodIn wsX2_isCandidate wsX3_isStream := goodIn_r _ [5] (by decide +kernel) (by decide +kernel)
set_option maxRecDepth 20000 in
theorem gX2_isCandidate_X3_isStream_n66 : GoodIn wsX2_isCandidate (wsX3_isStream) := ggX2_isCandidate_X3_isStream
set_option maxRecDepth 20000 in
theorem ggX2_isCandidate_X2_blockersOfFirst : GoodIn wsX2_isCandidate wsX2_blockersOfFirst := goodIn_r _ [10, 1, 2, 3, 4, 5, 11, 12, 13, 14, 15, 16, 17, 18, 19, 20, 21, 22, 23, 24, 9, 25, 26, 27, 28, 29, 30, 31, 32, 33, 34, 35, 36, 37, 38, 39, 40, 41, 42, 43, 44, 45, 46, 47, 48, 49, 50, 51, 52, 53, 54, 55, 56, 57] (by decide +kernel) (by decide +kernel)
set_option maxRecDepth 20000 in
theorem gX2_isCandidate_X2_blockersOfFirst : GoodIn wsX2_isCandidate (wsV RX2 101 RX2 yX2_blockersOfFirst wsX2_blockersOfFirst) := goodIn_app (goodIn_of _ (by decide +kernel)) ggX2_isCandidate_X2_blockersOfFirst
set_option maxRecDepth 20000 in
theorem ggX2_candidateCount_X2_isCandidate : GoodIn wsX2_candidateCount wsX2_isCandidate := goodIn_r _ [5, 6, 7, 8, 9, 10, 11, 12, 13, 4, 14, 15, 16, 17, 18, 19, 20, 21, 22, 23, 24, 25, 26, 27, 28, 29, 30, 31, 32, 33, 34, 35, 36, 37, 38, 39, 40, 41, 42, 43, 44, 45, 46, 47, 48, 49, 50, 51, 52, 53, 54, 55, 56, 57, 58, 59, 60, 61] (by decide +kernel) (by decide +kernel)
set_option maxRecDepth 20000 in
theorem gX2_candidateCount_X2_isCandidate : GoodIn wsX2_candidateCount (wsV RX2 104 RX2 yX2_isCandidate wsX2_isCandidate) := goodIn_app (goodIn_of _ (by decide +kernel)) ggX2_candidateCount_X2_isCandidate
set_option maxRecDepth 20000 in
theorem ggX2_nextStream_X2_isCandidate : GoodIn wsX2_nextStream wsX2_isCandidate := goodIn_r _ [5, 6, 7, 8, 9, 10, 11, 12, 13, 4, 14, 15, 16, 17, 18, 19, 20, 21, 22, 23, 24, 25, 26, 27, 28, 29, 30, 31, 32, 33, 34, 35, 36, 37, 38, 39, 40, 41, 42, 43, 44, 51, 52, 53, 54, 55, 56, 57, 58, 59, 60, 61, 62, 63, 64, 65, 66, 67] (by decide +kernel) (by decide +kernel)
set_option maxRecDepth 20000 in
theorem gX2_nextStream_X2_isCandidate : GoodIn wsX2_nextStream (wsV RX2 104 RX2 yX2_isCandidate wsX2_isCandidate) := goodIn_app (goodIn_of _ (by decide +kernel)) ggX2_nextStream_X2_isCandidate
set_option maxRecDepth 20000 in
theorem ggX2_nextStream_X2_isLessServed : GoodIn wsX2_nextStream wsX2_isLessServed := goodIn_r _ [48, 49, 50, 8, 9, 10, 51, 52, 53, 54, 55, 56, 57, 58, 59, 60] (by decide +kernel) (by decide +kernel)
set_option maxRecDepth 20000 in
theorem gX2_nextStream_X2_isLessServed : GoodIn wsX2_nextStream (wsV RX2 107 RX2 yX2_isLessServed wsX2_isLessServed) := goodIn_app (goodIn_of _ (by decide +kernel)) ggX2_nextStream_X2_isLessServed
set_option maxRecDepth 20000 in
theorem ggX2_isLessServed_X3_isStream : GoodIn wsX2_isLessServed wsX3_isStream := goodIn_r _ [5] (by decide +kernel) (by decide +kernel)
set_option maxRecDepth 20000 in
theorem gX2_isLessServed_X3_isStream_n66 : GoodIn wsX2_isLessServed (wsX3_isStream) := ggX2_isLessServed_X3_isStream
set_option maxRecDepth 20000 in
theorem ggX2_sendFirst_X3_isStream : GoodIn wsX2_sendFirst wsX3_isStream := goodIn_r _ [8] (by decide +kernel) (by decide +kernel)
set_option maxRecDepth 20000 in
theorem gX2_sendFirst_X3_isStream_n66 : GoodIn wsX2_sendFirst (wsX3_isStream) := ggX2_sendFirst_X3_isStream
set_option maxRecDepth 20000 in
theorem ggX2_sendFirst_X0_sizeAt : GoodIn wsX2_sendFirst wsX0_sizeAt := goodIn_r _ [13, 14, 15, 16, 17, 12, 18, 19, 54, 55, 56, 57, 58] (by decide +kernel) (by decide +kernel)
set_option maxRecDepth 20000 in
theorem gX2_sendFirst_X0_sizeAt : GoodIn wsX2_sendFirst (wsV RX2 110 RX0 yX0_sizeAt wsX0_sizeAt) := goodIn_app (goodIn_of _ (by decide +kernel)) ggX2_sendFirst_X0_sizeAt
set_option maxRecDepth 20000 in
theorem ggX2_sendFirst_X0_isFull : GoodIn wsX2_sendFirst wsX0_isFull := goodIn_r _ [23, 19, 24, 54, 55, 56, 57, 58] (by decide +kernel) (by decide +kernel)
set_option maxRecDepth 20000 in
theorem gX2_sendFirst_X0_isFull : GoodIn wsX2_sendFirst (wsV RX2 113 RX0 yX0_isFull wsX0_isFull) := goodIn_app (goodIn_of _ (by decide +kernel)) ggX2_sendFirst_X0_isFull
set_option maxRecDepth 20000 in
theorem ggX2_sendFirst_X0_removeFirst : GoodIn wsX2_sendFirst wsX0_removeFirst := goodIn_r _ [28, 19, 24, 29, 14, 30, 54, 55, 56, 57, 58] (by decide +kernel) (by decide +kernel)
set_option maxRecDepth 20000 in
theorem gX2_sendFirst_X0_removeFirst : GoodIn wsX2_sendFirst (wsV RX2 117 RX0 yX0_removeFirst wsX0_removeFirst) := goodIn_app (goodIn_of _ (by decide +kernel)) ggX2_sendFirst_X0_removeFirst
set_option maxRecDepth 20000 in
theorem ggX2_sendFirst_X0_numberAt : GoodIn wsX2_sendFirst wsX0_numberAt := goodIn_r _ [34, 24, 15, 16, 17, 12, 18, 19, 54, 55, 56, 57, 58] (by decide +kernel) (by decide +kernel)
set_option maxRecDepth 20000 in
theorem gX2_sendFirst_X0_numberAt : GoodIn wsX2_sendFirst (wsV RX2 120 RX0 yX0_numberAt wsX0_numberAt) := goodIn_app (goodIn_of _ (by decide +kernel)) ggX2_sendFirst_X0_numberAt
set_option maxRecDepth 20000 in
theorem ggX2_sendFirst_X0_epochAt : GoodIn wsX2_sendFirst wsX0_epochAt := goodIn_r _ [38, 30, 15, 16, 17, 12, 18, 19, 54, 55, 56, 57, 58] (by decide +kernel) (by decide +kernel)
set_option maxRecDepth 20000 in
theorem gX2_sendFirst_X0_epochAt : GoodIn wsX2_sendFirst (wsV RX2 88 RX0 yX0_epochAt wsX0_epochAt) := goodIn_app (goodIn_of _ (by decide +kernel)) ggX2_sendFirst_X0_epochAt
set_option maxRecDepth 20000 in
theorem ggX2_sendFirst_X0_add : GoodIn wsX2_sendFirst wsX0_add := goodIn_r _ [42, 24, 19, 29, 14, 30, 43, 21, 22, 12, 23, 54, 55, 56, 57, 58] (by decide +kernel) (by decide +kernel)
set_option maxRecDepth 20000 in
theorem gX2_sendFirst_X0_add : GoodIn wsX2_sendFirst (wsV RX2 78 RX0 yX0_add wsX0_add) := goodIn_app (goodIn_of _ (by decide +kernel)) ggX2_sendFirst_X0_add
theorem kX2_isOpen_f9 : Cond.fieldLink RX2 9 "StreamMultiplexer$State" "opened" "I" ∈ wsX2_isOpen := List.mem_of_getElem? (i := 1) rfl
theorem uX2_isOpen_X2 : ∀ w ∈ wsX20, w ∈ wsX2_isOpen := fun w h => List.mem_cons_of_mem _ (List.mem_append_right _ h)
theorem kX2_openStream_f9 : Cond.fieldLink RX2 9 "StreamMultiplexer$State" "opened" "I" ∈ wsX2_openStream := List.mem_of_getElem? (i := 1) rfl
theorem uX2_openStream_X2 : ∀ w ∈ wsX20, w ∈ wsX2_openStream := fun w h => List.mem_cons_of_mem _ (List.mem_append_right _ h)
theorem kX2_openStream_f15 : Cond.fieldLink RX2 15 "StreamMultiplexer$State" "weights" "[I" ∈ wsX2_openStream := List.mem_of_getElem? (i := 2) rfl
theorem kX2_openStream_f19 : Cond.fieldLink RX2 19 "StreamMultiplexer$State" "amounts" "[I" ∈ wsX2_openStream := List.mem_of_getElem? (i := 3) rfl
theorem kX2_closeStream_f9 : Cond.fieldLink RX2 9 "StreamMultiplexer$State" "opened" "I" ∈ wsX2_closeStream := List.mem_of_getElem? (i := 1) rfl
theorem uX2_closeStream_X2 : ∀ w ∈ wsX20, w ∈ wsX2_closeStream := fun w h => List.mem_cons_of_mem _ (List.mem_append_right _ h)
theorem kX2_currentEpoch_f42 : Cond.fieldLink RX2 42 "StreamMultiplexer$State" "epochCount" "I" ∈ wsX2_currentEpoch := List.mem_of_getElem? (i := 1) rfl
theorem uX2_currentEpoch_X2 : ∀ w ∈ wsX20, w ∈ wsX2_currentEpoch := fun w h => List.mem_cons_of_mem _ (List.mem_append_right _ h)
theorem kX2_orderOf_f42 : Cond.fieldLink RX2 42 "StreamMultiplexer$State" "epochCount" "I" ∈ wsX2_orderOf := List.mem_of_getElem? (i := 1) rfl
theorem uX2_orderOf_X2 : ∀ w ∈ wsX20, w ∈ wsX2_orderOf := fun w h => List.mem_cons_of_mem _ (List.mem_append_right _ h)
theorem kX2_orderOf_f38 : Cond.fieldLink RX2 38 "StreamMultiplexer$State" "orders" "[LStreamMultiplexer$Order;" ∈ wsX2_orderOf := List.mem_of_getElem? (i := 2) rfl
theorem kX2_orderOf_f34 : Cond.fieldLink RX2 34 "StreamMultiplexer$State" "draft" "LStreamMultiplexer$Order;" ∈ wsX2_orderOf := List.mem_of_getElem? (i := 3) rfl
theorem kX2_beginEpoch_f42 : Cond.fieldLink RX2 42 "StreamMultiplexer$State" "epochCount" "I" ∈ wsX2_beginEpoch := List.mem_of_getElem? (i := 1) rfl
theorem uX2_beginEpoch_X2 : ∀ w ∈ wsX20, w ∈ wsX2_beginEpoch := fun w h => List.mem_cons_of_mem _ (List.mem_append_left _ (List.mem_append_right _ h))
theorem kX2_beginEpoch_f38 : Cond.fieldLink RX2 38 "StreamMultiplexer$State" "orders" "[LStreamMultiplexer$Order;" ∈ wsX2_beginEpoch := List.mem_of_getElem? (i := 2) rfl
theorem kX2_beginEpoch_f34 : Cond.fieldLink RX2 34 "StreamMultiplexer$State" "draft" "LStreamMultiplexer$Order;" ∈ wsX2_beginEpoch := List.mem_of_getElem? (i := 3) rfl
theorem kX2_takeFrame_f45 : Cond.fieldLink RX2 45 "StreamMultiplexer$State" "came" "I" ∈ wsX2_takeFrame := List.mem_of_getElem? (i := 1) rfl
theorem uX2_takeFrame_X2 : ∀ w ∈ wsX20, w ∈ wsX2_takeFrame := fun w h => List.mem_cons_of_mem _ (List.mem_append_left _ (List.mem_append_right _ h))
theorem kX2_takeFrame_f24 : Cond.fieldLink RX2 24 "StreamMultiplexer$State" "queues" "[LStreamMultiplexer$Frames;" ∈ wsX2_takeFrame := List.mem_of_getElem? (i := 2) rfl
theorem kX2_waitingCount_f24 : Cond.fieldLink RX2 24 "StreamMultiplexer$State" "queues" "[LStreamMultiplexer$Frames;" ∈ wsX2_waitingCount := List.mem_of_getElem? (i := 1) rfl
theorem uX2_waitingCount_X2 : ∀ w ∈ wsX20, w ∈ wsX2_waitingCount := fun w h => List.mem_cons_of_mem _ (List.mem_append_left _ (List.mem_append_right _ h))
theorem kX2_waitingCount_f82 : Cond.fieldLink RX2 82 "StreamMultiplexer$Frames" "count" "I" ∈ wsX2_waitingCount := List.mem_of_getElem? (i := 2) rfl
theorem uX2_waitingCount_X0 : ∀ w ∈ wsX00, w ∈ wsX2_waitingCount := fun w h => List.mem_cons_of_mem _ (List.mem_append_right _ h)
theorem kX2_waitingSize_f24 : Cond.fieldLink RX2 24 "StreamMultiplexer$State" "queues" "[LStreamMultiplexer$Frames;" ∈ wsX2_waitingSize := List.mem_of_getElem? (i := 1) rfl
theorem uX2_waitingSize_X2 : ∀ w ∈ wsX20, w ∈ wsX2_waitingSize := fun w h => List.mem_cons_of_mem _ (List.mem_append_left _ (List.mem_append_right _ h))
theorem kX2_blockersOfFirst_f24 : Cond.fieldLink RX2 24 "StreamMultiplexer$State" "queues" "[LStreamMultiplexer$Frames;" ∈ wsX2_blockersOfFirst := List.mem_of_getElem? (i := 1) rfl
theorem uX2_blockersOfFirst_X2 : ∀ w ∈ wsX20, w ∈ wsX2_blockersOfFirst := fun w h => List.mem_cons_of_mem _ (List.mem_append_left _ (List.mem_append_left _ (List.mem_append_right _ h)))
theorem kX2_blockersOfFirst_f82 : Cond.fieldLink RX2 82 "StreamMultiplexer$Frames" "count" "I" ∈ wsX2_blockersOfFirst := List.mem_of_getElem? (i := 2) rfl
theorem uX2_blockersOfFirst_X0 : ∀ w ∈ wsX00, w ∈ wsX2_blockersOfFirst := fun w h => List.mem_cons_of_mem _ (List.mem_append_left _ (List.mem_append_right _ h))
theorem kX2_isCandidate_f24 : Cond.fieldLink RX2 24 "StreamMultiplexer$State" "queues" "[LStreamMultiplexer$Frames;" ∈ wsX2_isCandidate := List.mem_of_getElem? (i := 1) rfl
theorem uX2_isCandidate_X2 : ∀ w ∈ wsX20, w ∈ wsX2_isCandidate := fun w h => List.mem_cons_of_mem _ (List.mem_append_left _ (List.mem_append_left _ (List.mem_append_right _ h)))
theorem kX2_isCandidate_f82 : Cond.fieldLink RX2 82 "StreamMultiplexer$Frames" "count" "I" ∈ wsX2_isCandidate := List.mem_of_getElem? (i := 2) rfl
theorem uX2_isCandidate_X0 : ∀ w ∈ wsX00, w ∈ wsX2_isCandidate := fun w h => List.mem_cons_of_mem _ (List.mem_append_left _ (List.mem_append_right _ h))
theorem kX2_isLessServed_f19 : Cond.fieldLink RX2 19 "StreamMultiplexer$State" "amounts" "[I" ∈ wsX2_isLessServed := List.mem_of_getElem? (i := 1) rfl
theorem uX2_isLessServed_X2 : ∀ w ∈ wsX20, w ∈ wsX2_isLessServed := fun w h => List.mem_cons_of_mem _ (List.mem_append_right _ h)
theorem kX2_isLessServed_f15 : Cond.fieldLink RX2 15 "StreamMultiplexer$State" "weights" "[I" ∈ wsX2_isLessServed := List.mem_of_getElem? (i := 2) rfl
theorem kX2_sendFirst_f24 : Cond.fieldLink RX2 24 "StreamMultiplexer$State" "queues" "[LStreamMultiplexer$Frames;" ∈ wsX2_sendFirst := List.mem_of_getElem? (i := 1) rfl
theorem uX2_sendFirst_X2 : ∀ w ∈ wsX20, w ∈ wsX2_sendFirst := fun w h => List.mem_cons_of_mem _ (List.mem_append_left _ (List.mem_append_right _ h))
theorem kX2_sendFirst_f82 : Cond.fieldLink RX2 82 "StreamMultiplexer$Frames" "count" "I" ∈ wsX2_sendFirst := List.mem_of_getElem? (i := 2) rfl
theorem uX2_sendFirst_X0 : ∀ w ∈ wsX00, w ∈ wsX2_sendFirst := fun w h => List.mem_cons_of_mem _ (List.mem_append_right _ h)
theorem kX2_sendFirst_f51 : Cond.fieldLink RX2 51 "StreamMultiplexer$State" "sentFrames" "LStreamMultiplexer$Frames;" ∈ wsX2_sendFirst := List.mem_of_getElem? (i := 3) rfl
theorem kX2_sendFirst_f19 : Cond.fieldLink RX2 19 "StreamMultiplexer$State" "amounts" "[I" ∈ wsX2_sendFirst := List.mem_of_getElem? (i := 4) rfl
theorem kX2_sendFirst_f48 : Cond.fieldLink RX2 48 "StreamMultiplexer$State" "sent" "I" ∈ wsX2_sendFirst := List.mem_of_getElem? (i := 5) rfl
theorem kX2_copyFrom_f9 : Cond.fieldLink RX2 9 "StreamMultiplexer$State" "opened" "I" ∈ wsX2_copyFrom := List.mem_of_getElem? (i := 1) rfl
theorem uX2_copyFrom_X2 : ∀ w ∈ wsX20, w ∈ wsX2_copyFrom := fun w h => List.mem_cons_of_mem _ (List.mem_append_left _ (List.mem_append_left _ (List.mem_append_right _ h)))
theorem kX2_copyFrom_f15 : Cond.fieldLink RX2 15 "StreamMultiplexer$State" "weights" "[I" ∈ wsX2_copyFrom := List.mem_of_getElem? (i := 2) rfl
theorem kX2_copyFrom_f19 : Cond.fieldLink RX2 19 "StreamMultiplexer$State" "amounts" "[I" ∈ wsX2_copyFrom := List.mem_of_getElem? (i := 3) rfl
theorem kX2_copyFrom_f24 : Cond.fieldLink RX2 24 "StreamMultiplexer$State" "queues" "[LStreamMultiplexer$Frames;" ∈ wsX2_copyFrom := List.mem_of_getElem? (i := 4) rfl
theorem kX2_copyFrom_f34 : Cond.fieldLink RX2 34 "StreamMultiplexer$State" "draft" "LStreamMultiplexer$Order;" ∈ wsX2_copyFrom := List.mem_of_getElem? (i := 5) rfl
theorem kX2_copyFrom_f42 : Cond.fieldLink RX2 42 "StreamMultiplexer$State" "epochCount" "I" ∈ wsX2_copyFrom := List.mem_of_getElem? (i := 6) rfl
theorem kX2_copyFrom_f38 : Cond.fieldLink RX2 38 "StreamMultiplexer$State" "orders" "[LStreamMultiplexer$Order;" ∈ wsX2_copyFrom := List.mem_of_getElem? (i := 7) rfl
theorem kX2_copyFrom_f45 : Cond.fieldLink RX2 45 "StreamMultiplexer$State" "came" "I" ∈ wsX2_copyFrom := List.mem_of_getElem? (i := 8) rfl
theorem kX2_copyFrom_f48 : Cond.fieldLink RX2 48 "StreamMultiplexer$State" "sent" "I" ∈ wsX2_copyFrom := List.mem_of_getElem? (i := 9) rfl
theorem kX2_copyFrom_f51 : Cond.fieldLink RX2 51 "StreamMultiplexer$State" "sentFrames" "LStreamMultiplexer$Frames;" ∈ wsX2_copyFrom := List.mem_of_getElem? (i := 10) rfl
/-- a state's own numbers: how many wait (c), the epoch of the first that waits (e), how many epochs (ec), how many entries the log has (lc) -/
def WfS (I : hm_I) (q : Nat) (c : Nat → Nat) (e : Nat → Nat → Nat) (ec lc : Nat) : Prop :=
  (∀ s, s < 8 → I (q + 4 + 5 * s) 4 = nI (c s) ∧ c s ≤ 6) ∧ (∀ s, s < 8 → ∀ k, k < c s → I ((q + 4 + 5 * s) + 4) k = nI (e s k) ∧ e s k < ec) ∧ I q 6 = nI ec ∧ 1 ≤ ec ∧ ec ≤ 10 ∧ I (q + 78) 4 = nI lc ∧ lc ≤ 40
def fX2_isOpen (I : hm_I) (q : Nat) (s0 : Int32) : Bool :=
  fX3_isIn (I q 0) s0
set_option maxHeartbeats 4000000 in
set_option maxRecDepth 100000 in
theorem ctX2_isOpen {l : Launch} {D : va_G} {T : Nat → ClassId} {L : List Nat} {A : Nat → Prop} {Sh : hm_S} {I : hm_I} {J : hm_J} {q : Nat} (hSt : IsS L Sh q) {s0 : Int32} :
    Ct l yX2_isOpen wsX2_isOpen { frames := 1, cells := 0, slots := 0, locals := 21 } 0 0 D T A [.ref q, .int s0] (hm D T L A Sh I J) (some (.int (bI (fX2_isOpen I q s0)))) (hm D T L A Sh I J) := by
  refine Ct.ofW (cc := cX2_isOpen) (maxL := 2) (ret := (some .boolean)) (by decide) rfl (Nat.le_of_ble_eq_true rfl) ?_
  intro p_ e_ s_ m_ args_ below_ meth_ c_ ls R Qq hR hQ C0 hr hlk hname hM hl
  have hx := C0.1.1
  have hb := C0.1.2.1
  have hS : va_S A s_.heap s_.heap [] := va_S.rf
  have hl : lv_has ls 2 [(0, .ref q), (1, .int s0)] := hl
  refine lv_aload_n hx hb dX2_isOpen_0 rfl (lv_at hl 0 rfl) ?_
  refine mr_geti (v := I q 0) (TT := TX2) (N := 10) C0 uX2_isOpen_X2 hM hSt.1.1 hSt.1.2 rfl 0 (by decide) rfl rfl kX2_isOpen_f9 rfl dX2_isOpen_1 ?_
  refine lv_iload_n hx hb dX2_isOpen_4 rfl (lv_at hl 1 rfl) ?_
  refine mr_callSN (As := [.int (I q 0), .int s0]) C0 (ctX3_isIn (I := I) (J := J) (u0 := (I q 0)) (s0 := s0) ) (va_cnB (own := RX2) (index := 62) 2 C0.1.2.2.2.2 ggX2_isOpen_X3_isIn rfl rfl rfl C0.2.2.2.2.2.2.1 (C0.1.2.2.2.2 _ (List.mem_of_getElem? (i := 3) rfl)) (by decide +kernel) (by rw [hR]; exact ⟨Nat.le_of_ble_eq_true rfl, Nat.le_of_ble_eq_true rfl⟩)) (C0.1.2.2.2.2 _ (List.mem_of_getElem? (i := 2) rfl)) hM hS rfl rfl rfl hl.1 (Nat.le_of_ble_eq_true rfl) dX2_isOpen_5 (by rw [hR]; exact ⟨Nat.zero_le _, Nat.zero_le _⟩) (fun H locs hM hS => ?_)
  have eF : fX3_isIn (I q 0) s0 = fX2_isOpen I q s0 := rfl
  exact mr_zret (b := fX3_isIn (I q 0) s0) C0 hr hlk hQ hS (by rw [← eF]) hM (Nat.le_refl _) (Nat.le_refl _) dX2_isOpen_8
def fX2_openStream_t (I : hm_I) (q s0 : Nat) (w0 : Int32) : hm_I :=
  hm_put (hm_put (hm_put I q 0 ((I q 0) ||| (fX3_setOf (nI s0)))) (q + 1) s0 w0) (q + 2) s0 (nI 0)
set_option maxHeartbeats 4000000 in
set_option maxRecDepth 100000 in
theorem ctX2_openStream_t {l : Launch} {D : va_G} {T : Nat → ClassId} {L : List Nat} {A : Nat → Prop} {Sh : hm_S} {I : hm_I} {J : hm_J} {q : Nat} (hSt : IsS L Sh q) {s0 : Nat} {w0 : Int32} (hs0 : s0 < 8) :
    Ct l yX2_openStream wsX2_openStream { frames := 1, cells := 0, slots := 0, locals := 20 } 0 0 D T A [.ref q, .int (nI s0), .int w0] (hm D T L A Sh I J) none (hm D T L A Sh (fX2_openStream_t I q s0 w0) J) := by
  refine Ct.ofW (cc := cX2_openStream) (maxL := 3) (ret := none) (by decide) rfl (Nat.le_of_ble_eq_true rfl) ?_
  intro p_ e_ s_ m_ args_ below_ meth_ c_ ls R Qq hR hQ C0 hr hlk hname hM hl
  have hx := C0.1.1
  have hb := C0.1.2.1
  have hS : va_S A s_.heap s_.heap [] := va_S.rf
  have hl : lv_has ls 3 [(0, .ref q), (1, .int (nI s0)), (2, .int w0)] := hl
  refine lv_iload_n hx hb dX2_openStream_0 rfl (lv_at hl 1 rfl) ?_
  refine mr_callSN (As := [.int (nI s0)]) C0 (ctX3_isStream_t (I := I) (J := J) (s0 := s0) (by omega)) (va_cnB (own := RX2) (index := 66) 1 C0.1.2.2.2.2 ggX2_openStream_X3_isStream rfl rfl rfl C0.2.2.2.2.2.2.2.1 (C0.1.2.2.2.2 _ (List.mem_of_getElem? (i := 5) rfl)) (by decide +kernel) (by rw [hR]; exact ⟨Nat.le_of_ble_eq_true rfl, Nat.le_of_ble_eq_true rfl⟩)) (C0.1.2.2.2.2 _ (List.mem_of_getElem? (i := 4) rfl)) hM hS rfl rfl rfl hl.1 (Nat.le_of_ble_eq_true rfl) dX2_openStream_1 (by rw [hR]; exact ⟨Nat.zero_le _, Nat.zero_le _⟩) (fun H locs hM hS => ?_)
  refine mr_neB (tgt := 8) C0 dX2_openStream_4 (by decide) (fun _ => ?_) (fun c1 => absurd c1 (by decide))
  refine lv_aload_n hx hb dX2_openStream_8 rfl (lv_at hl 0 rfl) ?_
  refine lv_dup hx hb dX2_openStream_9 rfl ?_
  refine mr_geti (v := I q 0) (TT := TX2) (N := 10) C0 uX2_openStream_X2 hM hSt.1.1 hSt.1.2 rfl 0 (by decide) rfl rfl kX2_openStream_f9 rfl dX2_openStream_10 ?_
  refine lv_iload_n hx hb dX2_openStream_13 rfl (lv_at hl 1 rfl) ?_
  refine mr_callSN (As := [.int (nI s0)]) C0 (ctX3_setOf (I := I) (J := J) (s0 := (nI s0)) ) (va_cnB (own := RX2) (index := 70) 1 C0.1.2.2.2.2 ggX2_openStream_X3_setOf rfl rfl rfl C0.2.2.2.2.2.2.2.2.1 (C0.1.2.2.2.2 _ (List.mem_of_getElem? (i := 5) rfl)) (by decide +kernel) (by rw [hR]; exact ⟨Nat.le_of_ble_eq_true rfl, Nat.le_of_ble_eq_true rfl⟩)) (C0.1.2.2.2.2 _ (List.mem_of_getElem? (i := 7) rfl)) hM hS rfl rfl rfl hl.1 (Nat.le_of_ble_eq_true rfl) dX2_openStream_14 (by rw [hR]; exact ⟨Nat.zero_le _, Nat.zero_le _⟩) (fun H locs hM hS => ?_)
  refine lv_ior hx hb dX2_openStream_17 ?_
  refine mr_puti (TT := TX2) (N := 10) C0 uX2_openStream_X2 tyX2 tyX2_ok nmX2 hM hS hSt.1.1 hSt.1.2 rfl 0 (by decide) rfl kX2_openStream_f9 rfl rfl (by decide +kernel) dX2_openStream_18 (fun H locs hM hS => ?_)
  refine lv_aload_n hx hb dX2_openStream_21 rfl (lv_at hl 0 rfl) ?_
  refine mr_getr (r := q + 1) (TT := TX2) (N := 10) C0 uX2_openStream_X2 hM hSt.1.1 hSt.1.2 rfl 1 (by decide) rfl kX2_openStream_f15 rfl dX2_openStream_22 ?_
  refine lv_iload_n hx hb dX2_openStream_25 rfl (lv_at hl 1 rfl) ?_
  refine lv_iload_n hx hb dX2_openStream_26 rfl (lv_at hl 2 rfl) ?_
  refine mr_iastN C0 hM hS hSt.2.1.1 hSt.2.1.2 (by decide) (by omega) dX2_openStream_27 (fun H locs hM hS => ?_)
  refine lv_aload_n hx hb dX2_openStream_28 rfl (lv_at hl 0 rfl) ?_
  refine mr_getr (r := q + 2) (TT := TX2) (N := 10) C0 uX2_openStream_X2 hM hSt.1.1 hSt.1.2 rfl 2 (by decide) rfl kX2_openStream_f19 rfl dX2_openStream_29 ?_
  refine lv_iload_n hx hb dX2_openStream_32 rfl (lv_at hl 1 rfl) ?_
  refine lv_iconst (v := nI 0) hx hb dX2_openStream_33 (by decide) ?_
  refine mr_iastN C0 hM hS hSt.2.2.1.1 hSt.2.2.1.2 (by decide) (by omega) dX2_openStream_34 (fun H locs hM hS => ?_)
  have eF : hm_put (hm_put (hm_put I q 0 ((I q 0) ||| (fX3_setOf (nI s0)))) (q + 1) s0 w0) (q + 2) s0 (nI 0) = fX2_openStream_t I q s0 w0 := rfl
  exact mr_vret C0 hr hlk hQ hS rfl (by rw [← eF]; exact hM) (Nat.le_refl _) (Nat.le_refl _) dX2_openStream_35
def fX2_closeStream (I : hm_I) (q : Nat) (s0 : Int32) : hm_I :=
  hm_put I q 0 ((I q 0) &&& ((fX3_setOf s0) ^^^ (-1)))
set_option maxHeartbeats 4000000 in
set_option maxRecDepth 100000 in
theorem ctX2_closeStream {l : Launch} {D : va_G} {T : Nat → ClassId} {L : List Nat} {A : Nat → Prop} {Sh : hm_S} {I : hm_I} {J : hm_J} {q : Nat} (hSt : IsS L Sh q) {s0 : Int32} :
    Ct l yX2_closeStream wsX2_closeStream { frames := 1, cells := 0, slots := 0, locals := 20 } 0 0 D T A [.ref q, .int s0] (hm D T L A Sh I J) none (hm D T L A Sh (fX2_closeStream I q s0) J) := by
  refine Ct.ofW (cc := cX2_closeStream) (maxL := 2) (ret := none) (by decide) rfl (Nat.le_of_ble_eq_true rfl) ?_
  intro p_ e_ s_ m_ args_ below_ meth_ c_ ls R Qq hR hQ C0 hr hlk hname hM hl
  have hx := C0.1.1
  have hb := C0.1.2.1
  have hS : va_S A s_.heap s_.heap [] := va_S.rf
  have hl : lv_has ls 2 [(0, .ref q), (1, .int s0)] := hl
  refine lv_aload_n hx hb dX2_closeStream_0 rfl (lv_at hl 0 rfl) ?_
  refine lv_dup hx hb dX2_closeStream_1 rfl ?_
  refine mr_geti (v := I q 0) (TT := TX2) (N := 10) C0 uX2_closeStream_X2 hM hSt.1.1 hSt.1.2 rfl 0 (by decide) rfl rfl kX2_closeStream_f9 rfl dX2_closeStream_2 ?_
  refine lv_iload_n hx hb dX2_closeStream_5 rfl (lv_at hl 1 rfl) ?_
  refine mr_callSN (As := [.int s0]) C0 (ctX3_setOf (I := I) (J := J) (s0 := s0) ) (va_cnB (own := RX2) (index := 70) 1 C0.1.2.2.2.2 ggX2_closeStream_X3_setOf rfl rfl rfl C0.2.2.2.2.2.2.2.2.1 (C0.1.2.2.2.2 _ (List.mem_of_getElem? (i := 3) rfl)) (by decide +kernel) (by rw [hR]; exact ⟨Nat.le_of_ble_eq_true rfl, Nat.le_of_ble_eq_true rfl⟩)) (C0.1.2.2.2.2 _ (List.mem_of_getElem? (i := 2) rfl)) hM hS rfl rfl rfl hl.1 (Nat.le_of_ble_eq_true rfl) dX2_closeStream_6 (by rw [hR]; exact ⟨Nat.zero_le _, Nat.zero_le _⟩) (fun H locs hM hS => ?_)
  refine lv_iconst (v := (-1)) hx hb dX2_closeStream_9 (by decide) ?_
  refine lv_ixor hx hb dX2_closeStream_10 ?_
  refine lv_iand hx hb dX2_closeStream_11 ?_
  refine mr_puti (TT := TX2) (N := 10) C0 uX2_closeStream_X2 tyX2 tyX2_ok nmX2 hM hS hSt.1.1 hSt.1.2 rfl 0 (by decide) rfl kX2_closeStream_f9 rfl rfl (by decide +kernel) dX2_closeStream_12 (fun H locs hM hS => ?_)
  have eF : hm_put I q 0 ((I q 0) &&& ((fX3_setOf s0) ^^^ (-1))) = fX2_closeStream I q s0 := rfl
  exact mr_vret C0 hr hlk hQ hS rfl (by rw [← eF]; exact hM) (Nat.le_refl _) (Nat.le_refl _) dX2_closeStream_15
set_option maxHeartbeats 4000000 in
set_option maxRecDepth 100000 in
theorem ctX2_currentEpoch {l : Launch} {D : va_G} {T : Nat → ClassId} {L : List Nat} {A : Nat → Prop} {Sh : hm_S} {I : hm_I} {J : hm_J} {q : Nat} (hSt : IsS L Sh q) {c : Nat → Nat} {e : Nat → Nat → Nat} {ec lc : Nat} (hW : WfS I q c e ec lc) :
    Ct l yX2_currentEpoch wsX2_currentEpoch { frames := 0, cells := 0, slots := 0, locals := 0 } 0 0 D T A [.ref q] (hm D T L A Sh I J) (some (.int (nI (ec - 1)))) (hm D T L A Sh I J) := by
  refine Ct.ofW (cc := cX2_currentEpoch) (maxL := 1) (ret := (some .int)) (by decide) rfl (Nat.le_of_ble_eq_true rfl) ?_
  intro p_ e_ s_ m_ args_ below_ meth_ c_ ls R Qq hR hQ C0 hr hlk hname hM hl
  have hx := C0.1.1
  have hb := C0.1.2.1
  have hS : va_S A s_.heap s_.heap [] := va_S.rf
  have hl : lv_has ls 1 [(0, .ref q)] := hl
  refine lv_aload_n hx hb dX2_currentEpoch_0 rfl (lv_at hl 0 rfl) ?_
  have hw1 := hW.2.2.2.1
  have hw1b := hW.2.2.2.2.1
  refine mr_geti (v := nI ec) (TT := TX2) (N := 10) C0 uX2_currentEpoch_X2 hM hSt.1.1 hSt.1.2 rfl 6 (by decide) rfl hW.2.2.1 kX2_currentEpoch_f42 rfl dX2_currentEpoch_1 ?_
  refine lv_iconst (v := nI 1) hx hb dX2_currentEpoch_4 (by decide) ?_
  refine mr_isubN (z := (ec - 1)) C0 (by omega) dX2_currentEpoch_5 ?_
  skip
  exact mr_iret (v := nI (ec - 1)) C0 hr hlk hQ hS rfl hM (Nat.le_refl _) (Nat.le_refl _) dX2_currentEpoch_6
set_option maxHeartbeats 4000000 in
set_option maxRecDepth 100000 in
theorem ctX2_orderOf_t {l : Launch} {D : va_G} {T : Nat → ClassId} {L : List Nat} {A : Nat → Prop} {Sh : hm_S} {I : hm_I} {J : hm_J} {q : Nat} (hSt : IsS L Sh q) {c : Nat → Nat} {e : Nat → Nat → Nat} {ec lc : Nat} (hW : WfS I q c e ec lc) {e0 : Nat} (he0 : e0 < ec) :
    Ct l yX2_orderOf wsX2_orderOf { frames := 0, cells := 0, slots := 0, locals := 0 } 0 0 D T A [.ref q, .int (nI e0)] (hm D T L A Sh I J) (some (.ref (q + 48 + 3 * e0))) (hm D T L A Sh I J) := by
  refine Ct.ofW (cc := cX2_orderOf) (maxL := 2) (ret := (some (.object "StreamMultiplexer$Order"))) (by decide) rfl (Nat.le_of_ble_eq_true rfl) ?_
  intro p_ e_ s_ m_ args_ below_ meth_ c_ ls R Qq hR hQ C0 hr hlk hname hM hl
  have hx := C0.1.1
  have hb := C0.1.2.1
  have hS : va_S A s_.heap s_.heap [] := va_S.rf
  have hl : lv_has ls 2 [(0, .ref q), (1, .int (nI e0))] := hl
  have hW1 := hW.2.2.2.2.1
  refine lv_iload_n hx hb dX2_orderOf_0 rfl (lv_at hl 1 rfl) ?_
  refine lv_if_lt (tgt := 27) hx hb dX2_orderOf_1 (by decide) (fun c1 => absurd c1 (nI_pos (by omega))) (fun c1 => ?_)
  refine lv_iload_n hx hb dX2_orderOf_4 rfl (lv_at hl 1 rfl) ?_
  refine lv_aload_n hx hb dX2_orderOf_5 rfl (lv_at hl 0 rfl) ?_
  have hw2 := hW.2.2.2.1
  have hw2b := hW.2.2.2.2.1
  refine mr_geti (v := nI ec) (TT := TX2) (N := 10) C0 uX2_orderOf_X2 hM hSt.1.1 hSt.1.2 rfl 6 (by decide) rfl hW.2.2.1 kX2_orderOf_f42 rfl dX2_orderOf_6 ?_
  refine mr_geN (x := e0) (y := ec) (tgt := 27) C0 dX2_orderOf_9 (by decide) (by omega) (by omega) (fun c3 => absurd c3 (by omega)) (fun c3 => ?_)
  refine lv_iload_n hx hb dX2_orderOf_12 rfl (lv_at hl 1 rfl) ?_
  refine lv_bipush (v := nI 10) hx hb dX2_orderOf_13 (by decide) ?_
  refine mr_geN (x := e0) (y := 10) (tgt := 27) C0 dX2_orderOf_15 (by decide) (by omega) (by omega) (fun c4 => absurd c4 (by omega)) (fun c4 => ?_)
  refine lv_aload_n hx hb dX2_orderOf_18 rfl (lv_at hl 0 rfl) ?_
  refine mr_getr (r := q + 47) (TT := TX2) (N := 10) C0 uX2_orderOf_X2 hM hSt.1.1 hSt.1.2 rfl 5 (by decide) rfl kX2_orderOf_f38 rfl dX2_orderOf_19 ?_
  refine lv_iload_n hx hb dX2_orderOf_22 rfl (lv_at hl 1 rfl) ?_
  refine mr_aald (t := 1) (C := RX1) (r := q + 48 + 3 * e0) C0 hM hSt.2.2.2.2.2.2.1.1 hSt.2.2.2.2.2.2.1.2 rfl (by decide) (by omega) rfl dX2_orderOf_23 ?_
  refine lv_goto (tgt := 31) hx hb dX2_orderOf_24 (by decide) ?_
  skip
  exact mr_aret (v := q + 48 + 3 * e0) C0 hr hlk hQ hS rfl hM (Nat.le_refl _) (Nat.le_refl _) dX2_orderOf_31
set_option maxHeartbeats 4000000 in
set_option maxRecDepth 100000 in
theorem ctX2_orderOf_d {l : Launch} {D : va_G} {T : Nat → ClassId} {L : List Nat} {A : Nat → Prop} {Sh : hm_S} {I : hm_I} {J : hm_J} {q : Nat} (hSt : IsS L Sh q) {e0 : Int32} (he0 : e0 < 0) :
    Ct l yX2_orderOf wsX2_orderOf { frames := 0, cells := 0, slots := 0, locals := 0 } 0 0 D T A [.ref q, .int e0] (hm D T L A Sh I J) (some (.ref (q + 44))) (hm D T L A Sh I J) := by
  refine Ct.ofW (cc := cX2_orderOf) (maxL := 2) (ret := (some (.object "StreamMultiplexer$Order"))) (by decide) rfl (Nat.le_of_ble_eq_true rfl) ?_
  intro p_ e_ s_ m_ args_ below_ meth_ c_ ls R Qq hR hQ C0 hr hlk hname hM hl
  have hx := C0.1.1
  have hb := C0.1.2.1
  have hS : va_S A s_.heap s_.heap [] := va_S.rf
  have hl : lv_has ls 2 [(0, .ref q), (1, .int e0)] := hl
  refine lv_iload_n hx hb dX2_orderOf_0 rfl (lv_at hl 1 rfl) ?_
  refine lv_if_lt (tgt := 27) hx hb dX2_orderOf_1 (by decide) (fun c1 => ?_) (fun c1 => absurd he0 c1)
  refine lv_aload_n hx hb dX2_orderOf_27 rfl (lv_at hl 0 rfl) ?_
  refine mr_getr (r := q + 44) (TT := TX2) (N := 10) C0 uX2_orderOf_X2 hM hSt.1.1 hSt.1.2 rfl 4 (by decide) rfl kX2_orderOf_f34 rfl dX2_orderOf_28 ?_
  skip
  exact mr_aret (v := q + 44) C0 hr hlk hQ hS rfl hM (Nat.le_refl _) (Nat.le_refl _) dX2_orderOf_31
def fX2_beginEpoch_t (I : hm_I) (q ec : Nat) : hm_I :=
  hm_put (fX1_copyFrom I (q + 48 + 3 * ec) (q + 44)) q 6 (nI (ec + 1))
set_option maxHeartbeats 4000000 in
set_option maxRecDepth 100000 in
theorem ctX2_beginEpoch_t {l : Launch} {D : va_G} {T : Nat → ClassId} {L : List Nat} {A : Nat → Prop} {Sh : hm_S} {I : hm_I} {J : hm_J} {q : Nat} (hSt : IsS L Sh q) {c : Nat → Nat} {e : Nat → Nat → Nat} {ec lc : Nat} (hW : WfS I q c e ec lc) (hec : ec < 10) :
    Ct l yX2_beginEpoch wsX2_beginEpoch { frames := 1, cells := 0, slots := 0, locals := 22 } 0 0 D T A [.ref q] (hm D T L A Sh I J) none (hm D T L A Sh (fX2_beginEpoch_t I q ec) J) := by
  refine Ct.ofW (cc := cX2_beginEpoch) (maxL := 1) (ret := none) (by decide) rfl (Nat.le_of_ble_eq_true rfl) ?_
  intro p_ e_ s_ m_ args_ below_ meth_ c_ ls R Qq hR hQ C0 hr hlk hname hM hl
  have hx := C0.1.1
  have hb := C0.1.2.1
  have hS : va_S A s_.heap s_.heap [] := va_S.rf
  have hl : lv_has ls 1 [(0, .ref q)] := hl
  refine lv_aload_n hx hb dX2_beginEpoch_0 rfl (lv_at hl 0 rfl) ?_
  have hw1 := hW.2.2.2.1
  have hw1b := hW.2.2.2.2.1
  refine mr_geti (v := nI ec) (TT := TX2) (N := 10) C0 uX2_beginEpoch_X2 hM hSt.1.1 hSt.1.2 rfl 6 (by decide) rfl hW.2.2.1 kX2_beginEpoch_f42 rfl dX2_beginEpoch_1 ?_
  refine lv_bipush (v := nI 10) hx hb dX2_beginEpoch_4 (by decide) ?_
  refine mr_ltN (x := ec) (y := 10) (tgt := 10) C0 dX2_beginEpoch_6 (by decide) (by omega) (by omega) (fun c2 => ?_) (fun c2 => absurd c2 (by omega))
  refine lv_aload_n hx hb dX2_beginEpoch_10 rfl (lv_at hl 0 rfl) ?_
  refine mr_getr (r := q + 47) (TT := TX2) (N := 10) C0 uX2_beginEpoch_X2 hM hSt.1.1 hSt.1.2 rfl 5 (by decide) rfl kX2_beginEpoch_f38 rfl dX2_beginEpoch_11 ?_
  refine lv_aload_n hx hb dX2_beginEpoch_14 rfl (lv_at hl 0 rfl) ?_
  refine mr_geti (v := nI ec) (TT := TX2) (N := 10) C0 uX2_beginEpoch_X2 hM hSt.1.1 hSt.1.2 rfl 6 (by decide) rfl hW.2.2.1 kX2_beginEpoch_f42 rfl dX2_beginEpoch_15 ?_
  refine mr_aald (t := 1) (C := RX1) (r := q + 48 + 3 * ec) C0 hM hSt.2.2.2.2.2.2.1.1 hSt.2.2.2.2.2.2.1.2 rfl (by decide) (by omega) rfl dX2_beginEpoch_18 ?_
  refine lv_aload_n hx hb dX2_beginEpoch_19 rfl (lv_at hl 0 rfl) ?_
  refine mr_getr (r := q + 44) (TT := TX2) (N := 10) C0 uX2_beginEpoch_X2 hM hSt.1.1 hSt.1.2 rfl 4 (by decide) rfl kX2_beginEpoch_f34 rfl dX2_beginEpoch_20 ?_
  refine mr_callV (As := [.ref (q + 44)]) C0 (ctX1_copyFrom (I := I) (J := J) (a := (q + 48 + 3 * ec)) (b := (q + 44)) (hSt.2.2.2.2.2.2.2.1 _ (by omega)) hSt.2.2.2.2.2.1 (by omega)) (cwV 1 C0.1.2.2.2.2 gX2_beginEpoch_X1_copyFrom rfl rfl rfl (by decide +kernel) (by rw [hR]; exact ⟨Nat.le_of_ble_eq_true rfl, Nat.le_of_ble_eq_true rfl⟩)) hM (hSt.2.2.2.2.2.2.2.1 _ (by omega)).1.1 (hSt.2.2.2.2.2.2.2.1 _ (by omega)).1.2 rfl rfl hM hS rfl rfl rfl hl.1 (Nat.le_of_ble_eq_true rfl) dX2_beginEpoch_23 (by rw [hR]; exact ⟨Nat.zero_le _, Nat.zero_le _⟩) (fun H locs hM hS => ?_)
  refine lv_aload_n hx hb dX2_beginEpoch_26 rfl (lv_at hl 0 rfl) ?_
  refine lv_dup hx hb dX2_beginEpoch_27 rfl ?_
  refine mr_geti (v := nI ec) (TT := TX2) (N := 10) C0 uX2_beginEpoch_X2 hM hSt.1.1 hSt.1.2 rfl 6 (by decide) rfl ((congrFun (fX1_copyFrom_ne (by omega)) _).trans hW.2.2.1) kX2_beginEpoch_f42 rfl dX2_beginEpoch_28 ?_
  refine lv_iconst (v := nI 1) hx hb dX2_beginEpoch_31 (by decide) ?_
  refine mr_iaddN (z := ec + 1) C0 rfl dX2_beginEpoch_32 ?_
  refine mr_puti (TT := TX2) (N := 10) C0 uX2_beginEpoch_X2 tyX2 tyX2_ok nmX2 hM hS hSt.1.1 hSt.1.2 rfl 6 (by decide) rfl kX2_beginEpoch_f42 rfl rfl (by decide +kernel) dX2_beginEpoch_33 (fun H locs hM hS => ?_)
  have eF : hm_put (fX1_copyFrom I (q + 48 + 3 * ec) (q + 44)) q 6 (nI (ec + 1)) = fX2_beginEpoch_t I q ec := rfl
  exact mr_vret C0 hr hlk hQ hS rfl (by rw [← eF]; exact hM) (Nat.le_refl _) (Nat.le_refl _) dX2_beginEpoch_36
def fX2_takeFrame_t (I : hm_I) (q : Nat) (c : Nat → Nat) (ec s0 : Nat) (z : Int32) : Int32 × hm_I :=
  (I q 7, hm_put (fX0_add_t I (q + 4 + 5 * s0) (c s0) (I q 7) (nI s0) z (nI (ec - 1))) q 7 (((fX0_add_t I (q + 4 + 5 * s0) (c s0) (I q 7) (nI s0) z (nI (ec - 1))) q 7) + (nI 1)))
set_option maxHeartbeats 4000000 in
set_option maxRecDepth 100000 in
theorem ctX2_takeFrame_t {l : Launch} {D : va_G} {T : Nat → ClassId} {L : List Nat} {A : Nat → Prop} {Sh : hm_S} {I : hm_I} {J : hm_J} {q : Nat} (hSt : IsS L Sh q) {c : Nat → Nat} {e : Nat → Nat → Nat} {ec lc : Nat} (hW : WfS I q c e ec lc) {s0 : Nat} {z : Int32} (hs0 : s0 < 8) (hcl : c s0 < 6) :
    Ct l yX2_takeFrame wsX2_takeFrame { frames := 2, cells := 0, slots := 0, locals := 44 } 0 0 D T A [.ref q, .int (nI s0), .int z] (hm D T L A Sh I J) (some (.int ((fX2_takeFrame_t I q c ec s0 z).1))) (hm D T L A Sh ((fX2_takeFrame_t I q c ec s0 z).2) J) := by
  refine Ct.ofW (cc := cX2_takeFrame) (maxL := 4) (ret := (some .int)) (by decide) rfl (Nat.le_of_ble_eq_true rfl) ?_
  intro p_ e_ s_ m_ args_ below_ meth_ c_ ls R Qq hR hQ C0 hr hlk hname hM hl
  have hx := C0.1.1
  have hb := C0.1.2.1
  have hS : va_S A s_.heap s_.heap [] := va_S.rf
  have hl : lv_has ls 4 [(0, .ref q), (1, .int (nI s0)), (2, .int z)] := hl
  refine lv_iload_n hx hb dX2_takeFrame_0 rfl (lv_at hl 1 rfl) ?_
  refine mr_callSN (As := [.int (nI s0)]) C0 (ctX3_isStream_t (I := I) (J := J) (s0 := s0) (by omega)) (va_cnB (own := RX2) (index := 66) 1 C0.1.2.2.2.2 ggX2_takeFrame_X3_isStream rfl rfl rfl C0.2.2.2.2.2.2.2.1 (C0.1.2.2.2.2 _ (List.mem_of_getElem? (i := 4) rfl)) (by decide +kernel) (by rw [hR]; exact ⟨Nat.le_of_ble_eq_true rfl, Nat.le_of_ble_eq_true rfl⟩)) (C0.1.2.2.2.2 _ (List.mem_of_getElem? (i := 3) rfl)) hM hS rfl rfl rfl hl.1 (Nat.le_of_ble_eq_true rfl) dX2_takeFrame_1 (by rw [hR]; exact ⟨Nat.zero_le _, Nat.zero_le _⟩) (fun H locs hM hS => ?_)
  refine mr_neB (tgt := 10) C0 dX2_takeFrame_4 (by decide) (fun _ => ?_) (fun c1 => absurd c1 (by decide))
  refine lv_aload_n hx hb dX2_takeFrame_10 rfl (lv_at hl 0 rfl) ?_
  refine mr_geti (v := I q 7) (TT := TX2) (N := 10) C0 uX2_takeFrame_X2 hM hSt.1.1 hSt.1.2 rfl 7 (by decide) rfl rfl kX2_takeFrame_f45 rfl dX2_takeFrame_11 ?_
  refine lv_istore_n (lv' := [(3, .int (I q 7)), (0, .ref q), (1, .int (nI s0)), (2, .int z)]) hx hb dX2_takeFrame_14 rfl hl (by decide) rfl (fun ls hl => ?_)
  refine lv_aload_n hx hb dX2_takeFrame_15 rfl (lv_at hl 1 rfl) ?_
  refine mr_getr (r := q + 3) (TT := TX2) (N := 10) C0 uX2_takeFrame_X2 hM hSt.1.1 hSt.1.2 rfl 3 (by decide) rfl kX2_takeFrame_f24 rfl dX2_takeFrame_16 ?_
  refine lv_iload_n hx hb dX2_takeFrame_19 rfl (lv_at hl 2 rfl) ?_
  refine mr_aald (t := 0) (C := RX0) (r := q + 4 + 5 * s0) C0 hM hSt.2.2.2.1.1 hSt.2.2.2.1.2 rfl (by decide) (by omega) rfl dX2_takeFrame_20 ?_
  refine lv_iload_n hx hb dX2_takeFrame_21 rfl (lv_at hl 0 rfl) ?_
  refine lv_iload_n hx hb dX2_takeFrame_22 rfl (lv_at hl 2 rfl) ?_
  refine lv_iload_n hx hb dX2_takeFrame_23 rfl (lv_at hl 3 rfl) ?_
  refine lv_aload_n hx hb dX2_takeFrame_24 rfl (lv_at hl 1 rfl) ?_
  refine mr_callV (As := []) C0 (ctX2_currentEpoch (I := I) (J := J) (q := q) hSt hW) (cwV 0 C0.1.2.2.2.2 gX2_takeFrame_X2_currentEpoch rfl rfl rfl (by decide +kernel) (by rw [hR]; exact ⟨Nat.le_of_ble_eq_true rfl, Nat.le_of_ble_eq_true rfl⟩)) hM hSt.1.1 hSt.1.2 rfl rfl hM hS rfl rfl rfl hl.1 (Nat.le_of_ble_eq_true rfl) dX2_takeFrame_25 (by rw [hR]; exact ⟨Nat.zero_le _, Nat.zero_le _⟩) (fun H locs hM hS => ?_)
  have hw2 := hW.1 s0 (by omega)
  have hw2b := hw2.2
  refine mr_callV (As := [.int (I q 7), .int (nI s0), .int z, .int (nI (ec - 1))]) C0 (ctX0_add_t (I := I) (J := J) (a := (q + 4 + 5 * s0)) (v := (I q 7)) (s0 := (nI s0)) (z := z) (e0 := (nI (ec - 1))) (hSt.2.2.2.2.1 _ (by omega)) hw2.1 (by omega) (by omega) (by omega)) (cwV 4 C0.1.2.2.2.2 gX2_takeFrame_X0_add rfl rfl rfl (by decide +kernel) (by rw [hR]; exact ⟨Nat.le_of_ble_eq_true rfl, Nat.le_of_ble_eq_true rfl⟩)) hM (hSt.2.2.2.2.1 _ (by omega)).1.1 (hSt.2.2.2.2.1 _ (by omega)).1.2 rfl rfl hM hS rfl rfl rfl hl.1 (Nat.le_of_ble_eq_true rfl) dX2_takeFrame_28 (by rw [hR]; exact ⟨Nat.zero_le _, Nat.zero_le _⟩) (fun H locs hM hS => ?_)
  refine lv_aload_n hx hb dX2_takeFrame_31 rfl (lv_at hl 1 rfl) ?_
  refine lv_dup hx hb dX2_takeFrame_32 rfl ?_
  refine mr_geti (v := (fX0_add_t I (q + 4 + 5 * s0) (c s0) (I q 7) (nI s0) z (nI (ec - 1))) q 7) (TT := TX2) (N := 10) C0 uX2_takeFrame_X2 hM hSt.1.1 hSt.1.2 rfl 7 (by decide) rfl rfl kX2_takeFrame_f45 rfl dX2_takeFrame_33 ?_
  refine lv_iconst (v := nI 1) hx hb dX2_takeFrame_36 (by decide) ?_
  refine lv_iadd hx hb dX2_takeFrame_37 ?_
  refine mr_puti (TT := TX2) (N := 10) C0 uX2_takeFrame_X2 tyX2 tyX2_ok nmX2 hM hS hSt.1.1 hSt.1.2 rfl 7 (by decide) rfl kX2_takeFrame_f45 rfl rfl (by decide +kernel) dX2_takeFrame_38 (fun H locs hM hS => ?_)
  refine lv_iload_n hx hb dX2_takeFrame_41 rfl (lv_at hl 0 rfl) ?_
  have eF : (I q 7, hm_put (fX0_add_t I (q + 4 + 5 * s0) (c s0) (I q 7) (nI s0) z (nI (ec - 1))) q 7 (((fX0_add_t I (q + 4 + 5 * s0) (c s0) (I q 7) (nI s0) z (nI (ec - 1))) q 7) + (nI 1))) = fX2_takeFrame_t I q c ec s0 z := rfl
  exact mr_iret (v := I q 7) C0 hr hlk hQ hS (by rw [← eF]) (by rw [← eF]; exact hM) (Nat.le_refl _) (Nat.le_refl _) dX2_takeFrame_42
def fX2_waitingCount (c : Nat → Nat) : Int32 :=
  (lp 8 (fun i4 x4 => x4 + (nI (c i4))) (nI 0))
set_option maxHeartbeats 4000000 in
set_option maxRecDepth 100000 in
theorem ctX2_waitingCount {l : Launch} {D : va_G} {T : Nat → ClassId} {L : List Nat} {A : Nat → Prop} {Sh : hm_S} {I : hm_I} {J : hm_J} {q : Nat} (hSt : IsS L Sh q) {c : Nat → Nat} {e : Nat → Nat → Nat} {ec lc : Nat} (hW : WfS I q c e ec lc) :
    Ct l yX2_waitingCount wsX2_waitingCount { frames := 0, cells := 0, slots := 0, locals := 0 } 0 0 D T A [.ref q] (hm D T L A Sh I J) (some (.int (fX2_waitingCount c))) (hm D T L A Sh I J) := by
  refine Ct.ofW (cc := cX2_waitingCount) (maxL := 3) (ret := (some .int)) (by decide) rfl (Nat.le_of_ble_eq_true rfl) ?_
  intro p_ e_ s_ m_ args_ below_ meth_ c_ ls R Qq hR hQ C0 hr hlk hname hM hl
  have hx := C0.1.1
  have hb := C0.1.2.1
  have hS : va_S A s_.heap s_.heap [] := va_S.rf
  have hl : lv_has ls 3 [(0, .ref q)] := hl
  refine lv_iconst (v := nI 0) hx hb dX2_waitingCount_0 (by decide) ?_
  refine lv_istore_n (lv' := [(1, .int (nI 0)), (0, .ref q)]) hx hb dX2_waitingCount_1 rfl hl (by decide) rfl (fun ls hl => ?_)
  refine lv_iconst (v := nI 0) hx hb dX2_waitingCount_2 (by decide) ?_
  refine lv_istore_n (lv' := [(2, .int (nI 0)), (1, .int (nI 0)), (0, .ref q)]) hx hb dX2_waitingCount_3 rfl hl (by decide) rfl (fun ls hl => ?_)
  refine lp_loop (σ := Int32) (fun i4 x4 => ∀ (H : Heap) (locs : List Loc) (ls : Array Slot), hm D T L A Sh I J H → va_S A s_.heap H locs → lv_has ls 3 [(0, .ref q), (1, .int x4), (2, .int (nI i4))] → W p_ l e_ R s_ m_ args_ below_ meth_ c_ H locs 0 0 Qq (F0 m_ 4 ls [])) 8 (fun i4 x4 => x4 + (nI (c i4))) (nI 0) (fun _ _ => True) trivial (fun _ _ _ _ => trivial) (fun i4 x4 hi1 hv2 k3 H locs ls hM hS hl => ?_) (fun hv2 H locs ls hM hS hl => ?_) _ _ _ hM hS (lv_sub hl [2, 1, 0] rfl)
  · have stp4 : ∀ yy_ : Int32, yy_ = (x4 + (nI (c i4))) → ∀ (H : Heap) (locs : List Loc) (ls : Array Slot), hm D T L A Sh I J H → va_S A s_.heap H locs → lv_has ls 3 [(0, .ref q), (1, .int yy_), (2, .int (nI (i4 + 1)))] → W p_ l e_ R s_ m_ args_ below_ meth_ c_ H locs 0 0 Qq (F0 m_ 4 ls []) := fun yy_ ey => by rw [ey]; exact k3
    refine lv_iload_n hx hb dX2_waitingCount_4 rfl (lv_at hl 2 rfl) ?_
    refine lv_bipush (v := nI 8) hx hb dX2_waitingCount_5 (by decide) ?_
    refine mr_geN (x := i4) (y := 8) (tgt := 28) C0 dX2_waitingCount_7 (by decide) (by omega) (by omega) (fun c5 => absurd c5 (by omega)) (fun c5 => ?_)
    refine lv_iload_n hx hb dX2_waitingCount_10 rfl (lv_at hl 1 rfl) ?_
    refine lv_aload_n hx hb dX2_waitingCount_11 rfl (lv_at hl 0 rfl) ?_
    refine mr_getr (r := q + 3) (TT := TX2) (N := 10) C0 uX2_waitingCount_X2 hM hSt.1.1 hSt.1.2 rfl 3 (by decide) rfl kX2_waitingCount_f24 rfl dX2_waitingCount_12 ?_
    refine lv_iload_n hx hb dX2_waitingCount_15 rfl (lv_at hl 2 rfl) ?_
    refine mr_aald (t := 0) (C := RX0) (r := q + 4 + 5 * i4) C0 hM hSt.2.2.2.1.1 hSt.2.2.2.1.2 rfl (by decide) (by omega) rfl dX2_waitingCount_16 ?_
    have hw6 := hW.1 i4 (by omega)
    have hw6b := hw6.2
    refine mr_geti (v := nI (c i4)) (TT := TX0) (N := 5) C0 uX2_waitingCount_X0 hM (hSt.2.2.2.2.1 _ (by omega)).1.1 (hSt.2.2.2.2.1 _ (by omega)).1.2 rfl 4 (by decide) rfl hw6.1 kX2_waitingCount_f82 rfl dX2_waitingCount_17 ?_
    refine lv_iadd hx hb dX2_waitingCount_20 ?_
    refine lv_istore_n (lv' := [(1, .int (x4 + (nI (c i4)))), (0, .ref q), (2, .int (nI i4))]) hx hb dX2_waitingCount_21 rfl hl (by decide) rfl (fun ls hl => ?_)
    refine lv_iinc (v := nI (i4 + 1)) (lv' := [(2, .int (nI (i4 + 1))), (1, .int (x4 + (nI (c i4)))), (0, .ref q)]) hx hb dX2_waitingCount_22 hl (k := 2) rfl (nI_1 _) (by decide) rfl (fun ls hl => ?_)
    refine lv_goto (tgt := 4) hx hb dX2_waitingCount_25 (by decide) ?_
    exact stp4 (x4 + (nI (c i4))) rfl H locs ls hM hS (lv_sub hl [2, 1, 0] rfl)
  · skip
    refine lv_iload_n hx hb dX2_waitingCount_4 rfl (lv_at hl 2 rfl) ?_
    refine lv_bipush (v := nI 8) hx hb dX2_waitingCount_5 (by decide) ?_
    refine mr_geN (x := 8) (y := 8) (tgt := 28) C0 dX2_waitingCount_7 (by decide) (by decide) (by decide) (fun _ => ?_) (fun c7 => absurd c7 (by decide))
    refine lv_iload_n hx hb dX2_waitingCount_28 rfl (lv_at hl 1 rfl) ?_
    have eF : (lp 8 (fun i4 x4 => x4 + (nI (c i4))) (nI 0)) = fX2_waitingCount c := rfl
    exact mr_iret (v := (lp 8 (fun i4 x4 => x4 + (nI (c i4))) (nI 0))) C0 hr hlk hQ hS (by rw [← eF]) hM (Nat.le_refl _) (Nat.le_refl _) dX2_waitingCount_29
def fX2_waitingSize (I : hm_I) (q : Nat) (c : Nat → Nat) : Int32 :=
  (lp 8 (fun i4 x4 => x4 + (fX0_sizeOfAll I (q + 4 + 5 * i4) (c i4))) (nI 0))
set_option maxHeartbeats 4000000 in
set_option maxRecDepth 100000 in
theorem ctX2_waitingSize {l : Launch} {D : va_G} {T : Nat → ClassId} {L : List Nat} {A : Nat → Prop} {Sh : hm_S} {I : hm_I} {J : hm_J} {q : Nat} (hSt : IsS L Sh q) {c : Nat → Nat} {e : Nat → Nat → Nat} {ec lc : Nat} (hW : WfS I q c e ec lc) :
    Ct l yX2_waitingSize wsX2_waitingSize { frames := 1, cells := 0, slots := 0, locals := 22 } 0 0 D T A [.ref q] (hm D T L A Sh I J) (some (.int (fX2_waitingSize I q c))) (hm D T L A Sh I J) := by
  refine Ct.ofW (cc := cX2_waitingSize) (maxL := 3) (ret := (some .int)) (by decide) rfl (Nat.le_of_ble_eq_true rfl) ?_
  intro p_ e_ s_ m_ args_ below_ meth_ c_ ls R Qq hR hQ C0 hr hlk hname hM hl
  have hx := C0.1.1
  have hb := C0.1.2.1
  have hS : va_S A s_.heap s_.heap [] := va_S.rf
  have hl : lv_has ls 3 [(0, .ref q)] := hl
  refine lv_iconst (v := nI 0) hx hb dX2_waitingSize_0 (by decide) ?_
  refine lv_istore_n (lv' := [(1, .int (nI 0)), (0, .ref q)]) hx hb dX2_waitingSize_1 rfl hl (by decide) rfl (fun ls hl => ?_)
  refine lv_iconst (v := nI 0) hx hb dX2_waitingSize_2 (by decide) ?_
  refine lv_istore_n (lv' := [(2, .int (nI 0)), (1, .int (nI 0)), (0, .ref q)]) hx hb dX2_waitingSize_3 rfl hl (by decide) rfl (fun ls hl => ?_)
  refine lp_loop (σ := Int32) (fun i4 x4 => ∀ (H : Heap) (locs : List Loc) (ls : Array Slot), hm D T L A Sh I J H → va_S A s_.heap H locs → lv_has ls 3 [(0, .ref q), (1, .int x4), (2, .int (nI i4))] → W p_ l e_ R s_ m_ args_ below_ meth_ c_ H locs 0 0 Qq (F0 m_ 4 ls [])) 8 (fun i4 x4 => x4 + (fX0_sizeOfAll I (q + 4 + 5 * i4) (c i4))) (nI 0) (fun _ _ => True) trivial (fun _ _ _ _ => trivial) (fun i4 x4 hi1 hv2 k3 H locs ls hM hS hl => ?_) (fun hv2 H locs ls hM hS hl => ?_) _ _ _ hM hS (lv_sub hl [2, 1, 0] rfl)
  · have stp4 : ∀ yy_ : Int32, yy_ = (x4 + (fX0_sizeOfAll I (q + 4 + 5 * i4) (c i4))) → ∀ (H : Heap) (locs : List Loc) (ls : Array Slot), hm D T L A Sh I J H → va_S A s_.heap H locs → lv_has ls 3 [(0, .ref q), (1, .int yy_), (2, .int (nI (i4 + 1)))] → W p_ l e_ R s_ m_ args_ below_ meth_ c_ H locs 0 0 Qq (F0 m_ 4 ls []) := fun yy_ ey => by rw [ey]; exact k3
    refine lv_iload_n hx hb dX2_waitingSize_4 rfl (lv_at hl 2 rfl) ?_
    refine lv_bipush (v := nI 8) hx hb dX2_waitingSize_5 (by decide) ?_
    refine mr_geN (x := i4) (y := 8) (tgt := 28) C0 dX2_waitingSize_7 (by decide) (by omega) (by omega) (fun c5 => absurd c5 (by omega)) (fun c5 => ?_)
    refine lv_iload_n hx hb dX2_waitingSize_10 rfl (lv_at hl 1 rfl) ?_
    refine lv_aload_n hx hb dX2_waitingSize_11 rfl (lv_at hl 0 rfl) ?_
    refine mr_getr (r := q + 3) (TT := TX2) (N := 10) C0 uX2_waitingSize_X2 hM hSt.1.1 hSt.1.2 rfl 3 (by decide) rfl kX2_waitingSize_f24 rfl dX2_waitingSize_12 ?_
    refine lv_iload_n hx hb dX2_waitingSize_15 rfl (lv_at hl 2 rfl) ?_
    refine mr_aald (t := 0) (C := RX0) (r := q + 4 + 5 * i4) C0 hM hSt.2.2.2.1.1 hSt.2.2.2.1.2 rfl (by decide) (by omega) rfl dX2_waitingSize_16 ?_
    have hw6 := hW.1 i4 (by omega)
    have hw6b := hw6.2
    refine mr_callV (As := []) C0 (ctX0_sizeOfAll (I := I) (J := J) (a := (q + 4 + 5 * i4)) (hSt.2.2.2.2.1 _ (by omega)) hw6.1 (by omega) (by omega)) (cwV 0 C0.1.2.2.2.2 gX2_waitingSize_X0_sizeOfAll rfl rfl rfl (by decide +kernel) (by rw [hR]; exact ⟨Nat.le_of_ble_eq_true rfl, Nat.le_of_ble_eq_true rfl⟩)) hM (hSt.2.2.2.2.1 _ (by omega)).1.1 (hSt.2.2.2.2.1 _ (by omega)).1.2 rfl rfl hM hS rfl rfl rfl hl.1 (Nat.le_of_ble_eq_true rfl) dX2_waitingSize_17 (by rw [hR]; exact ⟨Nat.zero_le _, Nat.zero_le _⟩) (fun H locs hM hS => ?_)
    refine lv_iadd hx hb dX2_waitingSize_20 ?_
    refine lv_istore_n (lv' := [(1, .int (x4 + (fX0_sizeOfAll I (q + 4 + 5 * i4) (c i4)))), (0, .ref q), (2, .int (nI i4))]) hx hb dX2_waitingSize_21 rfl hl (by decide) rfl (fun ls hl => ?_)
    refine lv_iinc (v := nI (i4 + 1)) (lv' := [(2, .int (nI (i4 + 1))), (1, .int (x4 + (fX0_sizeOfAll I (q + 4 + 5 * i4) (c i4)))), (0, .ref q)]) hx hb dX2_waitingSize_22 hl (k := 2) rfl (nI_1 _) (by decide) rfl (fun ls hl => ?_)
    refine lv_goto (tgt := 4) hx hb dX2_waitingSize_25 (by decide) ?_
    exact stp4 (x4 + (fX0_sizeOfAll I (q + 4 + 5 * i4) (c i4))) rfl H locs ls hM hS (lv_sub hl [2, 1, 0] rfl)
  · skip
    refine lv_iload_n hx hb dX2_waitingSize_4 rfl (lv_at hl 2 rfl) ?_
    refine lv_bipush (v := nI 8) hx hb dX2_waitingSize_5 (by decide) ?_
    refine mr_geN (x := 8) (y := 8) (tgt := 28) C0 dX2_waitingSize_7 (by decide) (by decide) (by decide) (fun _ => ?_) (fun c7 => absurd c7 (by decide))
    refine lv_iload_n hx hb dX2_waitingSize_28 rfl (lv_at hl 1 rfl) ?_
    have eF : (lp 8 (fun i4 x4 => x4 + (fX0_sizeOfAll I (q + 4 + 5 * i4) (c i4))) (nI 0)) = fX2_waitingSize I q c := rfl
    exact mr_iret (v := (lp 8 (fun i4 x4 => x4 + (fX0_sizeOfAll I (q + 4 + 5 * i4) (c i4))) (nI 0))) C0 hr hlk hQ hS (by rw [← eF]) hM (Nat.le_refl _) (Nat.le_refl _) dX2_waitingSize_29
def fX2_blockersOfFirst_t (I : hm_I) (q : Nat) (c : Nat → Nat) (e : Nat → Nat → Nat) (s0 : Nat) : Int32 :=
  (lp 8 (fun i44 x44 => if fX1_precedes_t I (q + 48 + 3 * (e s0 0)) i44 s0 = true then x44 + (fX0_countOfEpochUpTo I (q + 4 + 5 * i44) (c i44) (nI (e s0 0))) else x44) (nI 0))
set_option maxHeartbeats 4000000 in
set_option maxRecDepth 100000 in
theorem ctX2_blockersOfFirst_t {l : Launch} {D : va_G} {T : Nat → ClassId} {L : List Nat} {A : Nat → Prop} {Sh : hm_S} {I : hm_I} {J : hm_J} {q : Nat} (hSt : IsS L Sh q) {c : Nat → Nat} {e : Nat → Nat → Nat} {ec lc : Nat} (hW : WfS I q c e ec lc) {s0 : Nat} (hs0 : s0 < 8) (hc0 : 0 < c s0) :
    Ct l yX2_blockersOfFirst wsX2_blockersOfFirst { frames := 2, cells := 0, slots := 0, locals := 43 } 0 0 D T A [.ref q, .int (nI s0)] (hm D T L A Sh I J) (some (.int (fX2_blockersOfFirst_t I q c e s0))) (hm D T L A Sh I J) := by
  refine Ct.ofW (cc := cX2_blockersOfFirst) (maxL := 6) (ret := (some .int)) (by decide) rfl (Nat.le_of_ble_eq_true rfl) ?_
  intro p_ e_ s_ m_ args_ below_ meth_ c_ ls R Qq hR hQ C0 hr hlk hname hM hl
  have hx := C0.1.1
  have hb := C0.1.2.1
  have hS : va_S A s_.heap s_.heap [] := va_S.rf
  have hl : lv_has ls 6 [(0, .ref q), (1, .int (nI s0))] := hl
  refine lv_iload_n hx hb dX2_blockersOfFirst_0 rfl (lv_at hl 1 rfl) ?_
  refine mr_callSN (As := [.int (nI s0)]) C0 (ctX3_isStream_t (I := I) (J := J) (s0 := s0) (by omega)) (va_cnB (own := RX2) (index := 66) 1 C0.1.2.2.2.2 ggX2_blockersOfFirst_X3_isStream rfl rfl rfl C0.2.2.2.2.2.2.2.1 (C0.1.2.2.2.2 _ (List.mem_of_getElem? (i := 4) rfl)) (by decide +kernel) (by rw [hR]; exact ⟨Nat.le_of_ble_eq_true rfl, Nat.le_of_ble_eq_true rfl⟩)) (C0.1.2.2.2.2 _ (List.mem_of_getElem? (i := 3) rfl)) hM hS rfl rfl rfl hl.1 (Nat.le_of_ble_eq_true rfl) dX2_blockersOfFirst_1 (by rw [hR]; exact ⟨Nat.zero_le _, Nat.zero_le _⟩) (fun H locs hM hS => ?_)
  refine mr_eqB (tgt := 19) C0 dX2_blockersOfFirst_4 (by decide) (fun c1 => absurd c1 (by decide)) (fun _ => ?_)
  refine lv_aload_n hx hb dX2_blockersOfFirst_7 rfl (lv_at hl 0 rfl) ?_
  refine mr_getr (r := q + 3) (TT := TX2) (N := 10) C0 uX2_blockersOfFirst_X2 hM hSt.1.1 hSt.1.2 rfl 3 (by decide) rfl kX2_blockersOfFirst_f24 rfl dX2_blockersOfFirst_8 ?_
  refine lv_iload_n hx hb dX2_blockersOfFirst_11 rfl (lv_at hl 1 rfl) ?_
  refine mr_aald (t := 0) (C := RX0) (r := q + 4 + 5 * s0) C0 hM hSt.2.2.2.1.1 hSt.2.2.2.1.2 rfl (by decide) (by omega) rfl dX2_blockersOfFirst_12 ?_
  have hw2 := hW.1 s0 (by omega)
  have hw2b := hw2.2
  refine mr_geti (v := nI (c s0)) (TT := TX0) (N := 5) C0 uX2_blockersOfFirst_X0 hM (hSt.2.2.2.2.1 _ (by omega)).1.1 (hSt.2.2.2.2.1 _ (by omega)).1.2 rfl 4 (by decide) rfl hw2.1 kX2_blockersOfFirst_f82 rfl dX2_blockersOfFirst_13 ?_
  refine mr_ne0N (x := (c s0)) (tgt := 21) C0 dX2_blockersOfFirst_16 (by decide) (by omega) (fun c3 => ?_) (fun c3 => absurd c3 (by omega))
  refine lv_aload_n hx hb dX2_blockersOfFirst_21 rfl (lv_at hl 0 rfl) ?_
  refine mr_getr (r := q + 3) (TT := TX2) (N := 10) C0 uX2_blockersOfFirst_X2 hM hSt.1.1 hSt.1.2 rfl 3 (by decide) rfl kX2_blockersOfFirst_f24 rfl dX2_blockersOfFirst_22 ?_
  refine lv_iload_n hx hb dX2_blockersOfFirst_25 rfl (lv_at hl 1 rfl) ?_
  refine mr_aald (t := 0) (C := RX0) (r := q + 4 + 5 * s0) C0 hM hSt.2.2.2.1.1 hSt.2.2.2.1.2 rfl (by decide) (by omega) rfl dX2_blockersOfFirst_26 ?_
  refine lv_iconst (v := nI 0) hx hb dX2_blockersOfFirst_27 (by decide) ?_
  refine mr_callV (As := [.int (nI 0)]) C0 (ctX0_epochAt_t (I := I) (J := J) (a := (q + 4 + 5 * s0)) (k := 0) (hSt.2.2.2.2.1 _ (by omega)) hw2.1 (by omega) (by omega) (by omega)) (cwV 1 C0.1.2.2.2.2 gX2_blockersOfFirst_X0_epochAt rfl rfl rfl (by decide +kernel) (by rw [hR]; exact ⟨Nat.le_of_ble_eq_true rfl, Nat.le_of_ble_eq_true rfl⟩)) hM (hSt.2.2.2.2.1 _ (by omega)).1.1 (hSt.2.2.2.2.1 _ (by omega)).1.2 rfl rfl hM hS rfl rfl rfl hl.1 (Nat.le_of_ble_eq_true rfl) dX2_blockersOfFirst_28 (by rw [hR]; exact ⟨Nat.zero_le _, Nat.zero_le _⟩) (fun H locs hM hS => ?_)
  have hw4 := hW.2.1 s0 (by omega) 0 (by omega)
  have hw4b := hw4.2
  have hw4c := hW.2.2.2.2.1
  refine mr_top (y := nI (e s0 0)) hw4.1 ?_
  refine lv_istore_n (lv' := [(2, .int (nI (e s0 0))), (0, .ref q), (1, .int (nI s0))]) hx hb dX2_blockersOfFirst_31 rfl hl (by decide) rfl (fun ls hl => ?_)
  refine lv_aload_n hx hb dX2_blockersOfFirst_32 rfl (lv_at hl 1 rfl) ?_
  refine lv_iload_n hx hb dX2_blockersOfFirst_33 rfl (lv_at hl 0 rfl) ?_
  refine mr_callV (As := [.int (nI (e s0 0))]) C0 (ctX2_orderOf_t (I := I) (J := J) (q := q) (e0 := (e s0 0)) hSt hW (by omega)) (cwV 1 C0.1.2.2.2.2 gX2_blockersOfFirst_X2_orderOf rfl rfl rfl (by decide +kernel) (by rw [hR]; exact ⟨Nat.le_of_ble_eq_true rfl, Nat.le_of_ble_eq_true rfl⟩)) hM hSt.1.1 hSt.1.2 rfl rfl hM hS rfl rfl rfl hl.1 (Nat.le_of_ble_eq_true rfl) dX2_blockersOfFirst_34 (by rw [hR]; exact ⟨Nat.zero_le _, Nat.zero_le _⟩) (fun H locs hM hS => ?_)
  refine lv_astore_n (lv' := [(3, .ref (q + 48 + 3 * (e s0 0))), (2, .int (nI (e s0 0))), (0, .ref q), (1, .int (nI s0))]) hx hb dX2_blockersOfFirst_37 rfl hl (by decide) rfl (fun ls hl => ?_)
  refine lv_iconst (v := nI 0) hx hb dX2_blockersOfFirst_38 (by decide) ?_
  refine lv_istore (lv' := [(4, .int (nI 0)), (3, .ref (q + 48 + 3 * (e s0 0))), (2, .int (nI (e s0 0))), (0, .ref q), (1, .int (nI s0))]) hx hb dX2_blockersOfFirst_39 hl (by decide) rfl (fun ls hl => ?_)
  refine lv_iconst (v := nI 0) hx hb dX2_blockersOfFirst_41 (by decide) ?_
  refine lv_istore (lv' := [(5, .int (nI 0)), (4, .int (nI 0)), (3, .ref (q + 48 + 3 * (e s0 0))), (2, .int (nI (e s0 0))), (0, .ref q), (1, .int (nI s0))]) hx hb dX2_blockersOfFirst_42 hl (by decide) rfl (fun ls hl => ?_)
  refine lp_loop (σ := Int32) (fun i44 x44 => ∀ (H : Heap) (locs : List Loc) (ls : Array Slot), hm D T L A Sh I J H → va_S A s_.heap H locs → lv_has ls 6 [(0, .ref q), (1, .int (nI s0)), (2, .int (nI (e s0 0))), (3, .ref (q + 48 + 3 * (e s0 0))), (4, .int x44), (5, .int (nI i44))] → W p_ l e_ R s_ m_ args_ below_ meth_ c_ H locs 0 0 Qq (F0 m_ 44 ls [])) 8 (fun i44 x44 => if fX1_precedes_t I (q + 48 + 3 * (e s0 0)) i44 s0 = true then x44 + (fX0_countOfEpochUpTo I (q + 4 + 5 * i44) (c i44) (nI (e s0 0))) else x44) (nI 0) (fun _ _ => True) trivial (fun _ _ _ _ => trivial) (fun i44 x44 hi5 hv6 k7 H locs ls hM hS hl => ?_) (fun hv6 H locs ls hM hS hl => ?_) _ _ _ hM hS (lv_sub hl [4, 5, 3, 2, 1, 0] rfl)
  · have stp8 : ∀ yy_ : Int32, yy_ = (if fX1_precedes_t I (q + 48 + 3 * (e s0 0)) i44 s0 = true then x44 + (fX0_countOfEpochUpTo I (q + 4 + 5 * i44) (c i44) (nI (e s0 0))) else x44) → ∀ (H : Heap) (locs : List Loc) (ls : Array Slot), hm D T L A Sh I J H → va_S A s_.heap H locs → lv_has ls 6 [(0, .ref q), (1, .int (nI s0)), (2, .int (nI (e s0 0))), (3, .ref (q + 48 + 3 * (e s0 0))), (4, .int yy_), (5, .int (nI (i44 + 1)))] → W p_ l e_ R s_ m_ args_ below_ meth_ c_ H locs 0 0 Qq (F0 m_ 44 ls []) := fun yy_ ey => by rw [ey]; exact k7
    refine lv_iload hx hb dX2_blockersOfFirst_44 (lv_at hl 5 rfl) ?_
    refine lv_bipush (v := nI 8) hx hb dX2_blockersOfFirst_46 (by decide) ?_
    refine mr_geN (x := i44) (y := 8) (tgt := 83) C0 dX2_blockersOfFirst_48 (by decide) (by omega) (by omega) (fun c9 => absurd c9 (by omega)) (fun c9 => ?_)
    refine lv_aload_n hx hb dX2_blockersOfFirst_51 rfl (lv_at hl 3 rfl) ?_
    refine lv_iload hx hb dX2_blockersOfFirst_52 (lv_at hl 5 rfl) ?_
    refine lv_iload_n hx hb dX2_blockersOfFirst_54 rfl (lv_at hl 1 rfl) ?_
    refine mr_callV (As := [.int (nI i44), .int (nI s0)]) C0 (ctX1_precedes_t (I := I) (J := J) (a := (q + 48 + 3 * (e s0 0))) (x := i44) (y := s0) (hSt.2.2.2.2.2.2.2.1 _ (by omega)) (by omega)) (cwV 2 C0.1.2.2.2.2 gX2_blockersOfFirst_X1_precedes rfl rfl rfl (by decide +kernel) (by rw [hR]; exact ⟨Nat.le_of_ble_eq_true rfl, Nat.le_of_ble_eq_true rfl⟩)) hM (hSt.2.2.2.2.2.2.2.1 _ (by omega)).1.1 (hSt.2.2.2.2.2.2.2.1 _ (by omega)).1.2 rfl rfl hM hS rfl rfl rfl hl.1 (Nat.le_of_ble_eq_true rfl) dX2_blockersOfFirst_55 (by rw [hR]; exact ⟨Nat.zero_le _, Nat.zero_le _⟩) (fun H locs hM hS => ?_)
    refine mr_eqB (tgt := 77) C0 dX2_blockersOfFirst_58 (by decide) (fun c10 => ?_) (fun c10 => ?_)
    · skip
      refine lv_iinc (v := nI (i44 + 1)) (lv' := [(5, .int (nI (i44 + 1))), (0, .ref q), (1, .int (nI s0)), (2, .int (nI (e s0 0))), (3, .ref (q + 48 + 3 * (e s0 0))), (4, .int x44)]) hx hb dX2_blockersOfFirst_77 hl (k := 5) rfl (nI_1 _) (by decide) rfl (fun ls hl => ?_)
      refine lv_goto (tgt := 44) hx hb dX2_blockersOfFirst_80 (by decide) ?_
      exact stp8 x44 (by rw [if_neg (Bool.eq_false_iff.mp c10)]) H locs ls hM hS (lv_sub hl [1, 2, 3, 4, 5, 0] rfl)
    · skip
      refine lv_iload hx hb dX2_blockersOfFirst_61 (lv_at hl 4 rfl) ?_
      refine lv_aload_n hx hb dX2_blockersOfFirst_63 rfl (lv_at hl 0 rfl) ?_
      refine mr_getr (r := q + 3) (TT := TX2) (N := 10) C0 uX2_blockersOfFirst_X2 hM hSt.1.1 hSt.1.2 rfl 3 (by decide) rfl kX2_blockersOfFirst_f24 rfl dX2_blockersOfFirst_64 ?_
      refine lv_iload hx hb dX2_blockersOfFirst_67 (lv_at hl 5 rfl) ?_
      refine mr_aald (t := 0) (C := RX0) (r := q + 4 + 5 * i44) C0 hM hSt.2.2.2.1.1 hSt.2.2.2.1.2 rfl (by decide) (by omega) rfl dX2_blockersOfFirst_69 ?_
      refine lv_iload_n hx hb dX2_blockersOfFirst_70 rfl (lv_at hl 2 rfl) ?_
      have hw11 := hW.1 i44 (by omega)
      have hw11b := hw11.2
      refine mr_callV (As := [.int (nI (e s0 0))]) C0 (ctX0_countOfEpochUpTo (I := I) (J := J) (a := (q + 4 + 5 * i44)) (e0 := (nI (e s0 0))) (hSt.2.2.2.2.1 _ (by omega)) hw11.1 (by omega) (by omega)) (cwV 1 C0.1.2.2.2.2 gX2_blockersOfFirst_X0_countOfEpochUpTo rfl rfl rfl (by decide +kernel) (by rw [hR]; exact ⟨Nat.le_of_ble_eq_true rfl, Nat.le_of_ble_eq_true rfl⟩)) hM (hSt.2.2.2.2.1 _ (by omega)).1.1 (hSt.2.2.2.2.1 _ (by omega)).1.2 rfl rfl hM hS rfl rfl rfl hl.1 (Nat.le_of_ble_eq_true rfl) dX2_blockersOfFirst_71 (by rw [hR]; exact ⟨Nat.zero_le _, Nat.zero_le _⟩) (fun H locs hM hS => ?_)
      refine lv_iadd hx hb dX2_blockersOfFirst_74 ?_
      refine lv_istore (lv' := [(4, .int (x44 + (fX0_countOfEpochUpTo I (q + 4 + 5 * i44) (c i44) (nI (e s0 0))))), (0, .ref q), (1, .int (nI s0)), (2, .int (nI (e s0 0))), (3, .ref (q + 48 + 3 * (e s0 0))), (5, .int (nI i44))]) hx hb dX2_blockersOfFirst_75 hl (by decide) rfl (fun ls hl => ?_)
      refine lv_iinc (v := nI (i44 + 1)) (lv' := [(5, .int (nI (i44 + 1))), (4, .int (x44 + (fX0_countOfEpochUpTo I (q + 4 + 5 * i44) (c i44) (nI (e s0 0))))), (0, .ref q), (1, .int (nI s0)), (2, .int (nI (e s0 0))), (3, .ref (q + 48 + 3 * (e s0 0)))]) hx hb dX2_blockersOfFirst_77 hl (k := 5) rfl (nI_1 _) (by decide) rfl (fun ls hl => ?_)
      refine lv_goto (tgt := 44) hx hb dX2_blockersOfFirst_80 (by decide) ?_
      exact stp8 (x44 + (fX0_countOfEpochUpTo I (q + 4 + 5 * i44) (c i44) (nI (e s0 0)))) (by rw [if_pos c10]) H locs ls hM hS (lv_sub hl [2, 3, 4, 5, 1, 0] rfl)
  · skip
    refine lv_iload hx hb dX2_blockersOfFirst_44 (lv_at hl 5 rfl) ?_
    refine lv_bipush (v := nI 8) hx hb dX2_blockersOfFirst_46 (by decide) ?_
    refine mr_geN (x := 8) (y := 8) (tgt := 83) C0 dX2_blockersOfFirst_48 (by decide) (by decide) (by decide) (fun _ => ?_) (fun c12 => absurd c12 (by decide))
    refine lv_iload hx hb dX2_blockersOfFirst_83 (lv_at hl 4 rfl) ?_
    have eF : (lp 8 (fun i44 x44 => if fX1_precedes_t I (q + 48 + 3 * (e s0 0)) i44 s0 = true then x44 + (fX0_countOfEpochUpTo I (q + 4 + 5 * i44) (c i44) (nI (e s0 0))) else x44) (nI 0)) = fX2_blockersOfFirst_t I q c e s0 := rfl
    exact mr_iret (v := (lp 8 (fun i44 x44 => if fX1_precedes_t I (q + 48 + 3 * (e s0 0)) i44 s0 = true then x44 + (fX0_countOfEpochUpTo I (q + 4 + 5 * i44) (c i44) (nI (e s0 0))) else x44) (nI 0))) C0 hr hlk hQ hS (by rw [← eF]) hM (Nat.le_refl _) (Nat.le_refl _) dX2_blockersOfFirst_85
def fX2_isCandidate_t (I : hm_I) (q : Nat) (c : Nat → Nat) (e : Nat → Nat → Nat) (s0 : Nat) : Bool :=
  if (c s0) = 0 then false else if fX2_blockersOfFirst_t I q c e s0 = 0 then true else false
set_option maxHeartbeats 4000000 in
set_option maxRecDepth 100000 in
theorem ctX2_isCandidate_t {l : Launch} {D : va_G} {T : Nat → ClassId} {L : List Nat} {A : Nat → Prop} {Sh : hm_S} {I : hm_I} {J : hm_J} {q : Nat} (hSt : IsS L Sh q) {c : Nat → Nat} {e : Nat → Nat → Nat} {ec lc : Nat} (hW : WfS I q c e ec lc) {s0 : Nat} (hs0 : s0 < 8) :
    Ct l yX2_isCandidate wsX2_isCandidate { frames := 3, cells := 0, slots := 0, locals := 68 } 0 0 D T A [.ref q, .int (nI s0)] (hm D T L A Sh I J) (some (.int (bI (fX2_isCandidate_t I q c e s0)))) (hm D T L A Sh I J) := by
  refine Ct.ofW (cc := cX2_isCandidate) (maxL := 2) (ret := (some .boolean)) (by decide) rfl (Nat.le_of_ble_eq_true rfl) ?_
  intro p_ e_ s_ m_ args_ below_ meth_ c_ ls R Qq hR hQ C0 hr hlk hname hM hl
  have hx := C0.1.1
  have hb := C0.1.2.1
  have hS : va_S A s_.heap s_.heap [] := va_S.rf
  have hl : lv_has ls 2 [(0, .ref q), (1, .int (nI s0))] := hl
  refine lv_iload_n hx hb dX2_isCandidate_0 rfl (lv_at hl 1 rfl) ?_
  refine mr_callSN (As := [.int (nI s0)]) C0 (ctX3_isStream_t (I := I) (J := J) (s0 := s0) (by omega)) (va_cnB (own := RX2) (index := 66) 1 C0.1.2.2.2.2 ggX2_isCandidate_X3_isStream rfl rfl rfl C0.2.2.2.2.2.2.2.1 (C0.1.2.2.2.2 _ (List.mem_of_getElem? (i := 4) rfl)) (by decide +kernel) (by rw [hR]; exact ⟨Nat.le_of_ble_eq_true rfl, Nat.le_of_ble_eq_true rfl⟩)) (C0.1.2.2.2.2 _ (List.mem_of_getElem? (i := 3) rfl)) hM hS rfl rfl rfl hl.1 (Nat.le_of_ble_eq_true rfl) dX2_isCandidate_1 (by rw [hR]; exact ⟨Nat.zero_le _, Nat.zero_le _⟩) (fun H locs hM hS => ?_)
  refine mr_eqB (tgt := 31) C0 dX2_isCandidate_4 (by decide) (fun c1 => absurd c1 (by decide)) (fun _ => ?_)
  refine lv_aload_n hx hb dX2_isCandidate_7 rfl (lv_at hl 0 rfl) ?_
  refine mr_getr (r := q + 3) (TT := TX2) (N := 10) C0 uX2_isCandidate_X2 hM hSt.1.1 hSt.1.2 rfl 3 (by decide) rfl kX2_isCandidate_f24 rfl dX2_isCandidate_8 ?_
  refine lv_iload_n hx hb dX2_isCandidate_11 rfl (lv_at hl 1 rfl) ?_
  refine mr_aald (t := 0) (C := RX0) (r := q + 4 + 5 * s0) C0 hM hSt.2.2.2.1.1 hSt.2.2.2.1.2 rfl (by decide) (by omega) rfl dX2_isCandidate_12 ?_
  have hw2 := hW.1 s0 (by omega)
  have hw2b := hw2.2
  refine mr_geti (v := nI (c s0)) (TT := TX0) (N := 5) C0 uX2_isCandidate_X0 hM (hSt.2.2.2.2.1 _ (by omega)).1.1 (hSt.2.2.2.2.1 _ (by omega)).1.2 rfl 4 (by decide) rfl hw2.1 kX2_isCandidate_f82 rfl dX2_isCandidate_13 ?_
  refine mr_le0N (x := (c s0)) (tgt := 31) C0 dX2_isCandidate_16 (by decide) (by omega) (fun c3 => ?_) (fun c3 => ?_)
  · skip
    refine lv_iconst (v := nI 0) hx hb dX2_isCandidate_31 (by decide) ?_
    refine mr_top (y := bI false) (by decide) ?_
    have eF : false = fX2_isCandidate_t I q c e s0 := by unfold fX2_isCandidate_t; rw [if_pos c3]
    exact mr_zret (b := false) C0 hr hlk hQ hS (by rw [← eF]) hM (Nat.le_refl _) (Nat.le_refl _) dX2_isCandidate_32
  · skip
    refine lv_aload_n hx hb dX2_isCandidate_19 rfl (lv_at hl 0 rfl) ?_
    refine lv_iload_n hx hb dX2_isCandidate_20 rfl (lv_at hl 1 rfl) ?_
    refine mr_callV (As := [.int (nI s0)]) C0 (ctX2_blockersOfFirst_t (I := I) (J := J) (q := q) (s0 := s0) hSt hW (by omega) (by omega)) (cwV 1 C0.1.2.2.2.2 gX2_isCandidate_X2_blockersOfFirst rfl rfl rfl (by decide +kernel) (by rw [hR]; exact ⟨Nat.le_of_ble_eq_true rfl, Nat.le_of_ble_eq_true rfl⟩)) hM hSt.1.1 hSt.1.2 rfl rfl hM hS rfl rfl rfl hl.1 (Nat.le_of_ble_eq_true rfl) dX2_isCandidate_21 (by rw [hR]; exact ⟨Nat.zero_le _, Nat.zero_le _⟩) (fun H locs hM hS => ?_)
    refine lv_if_ne (tgt := 31) hx hb dX2_isCandidate_24 (by decide) (fun c4 => ?_) (fun c4 => ?_)
    · skip
      refine lv_iconst (v := nI 0) hx hb dX2_isCandidate_31 (by decide) ?_
      refine mr_top (y := bI false) (by decide) ?_
      have eF : false = fX2_isCandidate_t I q c e s0 := by unfold fX2_isCandidate_t; rw [if_neg (Nat.ne_of_gt c3), if_neg c4]
      exact mr_zret (b := false) C0 hr hlk hQ hS (by rw [← eF]) hM (Nat.le_refl _) (Nat.le_refl _) dX2_isCandidate_32
    · skip
      refine lv_iconst (v := nI 1) hx hb dX2_isCandidate_27 (by decide) ?_
      refine lv_goto (tgt := 32) hx hb dX2_isCandidate_28 (by decide) ?_
      refine mr_top (y := bI true) (by decide) ?_
      have eF : true = fX2_isCandidate_t I q c e s0 := by unfold fX2_isCandidate_t; rw [if_neg (Nat.ne_of_gt c3), if_pos c4]
      exact mr_zret (b := true) C0 hr hlk hQ hS (by rw [← eF]) hM (Nat.le_refl _) (Nat.le_refl _) dX2_isCandidate_32
def fX2_candidateCount (I : hm_I) (q : Nat) (c : Nat → Nat) (e : Nat → Nat → Nat) : Int32 :=
  (lp 8 (fun i4 x4 => if fX2_isCandidate_t I q c e i4 = true then x4 + 1 else x4) (nI 0))
set_option maxHeartbeats 4000000 in
set_option maxRecDepth 100000 in
theorem ctX2_candidateCount {l : Launch} {D : va_G} {T : Nat → ClassId} {L : List Nat} {A : Nat → Prop} {Sh : hm_S} {I : hm_I} {J : hm_J} {q : Nat} (hSt : IsS L Sh q) {c : Nat → Nat} {e : Nat → Nat → Nat} {ec lc : Nat} (hW : WfS I q c e ec lc) :
    Ct l yX2_candidateCount wsX2_candidateCount { frames := 4, cells := 0, slots := 0, locals := 89 } 0 0 D T A [.ref q] (hm D T L A Sh I J) (some (.int (fX2_candidateCount I q c e))) (hm D T L A Sh I J) := by
  refine Ct.ofW (cc := cX2_candidateCount) (maxL := 3) (ret := (some .int)) (by decide) rfl (Nat.le_of_ble_eq_true rfl) ?_
  intro p_ e_ s_ m_ args_ below_ meth_ c_ ls R Qq hR hQ C0 hr hlk hname hM hl
  have hx := C0.1.1
  have hb := C0.1.2.1
  have hS : va_S A s_.heap s_.heap [] := va_S.rf
  have hl : lv_has ls 3 [(0, .ref q)] := hl
  refine lv_iconst (v := nI 0) hx hb dX2_candidateCount_0 (by decide) ?_
  refine lv_istore_n (lv' := [(1, .int (nI 0)), (0, .ref q)]) hx hb dX2_candidateCount_1 rfl hl (by decide) rfl (fun ls hl => ?_)
  refine lv_iconst (v := nI 0) hx hb dX2_candidateCount_2 (by decide) ?_
  refine lv_istore_n (lv' := [(2, .int (nI 0)), (1, .int (nI 0)), (0, .ref q)]) hx hb dX2_candidateCount_3 rfl hl (by decide) rfl (fun ls hl => ?_)
  refine lp_loop (σ := Int32) (fun i4 x4 => ∀ (H : Heap) (locs : List Loc) (ls : Array Slot), hm D T L A Sh I J H → va_S A s_.heap H locs → lv_has ls 3 [(0, .ref q), (1, .int x4), (2, .int (nI i4))] → W p_ l e_ R s_ m_ args_ below_ meth_ c_ H locs 0 0 Qq (F0 m_ 4 ls [])) 8 (fun i4 x4 => if fX2_isCandidate_t I q c e i4 = true then x4 + 1 else x4) (nI 0) (fun _ _ => True) trivial (fun _ _ _ _ => trivial) (fun i4 x4 hi1 hv2 k3 H locs ls hM hS hl => ?_) (fun hv2 H locs ls hM hS hl => ?_) _ _ _ hM hS (lv_sub hl [2, 1, 0] rfl)
  · have stp4 : ∀ yy_ : Int32, yy_ = (if fX2_isCandidate_t I q c e i4 = true then x4 + 1 else x4) → ∀ (H : Heap) (locs : List Loc) (ls : Array Slot), hm D T L A Sh I J H → va_S A s_.heap H locs → lv_has ls 3 [(0, .ref q), (1, .int yy_), (2, .int (nI (i4 + 1)))] → W p_ l e_ R s_ m_ args_ below_ meth_ c_ H locs 0 0 Qq (F0 m_ 4 ls []) := fun yy_ ey => by rw [ey]; exact k3
    refine lv_iload_n hx hb dX2_candidateCount_4 rfl (lv_at hl 2 rfl) ?_
    refine lv_bipush (v := nI 8) hx hb dX2_candidateCount_5 (by decide) ?_
    refine mr_geN (x := i4) (y := 8) (tgt := 27) C0 dX2_candidateCount_7 (by decide) (by omega) (by omega) (fun c5 => absurd c5 (by omega)) (fun c5 => ?_)
    refine lv_aload_n hx hb dX2_candidateCount_10 rfl (lv_at hl 0 rfl) ?_
    refine lv_iload_n hx hb dX2_candidateCount_11 rfl (lv_at hl 2 rfl) ?_
    refine mr_callV (As := [.int (nI i4)]) C0 (ctX2_isCandidate_t (I := I) (J := J) (q := q) (s0 := i4) hSt hW (by omega)) (cwV 1 C0.1.2.2.2.2 gX2_candidateCount_X2_isCandidate rfl rfl rfl (by decide +kernel) (by rw [hR]; exact ⟨Nat.le_of_ble_eq_true rfl, Nat.le_of_ble_eq_true rfl⟩)) hM hSt.1.1 hSt.1.2 rfl rfl hM hS rfl rfl rfl hl.1 (Nat.le_of_ble_eq_true rfl) dX2_candidateCount_12 (by rw [hR]; exact ⟨Nat.zero_le _, Nat.zero_le _⟩) (fun H locs hM hS => ?_)
    refine mr_eqB (tgt := 21) C0 dX2_candidateCount_15 (by decide) (fun c6 => ?_) (fun c6 => ?_)
    · skip
      refine lv_iinc (v := nI (i4 + 1)) (lv' := [(2, .int (nI (i4 + 1))), (0, .ref q), (1, .int x4)]) hx hb dX2_candidateCount_21 hl (k := 2) rfl (nI_1 _) (by decide) rfl (fun ls hl => ?_)
      refine lv_goto (tgt := 4) hx hb dX2_candidateCount_24 (by decide) ?_
      exact stp4 x4 (by rw [if_neg (Bool.eq_false_iff.mp c6)]) H locs ls hM hS (lv_sub hl [1, 2, 0] rfl)
    · skip
      refine lv_iinc (v := x4 + 1) (lv' := [(1, .int (x4 + 1)), (0, .ref q), (2, .int (nI i4))]) hx hb dX2_candidateCount_18 hl (k := 1) rfl rfl (by decide) rfl (fun ls hl => ?_)
      refine lv_iinc (v := nI (i4 + 1)) (lv' := [(2, .int (nI (i4 + 1))), (1, .int (x4 + 1)), (0, .ref q)]) hx hb dX2_candidateCount_21 hl (k := 2) rfl (nI_1 _) (by decide) rfl (fun ls hl => ?_)
      refine lv_goto (tgt := 4) hx hb dX2_candidateCount_24 (by decide) ?_
      exact stp4 (x4 + 1) (by rw [if_pos c6]) H locs ls hM hS (lv_sub hl [2, 1, 0] rfl)
  · skip
    refine lv_iload_n hx hb dX2_candidateCount_4 rfl (lv_at hl 2 rfl) ?_
    refine lv_bipush (v := nI 8) hx hb dX2_candidateCount_5 (by decide) ?_
    refine mr_geN (x := 8) (y := 8) (tgt := 27) C0 dX2_candidateCount_7 (by decide) (by decide) (by decide) (fun _ => ?_) (fun c7 => absurd c7 (by decide))
    refine lv_iload_n hx hb dX2_candidateCount_27 rfl (lv_at hl 1 rfl) ?_
    have eF : (lp 8 (fun i4 x4 => if fX2_isCandidate_t I q c e i4 = true then x4 + 1 else x4) (nI 0)) = fX2_candidateCount I q c e := rfl
    exact mr_iret (v := (lp 8 (fun i4 x4 => if fX2_isCandidate_t I q c e i4 = true then x4 + 1 else x4) (nI 0))) C0 hr hlk hQ hS (by rw [← eF]) hM (Nat.le_refl _) (Nat.le_refl _) dX2_candidateCount_28
def fX2_isLessServed_t (I : hm_I) (q s0 t0 : Nat) : Bool :=
  if 0 ≤ lg_cmp (((I (q + 2) s0).toInt64) * ((I (q + 1) t0).toInt64)) (((I (q + 2) t0).toInt64) * ((I (q + 1) s0).toInt64)) then false else true
set_option maxHeartbeats 4000000 in
set_option maxRecDepth 100000 in
theorem ctX2_isLessServed_t {l : Launch} {D : va_G} {T : Nat → ClassId} {L : List Nat} {A : Nat → Prop} {Sh : hm_S} {I : hm_I} {J : hm_J} {q : Nat} (hSt : IsS L Sh q) {s0 t0 : Nat} (hs0 : s0 < 8) (ht0 : t0 < 8) :
    Ct l yX2_isLessServed wsX2_isLessServed { frames := 1, cells := 0, slots := 0, locals := 20 } 0 0 D T A [.ref q, .int (nI s0), .int (nI t0)] (hm D T L A Sh I J) (some (.int (bI (fX2_isLessServed_t I q s0 t0)))) (hm D T L A Sh I J) := by
  refine Ct.ofW (cc := cX2_isLessServed) (maxL := 3) (ret := (some .boolean)) (by decide) rfl (Nat.le_of_ble_eq_true rfl) ?_
  intro p_ e_ s_ m_ args_ below_ meth_ c_ ls R Qq hR hQ C0 hr hlk hname hM hl
  have hx := C0.1.1
  have hb := C0.1.2.1
  have hS : va_S A s_.heap s_.heap [] := va_S.rf
  have hl : lv_has ls 3 [(0, .ref q), (1, .int (nI s0)), (2, .int (nI t0))] := hl
  refine lv_iload_n hx hb dX2_isLessServed_0 rfl (lv_at hl 1 rfl) ?_
  refine mr_callSN (As := [.int (nI s0)]) C0 (ctX3_isStream_t (I := I) (J := J) (s0 := s0) (by omega)) (va_cnB (own := RX2) (index := 66) 1 C0.1.2.2.2.2 ggX2_isLessServed_X3_isStream rfl rfl rfl C0.2.2.2.2.2.2.2.1 (C0.1.2.2.2.2 _ (List.mem_of_getElem? (i := 4) rfl)) (by decide +kernel) (by rw [hR]; exact ⟨Nat.le_of_ble_eq_true rfl, Nat.le_of_ble_eq_true rfl⟩)) (C0.1.2.2.2.2 _ (List.mem_of_getElem? (i := 3) rfl)) hM hS rfl rfl rfl hl.1 (Nat.le_of_ble_eq_true rfl) dX2_isLessServed_1 (by rw [hR]; exact ⟨Nat.zero_le _, Nat.zero_le _⟩) (fun H locs hM hS => ?_)
  refine mr_eqB (tgt := 52) C0 dX2_isLessServed_4 (by decide) (fun c1 => absurd c1 (by decide)) (fun _ => ?_)
  refine lv_iload_n hx hb dX2_isLessServed_7 rfl (lv_at hl 2 rfl) ?_
  refine mr_callSN (As := [.int (nI t0)]) C0 (ctX3_isStream_t (I := I) (J := J) (s0 := t0) (by omega)) (va_cnB (own := RX2) (index := 66) 1 C0.1.2.2.2.2 ggX2_isLessServed_X3_isStream rfl rfl rfl C0.2.2.2.2.2.2.2.1 (C0.1.2.2.2.2 _ (List.mem_of_getElem? (i := 4) rfl)) (by decide +kernel) (by rw [hR]; exact ⟨Nat.le_of_ble_eq_true rfl, Nat.le_of_ble_eq_true rfl⟩)) (C0.1.2.2.2.2 _ (List.mem_of_getElem? (i := 3) rfl)) hM hS rfl rfl rfl hl.1 (Nat.le_of_ble_eq_true rfl) dX2_isLessServed_8 (by rw [hR]; exact ⟨Nat.zero_le _, Nat.zero_le _⟩) (fun H locs hM hS => ?_)
  refine mr_eqB (tgt := 52) C0 dX2_isLessServed_11 (by decide) (fun c2 => absurd c2 (by decide)) (fun _ => ?_)
  refine lv_aload_n hx hb dX2_isLessServed_14 rfl (lv_at hl 0 rfl) ?_
  refine mr_getr (r := q + 2) (TT := TX2) (N := 10) C0 uX2_isLessServed_X2 hM hSt.1.1 hSt.1.2 rfl 2 (by decide) rfl kX2_isLessServed_f19 rfl dX2_isLessServed_15 ?_
  refine lv_iload_n hx hb dX2_isLessServed_18 rfl (lv_at hl 1 rfl) ?_
  refine mr_ialdN (v := I (q + 2) s0) C0 hM hSt.2.2.1.1 hSt.2.2.1.2 (by decide) (by omega) rfl dX2_isLessServed_19 ?_
  refine lv_i2l hx hb dX2_isLessServed_20 rfl ?_
  refine lv_aload_n hx hb dX2_isLessServed_21 rfl (lv_at hl 0 rfl) ?_
  refine mr_getr (r := q + 1) (TT := TX2) (N := 10) C0 uX2_isLessServed_X2 hM hSt.1.1 hSt.1.2 rfl 1 (by decide) rfl kX2_isLessServed_f15 rfl dX2_isLessServed_22 ?_
  refine lv_iload_n hx hb dX2_isLessServed_25 rfl (lv_at hl 2 rfl) ?_
  refine mr_ialdN (v := I (q + 1) t0) C0 hM hSt.2.1.1 hSt.2.1.2 (by decide) (by omega) rfl dX2_isLessServed_26 ?_
  refine lv_i2l hx hb dX2_isLessServed_27 rfl ?_
  refine lv_lmul hx hb dX2_isLessServed_28 ?_
  refine lv_aload_n hx hb dX2_isLessServed_29 rfl (lv_at hl 0 rfl) ?_
  refine mr_getr (r := q + 2) (TT := TX2) (N := 10) C0 uX2_isLessServed_X2 hM hSt.1.1 hSt.1.2 rfl 2 (by decide) rfl kX2_isLessServed_f19 rfl dX2_isLessServed_30 ?_
  refine lv_iload_n hx hb dX2_isLessServed_33 rfl (lv_at hl 2 rfl) ?_
  refine mr_ialdN (v := I (q + 2) t0) C0 hM hSt.2.2.1.1 hSt.2.2.1.2 (by decide) (by omega) rfl dX2_isLessServed_34 ?_
  refine lv_i2l hx hb dX2_isLessServed_35 rfl ?_
  refine lv_aload_n hx hb dX2_isLessServed_36 rfl (lv_at hl 0 rfl) ?_
  refine mr_getr (r := q + 1) (TT := TX2) (N := 10) C0 uX2_isLessServed_X2 hM hSt.1.1 hSt.1.2 rfl 1 (by decide) rfl kX2_isLessServed_f15 rfl dX2_isLessServed_37 ?_
  refine lv_iload_n hx hb dX2_isLessServed_40 rfl (lv_at hl 1 rfl) ?_
  refine mr_ialdN (v := I (q + 1) s0) C0 hM hSt.2.1.1 hSt.2.1.2 (by decide) (by omega) rfl dX2_isLessServed_41 ?_
  refine lv_i2l hx hb dX2_isLessServed_42 rfl ?_
  refine lv_lmul hx hb dX2_isLessServed_43 ?_
  refine W.lcmp hx hb dX2_isLessServed_44 ?_
  refine lv_if_ge (tgt := 52) hx hb dX2_isLessServed_45 (by decide) (fun c3 => ?_) (fun c3 => ?_)
  · skip
    refine lv_iconst (v := nI 0) hx hb dX2_isLessServed_52 (by decide) ?_
    refine mr_top (y := bI false) (by decide) ?_
    have eF : false = fX2_isLessServed_t I q s0 t0 := by unfold fX2_isLessServed_t; rw [if_pos c3]
    exact mr_zret (b := false) C0 hr hlk hQ hS (by rw [← eF]) hM (Nat.le_refl _) (Nat.le_refl _) dX2_isLessServed_53
  · skip
    refine lv_iconst (v := nI 1) hx hb dX2_isLessServed_48 (by decide) ?_
    refine lv_goto (tgt := 53) hx hb dX2_isLessServed_49 (by decide) ?_
    refine mr_top (y := bI true) (by decide) ?_
    have eF : true = fX2_isLessServed_t I q s0 t0 := by unfold fX2_isLessServed_t; rw [if_neg c3]
    exact mr_zret (b := true) C0 hr hlk hQ hS (by rw [← eF]) hM (Nat.le_refl _) (Nat.le_refl _) dX2_isLessServed_53
set_option maxHeartbeats 4000000 in
set_option maxRecDepth 100000 in
theorem ctX2_isLessServed_f {l : Launch} {D : va_G} {T : Nat → ClassId} {L : List Nat} {A : Nat → Prop} {Sh : hm_S} {I : hm_I} {J : hm_J} {q : Nat} (hSt : IsS L Sh q) {s0 : Nat} {t0 : Int32} (hs0 : s0 < 8) (ht0 : fX3_isStream t0 = false) :
    Ct l yX2_isLessServed wsX2_isLessServed { frames := 1, cells := 0, slots := 0, locals := 20 } 0 0 D T A [.ref q, .int (nI s0), .int t0] (hm D T L A Sh I J) (some (.int (bI false))) (hm D T L A Sh I J) := by
  refine Ct.ofW (cc := cX2_isLessServed) (maxL := 3) (ret := (some .boolean)) (by decide) rfl (Nat.le_of_ble_eq_true rfl) ?_
  intro p_ e_ s_ m_ args_ below_ meth_ c_ ls R Qq hR hQ C0 hr hlk hname hM hl
  have hx := C0.1.1
  have hb := C0.1.2.1
  have hS : va_S A s_.heap s_.heap [] := va_S.rf
  have hl : lv_has ls 3 [(0, .ref q), (1, .int (nI s0)), (2, .int t0)] := hl
  refine lv_iload_n hx hb dX2_isLessServed_0 rfl (lv_at hl 1 rfl) ?_
  refine mr_callSN (As := [.int (nI s0)]) C0 (ctX3_isStream_t (I := I) (J := J) (s0 := s0) (by omega)) (va_cnB (own := RX2) (index := 66) 1 C0.1.2.2.2.2 ggX2_isLessServed_X3_isStream rfl rfl rfl C0.2.2.2.2.2.2.2.1 (C0.1.2.2.2.2 _ (List.mem_of_getElem? (i := 4) rfl)) (by decide +kernel) (by rw [hR]; exact ⟨Nat.le_of_ble_eq_true rfl, Nat.le_of_ble_eq_true rfl⟩)) (C0.1.2.2.2.2 _ (List.mem_of_getElem? (i := 3) rfl)) hM hS rfl rfl rfl hl.1 (Nat.le_of_ble_eq_true rfl) dX2_isLessServed_1 (by rw [hR]; exact ⟨Nat.zero_le _, Nat.zero_le _⟩) (fun H locs hM hS => ?_)
  refine mr_eqB (tgt := 52) C0 dX2_isLessServed_4 (by decide) (fun c1 => absurd c1 (by decide)) (fun _ => ?_)
  refine lv_iload_n hx hb dX2_isLessServed_7 rfl (lv_at hl 2 rfl) ?_
  refine mr_callSN (As := [.int t0]) C0 (ctX3_isStream (I := I) (J := J) (s0 := t0) ) (va_cnB (own := RX2) (index := 66) 1 C0.1.2.2.2.2 ggX2_isLessServed_X3_isStream rfl rfl rfl C0.2.2.2.2.2.2.2.1 (C0.1.2.2.2.2 _ (List.mem_of_getElem? (i := 4) rfl)) (by decide +kernel) (by rw [hR]; exact ⟨Nat.le_of_ble_eq_true rfl, Nat.le_of_ble_eq_true rfl⟩)) (C0.1.2.2.2.2 _ (List.mem_of_getElem? (i := 3) rfl)) hM hS rfl rfl rfl hl.1 (Nat.le_of_ble_eq_true rfl) dX2_isLessServed_8 (by rw [hR]; exact ⟨Nat.zero_le _, Nat.zero_le _⟩) (fun H locs hM hS => ?_)
  refine mr_eqB (tgt := 52) C0 dX2_isLessServed_11 (by decide) (fun c2 => ?_) (fun c2 => absurd c2 (by rw [ht0]; decide))
  refine lv_iconst (v := nI 0) hx hb dX2_isLessServed_52 (by decide) ?_
  refine mr_top (y := bI false) (by decide) ?_
  skip
  exact mr_zret (b := false) C0 hr hlk hQ hS rfl hM (Nat.le_refl _) (Nat.le_refl _) dX2_isLessServed_53
def fX2_isLessServed_z (I : hm_I) (q s0 : Nat) (t0 : Int32) : Bool := if fX3_isStream t0 = true then fX2_isLessServed_t I q s0 t0.toNatClampNeg else false
theorem ctX2_isLessServed_z {l : Launch} {D : va_G} {T : Nat → ClassId} {L : List Nat} {A : Nat → Prop} {Sh : hm_S} {I : hm_I} {J : hm_J} {q : Nat} (hSt : IsS L Sh q) {s0 : Nat} {t0 : Int32} (hs0 : s0 < 8) :
    Ct l yX2_isLessServed wsX2_isLessServed { frames := 1, cells := 0, slots := 0, locals := 20 } 0 0 D T A [.ref q, .int (nI s0), .int t0] (hm D T L A Sh I J) (some (.int (bI (fX2_isLessServed_z I q s0 t0)))) (hm D T L A Sh I J) := by
  by_cases h : fX3_isStream t0 = true
  · obtain ⟨k, hk, rfl⟩ := isStream_nat h
    unfold fX2_isLessServed_z
    rw [if_pos h, nI_clamp (by omega)]
    exact ctX2_isLessServed_t hSt hs0 hk
  · unfold fX2_isLessServed_z
    rw [if_neg h]
    exact ctX2_isLessServed_f hSt hs0 (Bool.eq_false_iff.mpr h)
def fX2_nextStream (I : hm_I) (q : Nat) (c : Nat → Nat) (e : Nat → Nat → Nat) : Int32 :=
  (lp 8 (fun i5 x5 => if fX2_isCandidate_t I q c e i5 = true then if x5 = (-9) then nI i5 else if fX2_isLessServed_z I q i5 x5 = true then nI i5 else x5 else x5) (-9))
set_option maxHeartbeats 4000000 in
set_option maxRecDepth 100000 in
theorem ctX2_nextStream {l : Launch} {D : va_G} {T : Nat → ClassId} {L : List Nat} {A : Nat → Prop} {Sh : hm_S} {I : hm_I} {J : hm_J} {q : Nat} (hSt : IsS L Sh q) {c : Nat → Nat} {e : Nat → Nat → Nat} {ec lc : Nat} (hW : WfS I q c e ec lc) :
    Ct l yX2_nextStream wsX2_nextStream { frames := 4, cells := 0, slots := 0, locals := 89 } 0 0 D T A [.ref q] (hm D T L A Sh I J) (some (.int (fX2_nextStream I q c e))) (hm D T L A Sh I J) := by
  refine Ct.ofW (cc := cX2_nextStream) (maxL := 3) (ret := (some .int)) (by decide) rfl (Nat.le_of_ble_eq_true rfl) ?_
  intro p_ e_ s_ m_ args_ below_ meth_ c_ ls R Qq hR hQ C0 hr hlk hname hM hl
  have hx := C0.1.1
  have hb := C0.1.2.1
  have hS : va_S A s_.heap s_.heap [] := va_S.rf
  have hl : lv_has ls 3 [(0, .ref q)] := hl
  refine lv_bipush (v := (-9)) hx hb dX2_nextStream_0 (by decide) ?_
  refine lv_istore_n (lv' := [(1, .int (-9)), (0, .ref q)]) hx hb dX2_nextStream_2 rfl hl (by decide) rfl (fun ls hl => ?_)
  refine lv_iconst (v := nI 0) hx hb dX2_nextStream_3 (by decide) ?_
  refine lv_istore_n (lv' := [(2, .int (nI 0)), (1, .int (-9)), (0, .ref q)]) hx hb dX2_nextStream_4 rfl hl (by decide) rfl (fun ls hl => ?_)
  refine lp_loop (σ := Int32) (fun i5 x5 => ∀ (H : Heap) (locs : List Loc) (ls : Array Slot), hm D T L A Sh I J H → va_S A s_.heap H locs → lv_has ls 3 [(0, .ref q), (1, .int x5), (2, .int (nI i5))] → W p_ l e_ R s_ m_ args_ below_ meth_ c_ H locs 0 0 Qq (F0 m_ 5 ls [])) 8 (fun i5 x5 => if fX2_isCandidate_t I q c e i5 = true then if x5 = (-9) then nI i5 else if fX2_isLessServed_z I q i5 x5 = true then nI i5 else x5 else x5) (-9) (fun _ _ => True) trivial (fun _ _ _ _ => trivial) (fun i5 x5 hi1 hv2 k3 H locs ls hM hS hl => ?_) (fun hv2 H locs ls hM hS hl => ?_) _ _ _ hM hS (lv_sub hl [2, 1, 0] rfl)
  · have stp4 : ∀ yy_ : Int32, yy_ = (if fX2_isCandidate_t I q c e i5 = true then if x5 = (-9) then nI i5 else if fX2_isLessServed_z I q i5 x5 = true then nI i5 else x5 else x5) → ∀ (H : Heap) (locs : List Loc) (ls : Array Slot), hm D T L A Sh I J H → va_S A s_.heap H locs → lv_has ls 3 [(0, .ref q), (1, .int yy_), (2, .int (nI (i5 + 1)))] → W p_ l e_ R s_ m_ args_ below_ meth_ c_ H locs 0 0 Qq (F0 m_ 5 ls []) := fun yy_ ey => by rw [ey]; exact k3
    refine lv_iload_n hx hb dX2_nextStream_5 rfl (lv_at hl 2 rfl) ?_
    refine lv_bipush (v := nI 8) hx hb dX2_nextStream_6 (by decide) ?_
    refine mr_geN (x := i5) (y := 8) (tgt := 42) C0 dX2_nextStream_8 (by decide) (by omega) (by omega) (fun c5 => absurd c5 (by omega)) (fun c5 => ?_)
    refine lv_aload_n hx hb dX2_nextStream_11 rfl (lv_at hl 0 rfl) ?_
    refine lv_iload_n hx hb dX2_nextStream_12 rfl (lv_at hl 2 rfl) ?_
    refine mr_callV (As := [.int (nI i5)]) C0 (ctX2_isCandidate_t (I := I) (J := J) (q := q) (s0 := i5) hSt hW (by omega)) (cwV 1 C0.1.2.2.2.2 gX2_nextStream_X2_isCandidate rfl rfl rfl (by decide +kernel) (by rw [hR]; exact ⟨Nat.le_of_ble_eq_true rfl, Nat.le_of_ble_eq_true rfl⟩)) hM hSt.1.1 hSt.1.2 rfl rfl hM hS rfl rfl rfl hl.1 (Nat.le_of_ble_eq_true rfl) dX2_nextStream_13 (by rw [hR]; exact ⟨Nat.zero_le _, Nat.zero_le _⟩) (fun H locs hM hS => ?_)
    refine mr_eqB (tgt := 36) C0 dX2_nextStream_16 (by decide) (fun c6 => ?_) (fun c6 => ?_)
    · skip
      refine lv_iinc (v := nI (i5 + 1)) (lv' := [(2, .int (nI (i5 + 1))), (0, .ref q), (1, .int x5)]) hx hb dX2_nextStream_36 hl (k := 2) rfl (nI_1 _) (by decide) rfl (fun ls hl => ?_)
      refine lv_goto (tgt := 5) hx hb dX2_nextStream_39 (by decide) ?_
      exact stp4 x5 (by rw [if_neg (Bool.eq_false_iff.mp c6)]) H locs ls hM hS (lv_sub hl [1, 2, 0] rfl)
    · skip
      refine lv_iload_n hx hb dX2_nextStream_19 rfl (lv_at hl 1 rfl) ?_
      refine lv_bipush (v := (-9)) hx hb dX2_nextStream_20 (by decide) ?_
      refine lv_icmp_eq (tgt := 34) hx hb dX2_nextStream_22 (by decide) (fun c7 => ?_) (fun c7 => ?_)
      · skip
        refine lv_iload_n hx hb dX2_nextStream_34 rfl (lv_at hl 2 rfl) ?_
        refine lv_istore_n (lv' := [(1, .int (nI i5)), (0, .ref q), (2, .int (nI i5))]) hx hb dX2_nextStream_35 rfl hl (by decide) rfl (fun ls hl => ?_)
        refine lv_iinc (v := nI (i5 + 1)) (lv' := [(2, .int (nI (i5 + 1))), (1, .int (nI i5)), (0, .ref q)]) hx hb dX2_nextStream_36 hl (k := 2) rfl (nI_1 _) (by decide) rfl (fun ls hl => ?_)
        refine lv_goto (tgt := 5) hx hb dX2_nextStream_39 (by decide) ?_
        exact stp4 (nI i5) (by rw [if_pos c6, if_pos c7]) H locs ls hM hS (lv_sub hl [2, 1, 0] rfl)
      · skip
        refine lv_aload_n hx hb dX2_nextStream_25 rfl (lv_at hl 0 rfl) ?_
        refine lv_iload_n hx hb dX2_nextStream_26 rfl (lv_at hl 2 rfl) ?_
        refine lv_iload_n hx hb dX2_nextStream_27 rfl (lv_at hl 1 rfl) ?_
        refine mr_callV (As := [.int (nI i5), .int x5]) C0 (ctX2_isLessServed_z (I := I) (J := J) (q := q) (s0 := i5) (t0 := x5) hSt (by omega)) (cwV 2 C0.1.2.2.2.2 gX2_nextStream_X2_isLessServed rfl rfl rfl (by decide +kernel) (by rw [hR]; exact ⟨Nat.le_of_ble_eq_true rfl, Nat.le_of_ble_eq_true rfl⟩)) hM hSt.1.1 hSt.1.2 rfl rfl hM hS rfl rfl rfl hl.1 (Nat.le_of_ble_eq_true rfl) dX2_nextStream_28 (by rw [hR]; exact ⟨Nat.zero_le _, Nat.zero_le _⟩) (fun H locs hM hS => ?_)
        refine mr_eqB (tgt := 36) C0 dX2_nextStream_31 (by decide) (fun c8 => ?_) (fun c8 => ?_)
        · skip
          refine lv_iinc (v := nI (i5 + 1)) (lv' := [(2, .int (nI (i5 + 1))), (0, .ref q), (1, .int x5)]) hx hb dX2_nextStream_36 hl (k := 2) rfl (nI_1 _) (by decide) rfl (fun ls hl => ?_)
          refine lv_goto (tgt := 5) hx hb dX2_nextStream_39 (by decide) ?_
          exact stp4 x5 (by rw [if_pos c6, if_neg c7, if_neg (Bool.eq_false_iff.mp c8)]) H locs ls hM hS (lv_sub hl [1, 2, 0] rfl)
        · skip
          refine lv_iload_n hx hb dX2_nextStream_34 rfl (lv_at hl 2 rfl) ?_
          refine lv_istore_n (lv' := [(1, .int (nI i5)), (0, .ref q), (2, .int (nI i5))]) hx hb dX2_nextStream_35 rfl hl (by decide) rfl (fun ls hl => ?_)
          refine lv_iinc (v := nI (i5 + 1)) (lv' := [(2, .int (nI (i5 + 1))), (1, .int (nI i5)), (0, .ref q)]) hx hb dX2_nextStream_36 hl (k := 2) rfl (nI_1 _) (by decide) rfl (fun ls hl => ?_)
          refine lv_goto (tgt := 5) hx hb dX2_nextStream_39 (by decide) ?_
          exact stp4 (nI i5) (by rw [if_pos c6, if_neg c7, if_pos c8]) H locs ls hM hS (lv_sub hl [2, 1, 0] rfl)
  · skip
    refine lv_iload_n hx hb dX2_nextStream_5 rfl (lv_at hl 2 rfl) ?_
    refine lv_bipush (v := nI 8) hx hb dX2_nextStream_6 (by decide) ?_
    refine mr_geN (x := 8) (y := 8) (tgt := 42) C0 dX2_nextStream_8 (by decide) (by decide) (by decide) (fun _ => ?_) (fun c9 => absurd c9 (by decide))
    refine lv_iload_n hx hb dX2_nextStream_42 rfl (lv_at hl 1 rfl) ?_
    have eF : (lp 8 (fun i5 x5 => if fX2_isCandidate_t I q c e i5 = true then if x5 = (-9) then nI i5 else if fX2_isLessServed_z I q i5 x5 = true then nI i5 else x5 else x5) (-9)) = fX2_nextStream I q c e := rfl
    exact mr_iret (v := (lp 8 (fun i5 x5 => if fX2_isCandidate_t I q c e i5 = true then if x5 = (-9) then nI i5 else if fX2_isLessServed_z I q i5 x5 = true then nI i5 else x5 else x5) (-9))) C0 hr hlk hQ hS (by rw [← eF]) hM (Nat.le_refl _) (Nat.le_refl _) dX2_nextStream_43
def fX2_sendFirst_t (I : hm_I) (q : Nat) (c : Nat → Nat) (lc s0 : Nat) : hm_I :=
  if fX0_isFull 40 lc = true then hm_put (hm_put (fX0_removeFirst_t (fX0_add_t (fX0_removeFirst_t I (q + 78) lc) (q + 78) (lc - 1) ((fX0_removeFirst_t I (q + 78) lc) ((q + 4 + 5 * s0) + 1) 0) (nI s0) (I ((q + 4 + 5 * s0) + 3) 0) ((fX0_removeFirst_t I (q + 78) lc) ((q + 4 + 5 * s0) + 4) 0)) (q + 4 + 5 * s0) (c s0)) (q + 2) s0 (((fX0_removeFirst_t (fX0_add_t (fX0_removeFirst_t I (q + 78) lc) (q + 78) (lc - 1) ((fX0_removeFirst_t I (q + 78) lc) ((q + 4 + 5 * s0) + 1) 0) (nI s0) (I ((q + 4 + 5 * s0) + 3) 0) ((fX0_removeFirst_t I (q + 78) lc) ((q + 4 + 5 * s0) + 4) 0)) (q + 4 + 5 * s0) (c s0)) (q + 2) s0) + (I ((q + 4 + 5 * s0) + 3) 0))) q 8 (((fX0_removeFirst_t (fX0_add_t (fX0_removeFirst_t I (q + 78) lc) (q + 78) (lc - 1) ((fX0_removeFirst_t I (q + 78) lc) ((q + 4 + 5 * s0) + 1) 0) (nI s0) (I ((q + 4 + 5 * s0) + 3) 0) ((fX0_removeFirst_t I (q + 78) lc) ((q + 4 + 5 * s0) + 4) 0)) (q + 4 + 5 * s0) (c s0)) q 8) + (nI 1)) else hm_put (hm_put (fX0_removeFirst_t (fX0_add_t I (q + 78) lc (I ((q + 4 + 5 * s0) + 1) 0) (nI s0) (I ((q + 4 + 5 * s0) + 3) 0) (I ((q + 4 + 5 * s0) + 4) 0)) (q + 4 + 5 * s0) (c s0)) (q + 2) s0 (((fX0_removeFirst_t (fX0_add_t I (q + 78) lc (I ((q + 4 + 5 * s0) + 1) 0) (nI s0) (I ((q + 4 + 5 * s0) + 3) 0) (I ((q + 4 + 5 * s0) + 4) 0)) (q + 4 + 5 * s0) (c s0)) (q + 2) s0) + (I ((q + 4 + 5 * s0) + 3) 0))) q 8 (((fX0_removeFirst_t (fX0_add_t I (q + 78) lc (I ((q + 4 + 5 * s0) + 1) 0) (nI s0) (I ((q + 4 + 5 * s0) + 3) 0) (I ((q + 4 + 5 * s0) + 4) 0)) (q + 4 + 5 * s0) (c s0)) q 8) + (nI 1))
set_option maxHeartbeats 4000000 in
set_option maxRecDepth 100000 in
theorem ctX2_sendFirst_t {l : Launch} {D : va_G} {T : Nat → ClassId} {L : List Nat} {A : Nat → Prop} {Sh : hm_S} {I : hm_I} {J : hm_J} {q : Nat} (hSt : IsS L Sh q) {c : Nat → Nat} {e : Nat → Nat → Nat} {ec lc : Nat} (hW : WfS I q c e ec lc) {s0 : Nat} (hs0 : s0 < 8) (hc0 : 0 < c s0) :
    Ct l yX2_sendFirst wsX2_sendFirst { frames := 2, cells := 0, slots := 0, locals := 44 } 0 0 D T A [.ref q, .int (nI s0)] (hm D T L A Sh I J) none (hm D T L A Sh (fX2_sendFirst_t I q c lc s0) J) := by
  refine Ct.ofW (cc := cX2_sendFirst) (maxL := 4) (ret := none) (by decide) rfl (Nat.le_of_ble_eq_true rfl) ?_
  intro p_ e_ s_ m_ args_ below_ meth_ c_ ls R Qq hR hQ C0 hr hlk hname hM hl
  have hx := C0.1.1
  have hb := C0.1.2.1
  have hS : va_S A s_.heap s_.heap [] := va_S.rf
  have hl : lv_has ls 4 [(0, .ref q), (1, .int (nI s0))] := hl
  refine lv_iload_n hx hb dX2_sendFirst_0 rfl (lv_at hl 1 rfl) ?_
  refine mr_callSN (As := [.int (nI s0)]) C0 (ctX3_isStream_t (I := I) (J := J) (s0 := s0) (by omega)) (va_cnB (own := RX2) (index := 66) 1 C0.1.2.2.2.2 ggX2_sendFirst_X3_isStream rfl rfl rfl C0.2.2.2.2.2.2.2.1 (C0.1.2.2.2.2 _ (List.mem_of_getElem? (i := 7) rfl)) (by decide +kernel) (by rw [hR]; exact ⟨Nat.le_of_ble_eq_true rfl, Nat.le_of_ble_eq_true rfl⟩)) (C0.1.2.2.2.2 _ (List.mem_of_getElem? (i := 6) rfl)) hM hS rfl rfl rfl hl.1 (Nat.le_of_ble_eq_true rfl) dX2_sendFirst_1 (by rw [hR]; exact ⟨Nat.zero_le _, Nat.zero_le _⟩) (fun H locs hM hS => ?_)
  refine mr_eqB (tgt := 19) C0 dX2_sendFirst_4 (by decide) (fun c1 => absurd c1 (by decide)) (fun _ => ?_)
  refine lv_aload_n hx hb dX2_sendFirst_7 rfl (lv_at hl 0 rfl) ?_
  refine mr_getr (r := q + 3) (TT := TX2) (N := 10) C0 uX2_sendFirst_X2 hM hSt.1.1 hSt.1.2 rfl 3 (by decide) rfl kX2_sendFirst_f24 rfl dX2_sendFirst_8 ?_
  refine lv_iload_n hx hb dX2_sendFirst_11 rfl (lv_at hl 1 rfl) ?_
  refine mr_aald (t := 0) (C := RX0) (r := q + 4 + 5 * s0) C0 hM hSt.2.2.2.1.1 hSt.2.2.2.1.2 rfl (by decide) (by omega) rfl dX2_sendFirst_12 ?_
  have hw2 := hW.1 s0 (by omega)
  have hw2b := hw2.2
  refine mr_geti (v := nI (c s0)) (TT := TX0) (N := 5) C0 uX2_sendFirst_X0 hM (hSt.2.2.2.2.1 _ (by omega)).1.1 (hSt.2.2.2.2.1 _ (by omega)).1.2 rfl 4 (by decide) rfl hw2.1 kX2_sendFirst_f82 rfl dX2_sendFirst_13 ?_
  refine mr_ne0N (x := (c s0)) (tgt := 20) C0 dX2_sendFirst_16 (by decide) (by omega) (fun c3 => ?_) (fun c3 => absurd c3 (by omega))
  refine lv_aload_n hx hb dX2_sendFirst_20 rfl (lv_at hl 0 rfl) ?_
  refine mr_getr (r := q + 3) (TT := TX2) (N := 10) C0 uX2_sendFirst_X2 hM hSt.1.1 hSt.1.2 rfl 3 (by decide) rfl kX2_sendFirst_f24 rfl dX2_sendFirst_21 ?_
  refine lv_iload_n hx hb dX2_sendFirst_24 rfl (lv_at hl 1 rfl) ?_
  refine mr_aald (t := 0) (C := RX0) (r := q + 4 + 5 * s0) C0 hM hSt.2.2.2.1.1 hSt.2.2.2.1.2 rfl (by decide) (by omega) rfl dX2_sendFirst_25 ?_
  refine lv_astore_n (lv' := [(2, .ref (q + 4 + 5 * s0)), (0, .ref q), (1, .int (nI s0))]) hx hb dX2_sendFirst_26 rfl hl (by decide) rfl (fun ls hl => ?_)
  refine lv_aload_n hx hb dX2_sendFirst_27 rfl (lv_at hl 0 rfl) ?_
  refine lv_iconst (v := nI 0) hx hb dX2_sendFirst_28 (by decide) ?_
  refine mr_callV (As := [.int (nI 0)]) C0 (ctX0_sizeAt_t (I := I) (J := J) (a := (q + 4 + 5 * s0)) (k := 0) (hSt.2.2.2.2.1 _ (by omega)) hw2.1 (by omega) (by omega) (by omega)) (cwV 1 C0.1.2.2.2.2 gX2_sendFirst_X0_sizeAt rfl rfl rfl (by decide +kernel) (by rw [hR]; exact ⟨Nat.le_of_ble_eq_true rfl, Nat.le_of_ble_eq_true rfl⟩)) hM (hSt.2.2.2.2.1 _ (by omega)).1.1 (hSt.2.2.2.2.1 _ (by omega)).1.2 rfl rfl hM hS rfl rfl rfl hl.1 (Nat.le_of_ble_eq_true rfl) dX2_sendFirst_29 (by rw [hR]; exact ⟨Nat.zero_le _, Nat.zero_le _⟩) (fun H locs hM hS => ?_)
  refine lv_istore_n (lv' := [(3, .int (I ((q + 4 + 5 * s0) + 3) 0)), (2, .ref (q + 4 + 5 * s0)), (0, .ref q), (1, .int (nI s0))]) hx hb dX2_sendFirst_32 rfl hl (by decide) rfl (fun ls hl => ?_)
  refine lv_aload_n hx hb dX2_sendFirst_33 rfl (lv_at hl 2 rfl) ?_
  refine mr_getr (r := q + 78) (TT := TX2) (N := 10) C0 uX2_sendFirst_X2 hM hSt.1.1 hSt.1.2 rfl 9 (by decide) rfl kX2_sendFirst_f51 rfl dX2_sendFirst_34 ?_
  have hw4 := hW.2.2.2.2.2.2
  refine mr_callV (As := []) C0 (ctX0_isFull (I := I) (J := J) (a := (q + 78)) hSt.2.2.2.2.2.2.2.2 hW.2.2.2.2.2.1 (by omega) (by omega)) (cwV 0 C0.1.2.2.2.2 gX2_sendFirst_X0_isFull rfl rfl rfl (by decide +kernel) (by rw [hR]; exact ⟨Nat.le_of_ble_eq_true rfl, Nat.le_of_ble_eq_true rfl⟩)) hM hSt.2.2.2.2.2.2.2.2.1.1 hSt.2.2.2.2.2.2.2.2.1.2 rfl rfl hM hS rfl rfl rfl hl.1 (Nat.le_of_ble_eq_true rfl) dX2_sendFirst_37 (by rw [hR]; exact ⟨Nat.zero_le _, Nat.zero_le _⟩) (fun H locs hM hS => ?_)
  refine mr_eqB (tgt := 50) C0 dX2_sendFirst_40 (by decide) (fun c5 => ?_) (fun c5 => ?_)
  · skip
    have hfu := isFull_f c5
    refine lv_aload_n hx hb dX2_sendFirst_50 rfl (lv_at hl 2 rfl) ?_
    refine mr_getr (r := q + 78) (TT := TX2) (N := 10) C0 uX2_sendFirst_X2 hM hSt.1.1 hSt.1.2 rfl 9 (by decide) rfl kX2_sendFirst_f51 rfl dX2_sendFirst_51 ?_
    refine lv_aload_n hx hb dX2_sendFirst_54 rfl (lv_at hl 1 rfl) ?_
    refine lv_iconst (v := nI 0) hx hb dX2_sendFirst_55 (by decide) ?_
    refine mr_callV (As := [.int (nI 0)]) C0 (ctX0_numberAt_t (I := I) (J := J) (a := (q + 4 + 5 * s0)) (k := 0) (hSt.2.2.2.2.1 _ (by omega)) hw2.1 (by omega) (by omega) (by omega)) (cwV 1 C0.1.2.2.2.2 gX2_sendFirst_X0_numberAt rfl rfl rfl (by decide +kernel) (by rw [hR]; exact ⟨Nat.le_of_ble_eq_true rfl, Nat.le_of_ble_eq_true rfl⟩)) hM (hSt.2.2.2.2.1 _ (by omega)).1.1 (hSt.2.2.2.2.1 _ (by omega)).1.2 rfl rfl hM hS rfl rfl rfl hl.1 (Nat.le_of_ble_eq_true rfl) dX2_sendFirst_56 (by rw [hR]; exact ⟨Nat.zero_le _, Nat.zero_le _⟩) (fun H locs hM hS => ?_)
    refine lv_iload_n hx hb dX2_sendFirst_59 rfl (lv_at hl 3 rfl) ?_
    refine lv_iload_n hx hb dX2_sendFirst_60 rfl (lv_at hl 0 rfl) ?_
    refine lv_aload_n hx hb dX2_sendFirst_61 rfl (lv_at hl 1 rfl) ?_
    refine lv_iconst (v := nI 0) hx hb dX2_sendFirst_62 (by decide) ?_
    refine mr_callV (As := [.int (nI 0)]) C0 (ctX0_epochAt_t (I := I) (J := J) (a := (q + 4 + 5 * s0)) (k := 0) (hSt.2.2.2.2.1 _ (by omega)) hw2.1 (by omega) (by omega) (by omega)) (cwV 1 C0.1.2.2.2.2 gX2_sendFirst_X0_epochAt rfl rfl rfl (by decide +kernel) (by rw [hR]; exact ⟨Nat.le_of_ble_eq_true rfl, Nat.le_of_ble_eq_true rfl⟩)) hM (hSt.2.2.2.2.1 _ (by omega)).1.1 (hSt.2.2.2.2.1 _ (by omega)).1.2 rfl rfl hM hS rfl rfl rfl hl.1 (Nat.le_of_ble_eq_true rfl) dX2_sendFirst_63 (by rw [hR]; exact ⟨Nat.zero_le _, Nat.zero_le _⟩) (fun H locs hM hS => ?_)
    refine mr_callV (As := [.int (I ((q + 4 + 5 * s0) + 1) 0), .int (nI s0), .int (I ((q + 4 + 5 * s0) + 3) 0), .int (I ((q + 4 + 5 * s0) + 4) 0)]) C0 (ctX0_add_t (I := I) (J := J) (a := (q + 78)) (v := (I ((q + 4 + 5 * s0) + 1) 0)) (s0 := (nI s0)) (z := (I ((q + 4 + 5 * s0) + 3) 0)) (e0 := (I ((q + 4 + 5 * s0) + 4) 0)) hSt.2.2.2.2.2.2.2.2 hW.2.2.2.2.2.1 (by omega) (by omega) (by omega)) (cwV 4 C0.1.2.2.2.2 gX2_sendFirst_X0_add rfl rfl rfl (by decide +kernel) (by rw [hR]; exact ⟨Nat.le_of_ble_eq_true rfl, Nat.le_of_ble_eq_true rfl⟩)) hM hSt.2.2.2.2.2.2.2.2.1.1 hSt.2.2.2.2.2.2.2.2.1.2 rfl rfl hM hS rfl rfl rfl hl.1 (Nat.le_of_ble_eq_true rfl) dX2_sendFirst_66 (by rw [hR]; exact ⟨Nat.zero_le _, Nat.zero_le _⟩) (fun H locs hM hS => ?_)
    refine lv_aload_n hx hb dX2_sendFirst_69 rfl (lv_at hl 1 rfl) ?_
    refine mr_callV (As := []) C0 (ctX0_removeFirst_t (I := (fX0_add_t I (q + 78) lc (I ((q + 4 + 5 * s0) + 1) 0) (nI s0) (I ((q + 4 + 5 * s0) + 3) 0) (I ((q + 4 + 5 * s0) + 4) 0))) (J := J) (a := (q + 4 + 5 * s0)) (hSt.2.2.2.2.1 _ (by omega)) ((congrFun (fX0_add_ne (by omega)) _).trans hw2.1) (by omega) (by omega) (by omega)) (cwV 0 C0.1.2.2.2.2 gX2_sendFirst_X0_removeFirst rfl rfl rfl (by decide +kernel) (by rw [hR]; exact ⟨Nat.le_of_ble_eq_true rfl, Nat.le_of_ble_eq_true rfl⟩)) hM (hSt.2.2.2.2.1 _ (by omega)).1.1 (hSt.2.2.2.2.1 _ (by omega)).1.2 rfl rfl hM hS rfl rfl rfl hl.1 (Nat.le_of_ble_eq_true rfl) dX2_sendFirst_70 (by rw [hR]; exact ⟨Nat.zero_le _, Nat.zero_le _⟩) (fun H locs hM hS => ?_)
    refine lv_aload_n hx hb dX2_sendFirst_73 rfl (lv_at hl 2 rfl) ?_
    refine mr_getr (r := q + 2) (TT := TX2) (N := 10) C0 uX2_sendFirst_X2 hM hSt.1.1 hSt.1.2 rfl 2 (by decide) rfl kX2_sendFirst_f19 rfl dX2_sendFirst_74 ?_
    refine lv_iload_n hx hb dX2_sendFirst_77 rfl (lv_at hl 3 rfl) ?_
    refine lv_dup2_11 hx hb dX2_sendFirst_78 rfl rfl ?_
    refine mr_ialdN (v := (fX0_removeFirst_t (fX0_add_t I (q + 78) lc (I ((q + 4 + 5 * s0) + 1) 0) (nI s0) (I ((q + 4 + 5 * s0) + 3) 0) (I ((q + 4 + 5 * s0) + 4) 0)) (q + 4 + 5 * s0) (c s0)) (q + 2) s0) C0 hM hSt.2.2.1.1 hSt.2.2.1.2 (by decide) (by omega) rfl dX2_sendFirst_79 ?_
    refine lv_iload_n hx hb dX2_sendFirst_80 rfl (lv_at hl 0 rfl) ?_
    refine lv_iadd hx hb dX2_sendFirst_81 ?_
    refine mr_iastN C0 hM hS hSt.2.2.1.1 hSt.2.2.1.2 (by decide) (by omega) dX2_sendFirst_82 (fun H locs hM hS => ?_)
    refine lv_aload_n hx hb dX2_sendFirst_83 rfl (lv_at hl 2 rfl) ?_
    refine lv_dup hx hb dX2_sendFirst_84 rfl ?_
    refine mr_geti (v := (fX0_removeFirst_t (fX0_add_t I (q + 78) lc (I ((q + 4 + 5 * s0) + 1) 0) (nI s0) (I ((q + 4 + 5 * s0) + 3) 0) (I ((q + 4 + 5 * s0) + 4) 0)) (q + 4 + 5 * s0) (c s0)) q 8) (TT := TX2) (N := 10) C0 uX2_sendFirst_X2 hM hSt.1.1 hSt.1.2 rfl 8 (by decide) rfl (hm_put_get (by omega)) kX2_sendFirst_f48 rfl dX2_sendFirst_85 ?_
    refine lv_iconst (v := nI 1) hx hb dX2_sendFirst_88 (by decide) ?_
    refine lv_iadd hx hb dX2_sendFirst_89 ?_
    refine mr_puti (TT := TX2) (N := 10) C0 uX2_sendFirst_X2 tyX2 tyX2_ok nmX2 hM hS hSt.1.1 hSt.1.2 rfl 8 (by decide) rfl kX2_sendFirst_f48 rfl rfl (by decide +kernel) dX2_sendFirst_90 (fun H locs hM hS => ?_)
    have eF : hm_put (hm_put (fX0_removeFirst_t (fX0_add_t I (q + 78) lc (I ((q + 4 + 5 * s0) + 1) 0) (nI s0) (I ((q + 4 + 5 * s0) + 3) 0) (I ((q + 4 + 5 * s0) + 4) 0)) (q + 4 + 5 * s0) (c s0)) (q + 2) s0 (((fX0_removeFirst_t (fX0_add_t I (q + 78) lc (I ((q + 4 + 5 * s0) + 1) 0) (nI s0) (I ((q + 4 + 5 * s0) + 3) 0) (I ((q + 4 + 5 * s0) + 4) 0)) (q + 4 + 5 * s0) (c s0)) (q + 2) s0) + (I ((q + 4 + 5 * s0) + 3) 0))) q 8 (((fX0_removeFirst_t (fX0_add_t I (q + 78) lc (I ((q + 4 + 5 * s0) + 1) 0) (nI s0) (I ((q + 4 + 5 * s0) + 3) 0) (I ((q + 4 + 5 * s0) + 4) 0)) (q + 4 + 5 * s0) (c s0)) q 8) + (nI 1)) = fX2_sendFirst_t I q c lc s0 := by unfold fX2_sendFirst_t; rw [if_neg (Bool.eq_false_iff.mp c5)]
    exact mr_vret C0 hr hlk hQ hS rfl (by rw [← eF]; exact hM) (Nat.le_refl _) (Nat.le_refl _) dX2_sendFirst_93
  · skip
    have hfu := isFull_t c5
    refine lv_aload_n hx hb dX2_sendFirst_43 rfl (lv_at hl 2 rfl) ?_
    refine mr_getr (r := q + 78) (TT := TX2) (N := 10) C0 uX2_sendFirst_X2 hM hSt.1.1 hSt.1.2 rfl 9 (by decide) rfl kX2_sendFirst_f51 rfl dX2_sendFirst_44 ?_
    refine mr_callV (As := []) C0 (ctX0_removeFirst_t (I := I) (J := J) (a := (q + 78)) hSt.2.2.2.2.2.2.2.2 hW.2.2.2.2.2.1 (by omega) (by omega) (by omega)) (cwV 0 C0.1.2.2.2.2 gX2_sendFirst_X0_removeFirst rfl rfl rfl (by decide +kernel) (by rw [hR]; exact ⟨Nat.le_of_ble_eq_true rfl, Nat.le_of_ble_eq_true rfl⟩)) hM hSt.2.2.2.2.2.2.2.2.1.1 hSt.2.2.2.2.2.2.2.2.1.2 rfl rfl hM hS rfl rfl rfl hl.1 (Nat.le_of_ble_eq_true rfl) dX2_sendFirst_47 (by rw [hR]; exact ⟨Nat.zero_le _, Nat.zero_le _⟩) (fun H locs hM hS => ?_)
    have hfu := isFull_t c5
    refine lv_aload_n hx hb dX2_sendFirst_50 rfl (lv_at hl 2 rfl) ?_
    refine mr_getr (r := q + 78) (TT := TX2) (N := 10) C0 uX2_sendFirst_X2 hM hSt.1.1 hSt.1.2 rfl 9 (by decide) rfl kX2_sendFirst_f51 rfl dX2_sendFirst_51 ?_
    refine lv_aload_n hx hb dX2_sendFirst_54 rfl (lv_at hl 1 rfl) ?_
    refine lv_iconst (v := nI 0) hx hb dX2_sendFirst_55 (by decide) ?_
    refine mr_callV (As := [.int (nI 0)]) C0 (ctX0_numberAt_t (I := (fX0_removeFirst_t I (q + 78) lc)) (J := J) (a := (q + 4 + 5 * s0)) (k := 0) (hSt.2.2.2.2.1 _ (by omega)) ((congrFun (fX0_removeFirst_ne (by omega)) _).trans hw2.1) (by omega) (by omega) (by omega)) (cwV 1 C0.1.2.2.2.2 gX2_sendFirst_X0_numberAt rfl rfl rfl (by decide +kernel) (by rw [hR]; exact ⟨Nat.le_of_ble_eq_true rfl, Nat.le_of_ble_eq_true rfl⟩)) hM (hSt.2.2.2.2.1 _ (by omega)).1.1 (hSt.2.2.2.2.1 _ (by omega)).1.2 rfl rfl hM hS rfl rfl rfl hl.1 (Nat.le_of_ble_eq_true rfl) dX2_sendFirst_56 (by rw [hR]; exact ⟨Nat.zero_le _, Nat.zero_le _⟩) (fun H locs hM hS => ?_)
    refine lv_iload_n hx hb dX2_sendFirst_59 rfl (lv_at hl 3 rfl) ?_
    refine lv_iload_n hx hb dX2_sendFirst_60 rfl (lv_at hl 0 rfl) ?_
    refine lv_aload_n hx hb dX2_sendFirst_61 rfl (lv_at hl 1 rfl) ?_
    refine lv_iconst (v := nI 0) hx hb dX2_sendFirst_62 (by decide) ?_
    refine mr_callV (As := [.int (nI 0)]) C0 (ctX0_epochAt_t (I := (fX0_removeFirst_t I (q + 78) lc)) (J := J) (a := (q + 4 + 5 * s0)) (k := 0) (hSt.2.2.2.2.1 _ (by omega)) ((congrFun (fX0_removeFirst_ne (by omega)) _).trans hw2.1) (by omega) (by omega) (by omega)) (cwV 1 C0.1.2.2.2.2 gX2_sendFirst_X0_epochAt rfl rfl rfl (by decide +kernel) (by rw [hR]; exact ⟨Nat.le_of_ble_eq_true rfl, Nat.le_of_ble_eq_true rfl⟩)) hM (hSt.2.2.2.2.1 _ (by omega)).1.1 (hSt.2.2.2.2.1 _ (by omega)).1.2 rfl rfl hM hS rfl rfl rfl hl.1 (Nat.le_of_ble_eq_true rfl) dX2_sendFirst_63 (by rw [hR]; exact ⟨Nat.zero_le _, Nat.zero_le _⟩) (fun H locs hM hS => ?_)
    refine mr_callV (As := [.int ((fX0_removeFirst_t I (q + 78) lc) ((q + 4 + 5 * s0) + 1) 0), .int (nI s0), .int (I ((q + 4 + 5 * s0) + 3) 0), .int ((fX0_removeFirst_t I (q + 78) lc) ((q + 4 + 5 * s0) + 4) 0)]) C0 (ctX0_add_t (I := (fX0_removeFirst_t I (q + 78) lc)) (J := J) (a := (q + 78)) (v := ((fX0_removeFirst_t I (q + 78) lc) ((q + 4 + 5 * s0) + 1) 0)) (s0 := (nI s0)) (z := (I ((q + 4 + 5 * s0) + 3) 0)) (e0 := ((fX0_removeFirst_t I (q + 78) lc) ((q + 4 + 5 * s0) + 4) 0)) hSt.2.2.2.2.2.2.2.2 fX0_removeFirst_cnt (by omega) (by omega) (by omega)) (cwV 4 C0.1.2.2.2.2 gX2_sendFirst_X0_add rfl rfl rfl (by decide +kernel) (by rw [hR]; exact ⟨Nat.le_of_ble_eq_true rfl, Nat.le_of_ble_eq_true rfl⟩)) hM hSt.2.2.2.2.2.2.2.2.1.1 hSt.2.2.2.2.2.2.2.2.1.2 rfl rfl hM hS rfl rfl rfl hl.1 (Nat.le_of_ble_eq_true rfl) dX2_sendFirst_66 (by rw [hR]; exact ⟨Nat.zero_le _, Nat.zero_le _⟩) (fun H locs hM hS => ?_)
    refine lv_aload_n hx hb dX2_sendFirst_69 rfl (lv_at hl 1 rfl) ?_
    refine mr_callV (As := []) C0 (ctX0_removeFirst_t (I := (fX0_add_t (fX0_removeFirst_t I (q + 78) lc) (q + 78) (lc - 1) ((fX0_removeFirst_t I (q + 78) lc) ((q + 4 + 5 * s0) + 1) 0) (nI s0) (I ((q + 4 + 5 * s0) + 3) 0) ((fX0_removeFirst_t I (q + 78) lc) ((q + 4 + 5 * s0) + 4) 0))) (J := J) (a := (q + 4 + 5 * s0)) (hSt.2.2.2.2.1 _ (by omega)) ((congrFun (fX0_add_ne (by omega)) _).trans ((congrFun (fX0_removeFirst_ne (by omega)) _).trans hw2.1)) (by omega) (by omega) (by omega)) (cwV 0 C0.1.2.2.2.2 gX2_sendFirst_X0_removeFirst rfl rfl rfl (by decide +kernel) (by rw [hR]; exact ⟨Nat.le_of_ble_eq_true rfl, Nat.le_of_ble_eq_true rfl⟩)) hM (hSt.2.2.2.2.1 _ (by omega)).1.1 (hSt.2.2.2.2.1 _ (by omega)).1.2 rfl rfl hM hS rfl rfl rfl hl.1 (Nat.le_of_ble_eq_true rfl) dX2_sendFirst_70 (by rw [hR]; exact ⟨Nat.zero_le _, Nat.zero_le _⟩) (fun H locs hM hS => ?_)
    refine lv_aload_n hx hb dX2_sendFirst_73 rfl (lv_at hl 2 rfl) ?_
    refine mr_getr (r := q + 2) (TT := TX2) (N := 10) C0 uX2_sendFirst_X2 hM hSt.1.1 hSt.1.2 rfl 2 (by decide) rfl kX2_sendFirst_f19 rfl dX2_sendFirst_74 ?_
    refine lv_iload_n hx hb dX2_sendFirst_77 rfl (lv_at hl 3 rfl) ?_
    refine lv_dup2_11 hx hb dX2_sendFirst_78 rfl rfl ?_
    refine mr_ialdN (v := (fX0_removeFirst_t (fX0_add_t (fX0_removeFirst_t I (q + 78) lc) (q + 78) (lc - 1) ((fX0_removeFirst_t I (q + 78) lc) ((q + 4 + 5 * s0) + 1) 0) (nI s0) (I ((q + 4 + 5 * s0) + 3) 0) ((fX0_removeFirst_t I (q + 78) lc) ((q + 4 + 5 * s0) + 4) 0)) (q + 4 + 5 * s0) (c s0)) (q + 2) s0) C0 hM hSt.2.2.1.1 hSt.2.2.1.2 (by decide) (by omega) rfl dX2_sendFirst_79 ?_
    refine lv_iload_n hx hb dX2_sendFirst_80 rfl (lv_at hl 0 rfl) ?_
    refine lv_iadd hx hb dX2_sendFirst_81 ?_
    refine mr_iastN C0 hM hS hSt.2.2.1.1 hSt.2.2.1.2 (by decide) (by omega) dX2_sendFirst_82 (fun H locs hM hS => ?_)
    refine lv_aload_n hx hb dX2_sendFirst_83 rfl (lv_at hl 2 rfl) ?_
    refine lv_dup hx hb dX2_sendFirst_84 rfl ?_
    refine mr_geti (v := (fX0_removeFirst_t (fX0_add_t (fX0_removeFirst_t I (q + 78) lc) (q + 78) (lc - 1) ((fX0_removeFirst_t I (q + 78) lc) ((q + 4 + 5 * s0) + 1) 0) (nI s0) (I ((q + 4 + 5 * s0) + 3) 0) ((fX0_removeFirst_t I (q + 78) lc) ((q + 4 + 5 * s0) + 4) 0)) (q + 4 + 5 * s0) (c s0)) q 8) (TT := TX2) (N := 10) C0 uX2_sendFirst_X2 hM hSt.1.1 hSt.1.2 rfl 8 (by decide) rfl (hm_put_get (by omega)) kX2_sendFirst_f48 rfl dX2_sendFirst_85 ?_
    refine lv_iconst (v := nI 1) hx hb dX2_sendFirst_88 (by decide) ?_
    refine lv_iadd hx hb dX2_sendFirst_89 ?_
    refine mr_puti (TT := TX2) (N := 10) C0 uX2_sendFirst_X2 tyX2 tyX2_ok nmX2 hM hS hSt.1.1 hSt.1.2 rfl 8 (by decide) rfl kX2_sendFirst_f48 rfl rfl (by decide +kernel) dX2_sendFirst_90 (fun H locs hM hS => ?_)
    have eF : hm_put (hm_put (fX0_removeFirst_t (fX0_add_t (fX0_removeFirst_t I (q + 78) lc) (q + 78) (lc - 1) ((fX0_removeFirst_t I (q + 78) lc) ((q + 4 + 5 * s0) + 1) 0) (nI s0) (I ((q + 4 + 5 * s0) + 3) 0) ((fX0_removeFirst_t I (q + 78) lc) ((q + 4 + 5 * s0) + 4) 0)) (q + 4 + 5 * s0) (c s0)) (q + 2) s0 (((fX0_removeFirst_t (fX0_add_t (fX0_removeFirst_t I (q + 78) lc) (q + 78) (lc - 1) ((fX0_removeFirst_t I (q + 78) lc) ((q + 4 + 5 * s0) + 1) 0) (nI s0) (I ((q + 4 + 5 * s0) + 3) 0) ((fX0_removeFirst_t I (q + 78) lc) ((q + 4 + 5 * s0) + 4) 0)) (q + 4 + 5 * s0) (c s0)) (q + 2) s0) + (I ((q + 4 + 5 * s0) + 3) 0))) q 8 (((fX0_removeFirst_t (fX0_add_t (fX0_removeFirst_t I (q + 78) lc) (q + 78) (lc - 1) ((fX0_removeFirst_t I (q + 78) lc) ((q + 4 + 5 * s0) + 1) 0) (nI s0) (I ((q + 4 + 5 * s0) + 3) 0) ((fX0_removeFirst_t I (q + 78) lc) ((q + 4 + 5 * s0) + 4) 0)) (q + 4 + 5 * s0) (c s0)) q 8) + (nI 1)) = fX2_sendFirst_t I q c lc s0 := by unfold fX2_sendFirst_t; rw [if_pos c5]
    exact mr_vret C0 hr hlk hQ hS rfl (by rw [← eF]; exact hM) (Nat.le_refl _) (Nat.le_refl _) dX2_sendFirst_93
def fX2_copyFrom (I : hm_I) (q r : Nat) (c : Nat → Nat) (ec lc : Nat) : hm_I :=
  fX0_copyFrom (hm_put (hm_put (lp ec (fun i82 x82 => fX1_copyFrom x82 (q + 48 + 3 * i82) (r + 48 + 3 * i82)) (hm_put (fX1_copyFrom (lp 8 (fun i10 x10 => fX0_copyFrom (hm_put (hm_put x10 (q + 1) i10 (x10 (r + 1) i10)) (q + 2) i10 (x10 (r + 2) i10)) (q + 4 + 5 * i10) (r + 4 + 5 * i10) (c i10)) (hm_put I q 0 (I r 0))) (q + 44) (r + 44)) q 6 (nI ec))) q 7 ((lp ec (fun i82 x82 => fX1_copyFrom x82 (q + 48 + 3 * i82) (r + 48 + 3 * i82)) (hm_put (fX1_copyFrom (lp 8 (fun i10 x10 => fX0_copyFrom (hm_put (hm_put x10 (q + 1) i10 (x10 (r + 1) i10)) (q + 2) i10 (x10 (r + 2) i10)) (q + 4 + 5 * i10) (r + 4 + 5 * i10) (c i10)) (hm_put I q 0 (I r 0))) (q + 44) (r + 44)) q 6 (nI ec))) r 7)) q 8 ((lp ec (fun i82 x82 => fX1_copyFrom x82 (q + 48 + 3 * i82) (r + 48 + 3 * i82)) (hm_put (fX1_copyFrom (lp 8 (fun i10 x10 => fX0_copyFrom (hm_put (hm_put x10 (q + 1) i10 (x10 (r + 1) i10)) (q + 2) i10 (x10 (r + 2) i10)) (q + 4 + 5 * i10) (r + 4 + 5 * i10) (c i10)) (hm_put I q 0 (I r 0))) (q + 44) (r + 44)) q 6 (nI ec))) r 8)) (q + 78) (r + 78) lc
set_option maxHeartbeats 4000000 in
set_option maxRecDepth 100000 in
theorem ctX2_copyFrom {l : Launch} {D : va_G} {T : Nat → ClassId} {L : List Nat} {A : Nat → Prop} {Sh : hm_S} {I : hm_I} {J : hm_J} {q r : Nat} (hSt : IsS L Sh q) (hSr : IsS L Sh r) {c : Nat → Nat} {e : Nat → Nat → Nat} {ec lc : Nat} (hW : WfS I r c e ec lc) (hqr : q + 83 ≤ r ∨ r + 83 ≤ q) :
    Ct l yX2_copyFrom wsX2_copyFrom { frames := 2, cells := 0, slots := 0, locals := 43 } 0 0 D T A [.ref q, .ref r] (hm D T L A Sh I J) none (hm D T L A Sh (fX2_copyFrom I q r c ec lc) J) := by
  refine Ct.ofW (cc := cX2_copyFrom) (maxL := 3) (ret := none) (by decide) rfl (Nat.le_of_ble_eq_true rfl) ?_
  intro p_ e_ s_ m_ args_ below_ meth_ c_ ls R Qq hR hQ C0 hr hlk hname hM hl
  have hx := C0.1.1
  have hb := C0.1.2.1
  have hS : va_S A s_.heap s_.heap [] := va_S.rf
  have hl : lv_has ls 3 [(0, .ref q), (1, .ref r)] := hl
  have hW0 := hW.2.2.2.1
  have hW1 := hW.2.2.2.2.1
  have hW2 := hW.2.2.2.2.2.2
  refine lv_aload_n hx hb dX2_copyFrom_0 rfl (lv_at hl 0 rfl) ?_
  refine lv_aload_n hx hb dX2_copyFrom_1 rfl (lv_at hl 1 rfl) ?_
  refine mr_geti (v := I r 0) (TT := TX2) (N := 10) C0 uX2_copyFrom_X2 hM hSr.1.1 hSr.1.2 rfl 0 (by decide) rfl rfl kX2_copyFrom_f9 rfl dX2_copyFrom_2 ?_
  refine mr_puti (TT := TX2) (N := 10) C0 uX2_copyFrom_X2 tyX2 tyX2_ok nmX2 hM hS hSt.1.1 hSt.1.2 rfl 0 (by decide) rfl kX2_copyFrom_f9 rfl rfl (by decide +kernel) dX2_copyFrom_5 (fun H locs hM hS => ?_)
  refine lv_iconst (v := nI 0) hx hb dX2_copyFrom_8 (by decide) ?_
  refine lv_istore_n (lv' := [(2, .int (nI 0)), (0, .ref q), (1, .ref r)]) hx hb dX2_copyFrom_9 rfl hl (by decide) rfl (fun ls hl => ?_)
  refine lp_loop (σ := hm_I) (fun i10 x10 => ∀ (H : Heap) (locs : List Loc) (ls : Array Slot), hm D T L A Sh x10 J H → va_S A s_.heap H locs → lv_has ls 3 [(0, .ref q), (1, .ref r), (2, .int (nI i10))] → W p_ l e_ R s_ m_ args_ below_ meth_ c_ H locs 0 0 Qq (F0 m_ 10 ls [])) 8 (fun i10 x10 => fX0_copyFrom (hm_put (hm_put x10 (q + 1) i10 (x10 (r + 1) i10)) (q + 2) i10 (x10 (r + 2) i10)) (q + 4 + 5 * i10) (r + 4 + 5 * i10) (c i10)) (hm_put I q 0 (I r 0)) (fun (i10 : Nat) (x10 : hm_I) => ∀ b, (b < q ∨ q + 83 ≤ b) → x10 b = I b) (fun b hb => hm_put_ne _ _ _ _ (by omega)) (fun i x hi hv b hb => (fX0_copyFrom_ne (by omega)).trans ((hm_put_ne _ _ _ _ (by omega)).trans ((hm_put_ne _ _ _ _ (by omega)).trans (hv b hb)))) (fun i10 x10 hi1 hv2 k3 H locs ls hM hS hl => ?_) (fun hv2 H locs ls hM hS hl => ?_) _ _ _ hM hS (lv_sub hl [1, 2, 0] rfl)
  · have stp4 : ∀ yy_ : hm_I, yy_ = (fX0_copyFrom (hm_put (hm_put x10 (q + 1) i10 (x10 (r + 1) i10)) (q + 2) i10 (x10 (r + 2) i10)) (q + 4 + 5 * i10) (r + 4 + 5 * i10) (c i10)) → ∀ (H : Heap) (locs : List Loc) (ls : Array Slot), hm D T L A Sh yy_ J H → va_S A s_.heap H locs → lv_has ls 3 [(0, .ref q), (1, .ref r), (2, .int (nI (i10 + 1)))] → W p_ l e_ R s_ m_ args_ below_ meth_ c_ H locs 0 0 Qq (F0 m_ 10 ls []) := fun yy_ ey => by rw [ey]; exact k3
    have hcc := hW.1 i10 hi1
    have hcd := hcc.2
    refine lv_iload_n hx hb dX2_copyFrom_10 rfl (lv_at hl 2 rfl) ?_
    refine lv_bipush (v := nI 8) hx hb dX2_copyFrom_11 (by decide) ?_
    refine mr_geN (x := i10) (y := 8) (tgt := 61) C0 dX2_copyFrom_13 (by decide) (by omega) (by omega) (fun c5 => absurd c5 (by omega)) (fun c5 => ?_)
    refine lv_aload_n hx hb dX2_copyFrom_16 rfl (lv_at hl 0 rfl) ?_
    refine mr_getr (r := q + 1) (TT := TX2) (N := 10) C0 uX2_copyFrom_X2 hM hSt.1.1 hSt.1.2 rfl 1 (by decide) rfl kX2_copyFrom_f15 rfl dX2_copyFrom_17 ?_
    refine lv_iload_n hx hb dX2_copyFrom_20 rfl (lv_at hl 2 rfl) ?_
    refine lv_aload_n hx hb dX2_copyFrom_21 rfl (lv_at hl 1 rfl) ?_
    refine mr_getr (r := r + 1) (TT := TX2) (N := 10) C0 uX2_copyFrom_X2 hM hSr.1.1 hSr.1.2 rfl 1 (by decide) rfl kX2_copyFrom_f15 rfl dX2_copyFrom_22 ?_
    refine lv_iload_n hx hb dX2_copyFrom_25 rfl (lv_at hl 2 rfl) ?_
    refine mr_ialdN (v := x10 (r + 1) i10) C0 hM hSr.2.1.1 hSr.2.1.2 (by decide) (by omega) rfl dX2_copyFrom_26 ?_
    refine mr_iastN C0 hM hS hSt.2.1.1 hSt.2.1.2 (by decide) (by omega) dX2_copyFrom_27 (fun H locs hM hS => ?_)
    refine lv_aload_n hx hb dX2_copyFrom_28 rfl (lv_at hl 0 rfl) ?_
    refine mr_getr (r := q + 2) (TT := TX2) (N := 10) C0 uX2_copyFrom_X2 hM hSt.1.1 hSt.1.2 rfl 2 (by decide) rfl kX2_copyFrom_f19 rfl dX2_copyFrom_29 ?_
    refine lv_iload_n hx hb dX2_copyFrom_32 rfl (lv_at hl 2 rfl) ?_
    refine lv_aload_n hx hb dX2_copyFrom_33 rfl (lv_at hl 1 rfl) ?_
    refine mr_getr (r := r + 2) (TT := TX2) (N := 10) C0 uX2_copyFrom_X2 hM hSr.1.1 hSr.1.2 rfl 2 (by decide) rfl kX2_copyFrom_f19 rfl dX2_copyFrom_34 ?_
    refine lv_iload_n hx hb dX2_copyFrom_37 rfl (lv_at hl 2 rfl) ?_
    refine mr_ialdN (v := x10 (r + 2) i10) C0 hM hSr.2.2.1.1 hSr.2.2.1.2 (by decide) (by omega) (hm_put_get (by omega)) dX2_copyFrom_38 ?_
    refine mr_iastN C0 hM hS hSt.2.2.1.1 hSt.2.2.1.2 (by decide) (by omega) dX2_copyFrom_39 (fun H locs hM hS => ?_)
    refine lv_aload_n hx hb dX2_copyFrom_40 rfl (lv_at hl 0 rfl) ?_
    refine mr_getr (r := q + 3) (TT := TX2) (N := 10) C0 uX2_copyFrom_X2 hM hSt.1.1 hSt.1.2 rfl 3 (by decide) rfl kX2_copyFrom_f24 rfl dX2_copyFrom_41 ?_
    refine lv_iload_n hx hb dX2_copyFrom_44 rfl (lv_at hl 2 rfl) ?_
    refine mr_aald (t := 0) (C := RX0) (r := q + 4 + 5 * i10) C0 hM hSt.2.2.2.1.1 hSt.2.2.2.1.2 rfl (by decide) (by omega) rfl dX2_copyFrom_45 ?_
    refine lv_aload_n hx hb dX2_copyFrom_46 rfl (lv_at hl 1 rfl) ?_
    refine mr_getr (r := r + 3) (TT := TX2) (N := 10) C0 uX2_copyFrom_X2 hM hSr.1.1 hSr.1.2 rfl 3 (by decide) rfl kX2_copyFrom_f24 rfl dX2_copyFrom_47 ?_
    refine lv_iload_n hx hb dX2_copyFrom_50 rfl (lv_at hl 2 rfl) ?_
    refine mr_aald (t := 0) (C := RX0) (r := r + 4 + 5 * i10) C0 hM hSr.2.2.2.1.1 hSr.2.2.2.1.2 rfl (by decide) (by omega) rfl dX2_copyFrom_51 ?_
    refine mr_callV (As := [.ref (r + 4 + 5 * i10)]) C0 (ctX0_copyFrom (I := (hm_put (hm_put x10 (q + 1) i10 (x10 (r + 1) i10)) (q + 2) i10 (x10 (r + 2) i10))) (J := J) (a := (q + 4 + 5 * i10)) (b := (r + 4 + 5 * i10)) (hSt.2.2.2.2.1 _ (by omega)) (hSr.2.2.2.2.1 _ (by omega)) ((hm_put_get (by omega)).trans ((hm_put_get (by omega)).trans ((congrFun (hv2 _ (by omega)) 4).trans hcc.1))) (by omega) (by omega) (by omega) (by omega) (by omega)) (cwV 1 C0.1.2.2.2.2 gX2_copyFrom_X0_copyFrom rfl rfl rfl (by decide +kernel) (by rw [hR]; exact ⟨Nat.le_of_ble_eq_true rfl, Nat.le_of_ble_eq_true rfl⟩)) hM (hSt.2.2.2.2.1 _ (by omega)).1.1 (hSt.2.2.2.2.1 _ (by omega)).1.2 rfl rfl hM hS rfl rfl rfl hl.1 (Nat.le_of_ble_eq_true rfl) dX2_copyFrom_52 (by rw [hR]; exact ⟨Nat.zero_le _, Nat.zero_le _⟩) (fun H locs hM hS => ?_)
    refine lv_iinc (v := nI (i10 + 1)) (lv' := [(2, .int (nI (i10 + 1))), (0, .ref q), (1, .ref r)]) hx hb dX2_copyFrom_55 hl (k := 2) rfl (nI_1 _) (by decide) rfl (fun ls hl => ?_)
    refine lv_goto (tgt := 10) hx hb dX2_copyFrom_58 (by decide) ?_
    exact stp4 (fX0_copyFrom (hm_put (hm_put x10 (q + 1) i10 (x10 (r + 1) i10)) (q + 2) i10 (x10 (r + 2) i10)) (q + 4 + 5 * i10) (r + 4 + 5 * i10) (c i10)) rfl H locs ls hM hS (lv_sub hl [1, 2, 0] rfl)
  · skip
    refine lv_iload_n hx hb dX2_copyFrom_10 rfl (lv_at hl 2 rfl) ?_
    refine lv_bipush (v := nI 8) hx hb dX2_copyFrom_11 (by decide) ?_
    refine mr_geN (x := 8) (y := 8) (tgt := 61) C0 dX2_copyFrom_13 (by decide) (by decide) (by decide) (fun _ => ?_) (fun c6 => absurd c6 (by decide))
    refine lv_aload_n hx hb dX2_copyFrom_61 rfl (lv_at hl 0 rfl) ?_
    refine mr_getr (r := q + 44) (TT := TX2) (N := 10) C0 uX2_copyFrom_X2 hM hSt.1.1 hSt.1.2 rfl 4 (by decide) rfl kX2_copyFrom_f34 rfl dX2_copyFrom_62 ?_
    refine lv_aload_n hx hb dX2_copyFrom_65 rfl (lv_at hl 1 rfl) ?_
    refine mr_getr (r := r + 44) (TT := TX2) (N := 10) C0 uX2_copyFrom_X2 hM hSr.1.1 hSr.1.2 rfl 4 (by decide) rfl kX2_copyFrom_f34 rfl dX2_copyFrom_66 ?_
    refine mr_callV (As := [.ref (r + 44)]) C0 (ctX1_copyFrom (I := (lp 8 (fun i10 x10 => fX0_copyFrom (hm_put (hm_put x10 (q + 1) i10 (x10 (r + 1) i10)) (q + 2) i10 (x10 (r + 2) i10)) (q + 4 + 5 * i10) (r + 4 + 5 * i10) (c i10)) (hm_put I q 0 (I r 0)))) (J := J) (a := (q + 44)) (b := (r + 44)) hSt.2.2.2.2.2.1 hSr.2.2.2.2.2.1 (by omega)) (cwV 1 C0.1.2.2.2.2 gX2_copyFrom_X1_copyFrom rfl rfl rfl (by decide +kernel) (by rw [hR]; exact ⟨Nat.le_of_ble_eq_true rfl, Nat.le_of_ble_eq_true rfl⟩)) hM hSt.2.2.2.2.2.1.1.1 hSt.2.2.2.2.2.1.1.2 rfl rfl hM hS rfl rfl rfl hl.1 (Nat.le_of_ble_eq_true rfl) dX2_copyFrom_69 (by rw [hR]; exact ⟨Nat.zero_le _, Nat.zero_le _⟩) (fun H locs hM hS => ?_)
    refine lv_aload_n hx hb dX2_copyFrom_72 rfl (lv_at hl 0 rfl) ?_
    refine lv_aload_n hx hb dX2_copyFrom_73 rfl (lv_at hl 1 rfl) ?_
    refine mr_geti (v := nI ec) (TT := TX2) (N := 10) C0 uX2_copyFrom_X2 hM hSr.1.1 hSr.1.2 rfl 6 (by decide) rfl ((congrFun (fX1_copyFrom_ne (by omega)) _).trans ((congrFun (hv2 _ (by omega)) 6).trans hW.2.2.1)) kX2_copyFrom_f42 rfl dX2_copyFrom_74 ?_
    refine mr_puti (TT := TX2) (N := 10) C0 uX2_copyFrom_X2 tyX2 tyX2_ok nmX2 hM hS hSt.1.1 hSt.1.2 rfl 6 (by decide) rfl kX2_copyFrom_f42 rfl rfl (by decide +kernel) dX2_copyFrom_77 (fun H locs hM hS => ?_)
    refine lv_iconst (v := nI 0) hx hb dX2_copyFrom_80 (by decide) ?_
    refine lv_istore_n (lv' := [(2, .int (nI 0)), (0, .ref q), (1, .ref r)]) hx hb dX2_copyFrom_81 rfl hl (by decide) rfl (fun ls hl => ?_)
    refine lp_loop (σ := hm_I) (fun i82 x82 => ∀ (H : Heap) (locs : List Loc) (ls : Array Slot), hm D T L A Sh x82 J H → va_S A s_.heap H locs → lv_has ls 3 [(0, .ref q), (1, .ref r), (2, .int (nI i82))] → W p_ l e_ R s_ m_ args_ below_ meth_ c_ H locs 0 0 Qq (F0 m_ 82 ls [])) ec (fun i82 x82 => fX1_copyFrom x82 (q + 48 + 3 * i82) (r + 48 + 3 * i82)) (hm_put (fX1_copyFrom (lp 8 (fun i10 x10 => fX0_copyFrom (hm_put (hm_put x10 (q + 1) i10 (x10 (r + 1) i10)) (q + 2) i10 (x10 (r + 2) i10)) (q + 4 + 5 * i10) (r + 4 + 5 * i10) (c i10)) (hm_put I q 0 (I r 0))) (q + 44) (r + 44)) q 6 (nI ec)) (fun (i82 : Nat) (x82 : hm_I) => x82 q 6 = nI ec ∧ x82 (r + 78) 4 = nI lc) ⟨(hm_put_at _ _ _ _), ((hm_put_get (by omega)).trans ((congrFun (fX1_copyFrom_ne (by omega)) _).trans ((congrFun (hv2 _ (by omega)) 4).trans hW.2.2.2.2.2.1)))⟩ (fun i x hi hv => have h10 := hW.2.2.2.2.1; ⟨(congrFun (fX1_copyFrom_ne (by omega)) 6).trans hv.1, (congrFun (fX1_copyFrom_ne (by omega)) 4).trans hv.2⟩) (fun i82 x82 hi7 hv8 k9 H locs ls hM hS hl => ?_) (fun hv8 H locs ls hM hS hl => ?_) _ _ _ hM hS (lv_sub hl [1, 2, 0] rfl)
    · have stp10 : ∀ yy_ : hm_I, yy_ = (fX1_copyFrom x82 (q + 48 + 3 * i82) (r + 48 + 3 * i82)) → ∀ (H : Heap) (locs : List Loc) (ls : Array Slot), hm D T L A Sh yy_ J H → va_S A s_.heap H locs → lv_has ls 3 [(0, .ref q), (1, .ref r), (2, .int (nI (i82 + 1)))] → W p_ l e_ R s_ m_ args_ below_ meth_ c_ H locs 0 0 Qq (F0 m_ 82 ls []) := fun yy_ ey => by rw [ey]; exact k9
      have h10 := hW.2.2.2.2.1
      refine lv_iload_n hx hb dX2_copyFrom_82 rfl (lv_at hl 2 rfl) ?_
      refine lv_aload_n hx hb dX2_copyFrom_83 rfl (lv_at hl 0 rfl) ?_
      refine mr_geti (v := nI ec) (TT := TX2) (N := 10) C0 uX2_copyFrom_X2 hM hSt.1.1 hSt.1.2 rfl 6 (by decide) rfl hv8.1 kX2_copyFrom_f42 rfl dX2_copyFrom_84 ?_
      refine mr_geN (x := i82) (y := ec) (tgt := 117) C0 dX2_copyFrom_87 (by decide) (by omega) (by omega) (fun c11 => absurd c11 (by omega)) (fun c11 => ?_)
      refine lv_iload_n hx hb dX2_copyFrom_90 rfl (lv_at hl 2 rfl) ?_
      refine lv_bipush (v := nI 10) hx hb dX2_copyFrom_91 (by decide) ?_
      refine mr_geN (x := i82) (y := 10) (tgt := 117) C0 dX2_copyFrom_93 (by decide) (by omega) (by omega) (fun c12 => absurd c12 (by omega)) (fun c12 => ?_)
      refine lv_aload_n hx hb dX2_copyFrom_96 rfl (lv_at hl 0 rfl) ?_
      refine mr_getr (r := q + 47) (TT := TX2) (N := 10) C0 uX2_copyFrom_X2 hM hSt.1.1 hSt.1.2 rfl 5 (by decide) rfl kX2_copyFrom_f38 rfl dX2_copyFrom_97 ?_
      refine lv_iload_n hx hb dX2_copyFrom_100 rfl (lv_at hl 2 rfl) ?_
      refine mr_aald (t := 1) (C := RX1) (r := q + 48 + 3 * i82) C0 hM hSt.2.2.2.2.2.2.1.1 hSt.2.2.2.2.2.2.1.2 rfl (by decide) (by omega) rfl dX2_copyFrom_101 ?_
      refine lv_aload_n hx hb dX2_copyFrom_102 rfl (lv_at hl 1 rfl) ?_
      refine mr_getr (r := r + 47) (TT := TX2) (N := 10) C0 uX2_copyFrom_X2 hM hSr.1.1 hSr.1.2 rfl 5 (by decide) rfl kX2_copyFrom_f38 rfl dX2_copyFrom_103 ?_
      refine lv_iload_n hx hb dX2_copyFrom_106 rfl (lv_at hl 2 rfl) ?_
      refine mr_aald (t := 1) (C := RX1) (r := r + 48 + 3 * i82) C0 hM hSr.2.2.2.2.2.2.1.1 hSr.2.2.2.2.2.2.1.2 rfl (by decide) (by omega) rfl dX2_copyFrom_107 ?_
      refine mr_callV (As := [.ref (r + 48 + 3 * i82)]) C0 (ctX1_copyFrom (I := x82) (J := J) (a := (q + 48 + 3 * i82)) (b := (r + 48 + 3 * i82)) (hSt.2.2.2.2.2.2.2.1 _ (by omega)) (hSr.2.2.2.2.2.2.2.1 _ (by omega)) (by omega)) (cwV 1 C0.1.2.2.2.2 gX2_copyFrom_X1_copyFrom rfl rfl rfl (by decide +kernel) (by rw [hR]; exact ⟨Nat.le_of_ble_eq_true rfl, Nat.le_of_ble_eq_true rfl⟩)) hM (hSt.2.2.2.2.2.2.2.1 _ (by omega)).1.1 (hSt.2.2.2.2.2.2.2.1 _ (by omega)).1.2 rfl rfl hM hS rfl rfl rfl hl.1 (Nat.le_of_ble_eq_true rfl) dX2_copyFrom_108 (by rw [hR]; exact ⟨Nat.zero_le _, Nat.zero_le _⟩) (fun H locs hM hS => ?_)
      refine lv_iinc (v := nI (i82 + 1)) (lv' := [(2, .int (nI (i82 + 1))), (0, .ref q), (1, .ref r)]) hx hb dX2_copyFrom_111 hl (k := 2) rfl (nI_1 _) (by decide) rfl (fun ls hl => ?_)
      refine lv_goto (tgt := 82) hx hb dX2_copyFrom_114 (by decide) ?_
      exact stp10 (fX1_copyFrom x82 (q + 48 + 3 * i82) (r + 48 + 3 * i82)) rfl H locs ls hM hS (lv_sub hl [1, 2, 0] rfl)
    · skip
      refine lv_iload_n hx hb dX2_copyFrom_82 rfl (lv_at hl 2 rfl) ?_
      refine lv_aload_n hx hb dX2_copyFrom_83 rfl (lv_at hl 0 rfl) ?_
      refine mr_geti (v := nI ec) (TT := TX2) (N := 10) C0 uX2_copyFrom_X2 hM hSt.1.1 hSt.1.2 rfl 6 (by decide) rfl hv8.1 kX2_copyFrom_f42 rfl dX2_copyFrom_84 ?_
      refine mr_geN (x := ec) (y := ec) (tgt := 117) C0 dX2_copyFrom_87 (by decide) (by omega) (by omega) (fun c13 => ?_) (fun c13 => absurd c13 (by omega))
      refine lv_aload_n hx hb dX2_copyFrom_117 rfl (lv_at hl 0 rfl) ?_
      refine lv_aload_n hx hb dX2_copyFrom_118 rfl (lv_at hl 1 rfl) ?_
      refine mr_geti (v := (lp ec (fun i82 x82 => fX1_copyFrom x82 (q + 48 + 3 * i82) (r + 48 + 3 * i82)) (hm_put (fX1_copyFrom (lp 8 (fun i10 x10 => fX0_copyFrom (hm_put (hm_put x10 (q + 1) i10 (x10 (r + 1) i10)) (q + 2) i10 (x10 (r + 2) i10)) (q + 4 + 5 * i10) (r + 4 + 5 * i10) (c i10)) (hm_put I q 0 (I r 0))) (q + 44) (r + 44)) q 6 (nI ec))) r 7) (TT := TX2) (N := 10) C0 uX2_copyFrom_X2 hM hSr.1.1 hSr.1.2 rfl 7 (by decide) rfl rfl kX2_copyFrom_f45 rfl dX2_copyFrom_119 ?_
      refine mr_puti (TT := TX2) (N := 10) C0 uX2_copyFrom_X2 tyX2 tyX2_ok nmX2 hM hS hSt.1.1 hSt.1.2 rfl 7 (by decide) rfl kX2_copyFrom_f45 rfl rfl (by decide +kernel) dX2_copyFrom_122 (fun H locs hM hS => ?_)
      refine lv_aload_n hx hb dX2_copyFrom_125 rfl (lv_at hl 0 rfl) ?_
      refine lv_aload_n hx hb dX2_copyFrom_126 rfl (lv_at hl 1 rfl) ?_
      refine mr_geti (v := (lp ec (fun i82 x82 => fX1_copyFrom x82 (q + 48 + 3 * i82) (r + 48 + 3 * i82)) (hm_put (fX1_copyFrom (lp 8 (fun i10 x10 => fX0_copyFrom (hm_put (hm_put x10 (q + 1) i10 (x10 (r + 1) i10)) (q + 2) i10 (x10 (r + 2) i10)) (q + 4 + 5 * i10) (r + 4 + 5 * i10) (c i10)) (hm_put I q 0 (I r 0))) (q + 44) (r + 44)) q 6 (nI ec))) r 8) (TT := TX2) (N := 10) C0 uX2_copyFrom_X2 hM hSr.1.1 hSr.1.2 rfl 8 (by decide) rfl (hm_put_get (by omega)) kX2_copyFrom_f48 rfl dX2_copyFrom_127 ?_
      refine mr_puti (TT := TX2) (N := 10) C0 uX2_copyFrom_X2 tyX2 tyX2_ok nmX2 hM hS hSt.1.1 hSt.1.2 rfl 8 (by decide) rfl kX2_copyFrom_f48 rfl rfl (by decide +kernel) dX2_copyFrom_130 (fun H locs hM hS => ?_)
      refine lv_aload_n hx hb dX2_copyFrom_133 rfl (lv_at hl 0 rfl) ?_
      refine mr_getr (r := q + 78) (TT := TX2) (N := 10) C0 uX2_copyFrom_X2 hM hSt.1.1 hSt.1.2 rfl 9 (by decide) rfl kX2_copyFrom_f51 rfl dX2_copyFrom_134 ?_
      refine lv_aload_n hx hb dX2_copyFrom_137 rfl (lv_at hl 1 rfl) ?_
      refine mr_getr (r := r + 78) (TT := TX2) (N := 10) C0 uX2_copyFrom_X2 hM hSr.1.1 hSr.1.2 rfl 9 (by decide) rfl kX2_copyFrom_f51 rfl dX2_copyFrom_138 ?_
      refine mr_callV (As := [.ref (r + 78)]) C0 (ctX0_copyFrom (I := (hm_put (hm_put (lp ec (fun i82 x82 => fX1_copyFrom x82 (q + 48 + 3 * i82) (r + 48 + 3 * i82)) (hm_put (fX1_copyFrom (lp 8 (fun i10 x10 => fX0_copyFrom (hm_put (hm_put x10 (q + 1) i10 (x10 (r + 1) i10)) (q + 2) i10 (x10 (r + 2) i10)) (q + 4 + 5 * i10) (r + 4 + 5 * i10) (c i10)) (hm_put I q 0 (I r 0))) (q + 44) (r + 44)) q 6 (nI ec))) q 7 ((lp ec (fun i82 x82 => fX1_copyFrom x82 (q + 48 + 3 * i82) (r + 48 + 3 * i82)) (hm_put (fX1_copyFrom (lp 8 (fun i10 x10 => fX0_copyFrom (hm_put (hm_put x10 (q + 1) i10 (x10 (r + 1) i10)) (q + 2) i10 (x10 (r + 2) i10)) (q + 4 + 5 * i10) (r + 4 + 5 * i10) (c i10)) (hm_put I q 0 (I r 0))) (q + 44) (r + 44)) q 6 (nI ec))) r 7)) q 8 ((lp ec (fun i82 x82 => fX1_copyFrom x82 (q + 48 + 3 * i82) (r + 48 + 3 * i82)) (hm_put (fX1_copyFrom (lp 8 (fun i10 x10 => fX0_copyFrom (hm_put (hm_put x10 (q + 1) i10 (x10 (r + 1) i10)) (q + 2) i10 (x10 (r + 2) i10)) (q + 4 + 5 * i10) (r + 4 + 5 * i10) (c i10)) (hm_put I q 0 (I r 0))) (q + 44) (r + 44)) q 6 (nI ec))) r 8))) (J := J) (a := (q + 78)) (b := (r + 78)) hSt.2.2.2.2.2.2.2.2 hSr.2.2.2.2.2.2.2.2 ((hm_put_get (by omega)).trans ((hm_put_get (by omega)).trans hv8.2)) (by omega) (by omega) (by omega) (by omega) (by omega)) (cwV 1 C0.1.2.2.2.2 gX2_copyFrom_X0_copyFrom rfl rfl rfl (by decide +kernel) (by rw [hR]; exact ⟨Nat.le_of_ble_eq_true rfl, Nat.le_of_ble_eq_true rfl⟩)) hM hSt.2.2.2.2.2.2.2.2.1.1 hSt.2.2.2.2.2.2.2.2.1.2 rfl rfl hM hS rfl rfl rfl hl.1 (Nat.le_of_ble_eq_true rfl) dX2_copyFrom_141 (by rw [hR]; exact ⟨Nat.zero_le _, Nat.zero_le _⟩) (fun H locs hM hS => ?_)
      have eF : fX0_copyFrom (hm_put (hm_put (lp ec (fun i82 x82 => fX1_copyFrom x82 (q + 48 + 3 * i82) (r + 48 + 3 * i82)) (hm_put (fX1_copyFrom (lp 8 (fun i10 x10 => fX0_copyFrom (hm_put (hm_put x10 (q + 1) i10 (x10 (r + 1) i10)) (q + 2) i10 (x10 (r + 2) i10)) (q + 4 + 5 * i10) (r + 4 + 5 * i10) (c i10)) (hm_put I q 0 (I r 0))) (q + 44) (r + 44)) q 6 (nI ec))) q 7 ((lp ec (fun i82 x82 => fX1_copyFrom x82 (q + 48 + 3 * i82) (r + 48 + 3 * i82)) (hm_put (fX1_copyFrom (lp 8 (fun i10 x10 => fX0_copyFrom (hm_put (hm_put x10 (q + 1) i10 (x10 (r + 1) i10)) (q + 2) i10 (x10 (r + 2) i10)) (q + 4 + 5 * i10) (r + 4 + 5 * i10) (c i10)) (hm_put I q 0 (I r 0))) (q + 44) (r + 44)) q 6 (nI ec))) r 7)) q 8 ((lp ec (fun i82 x82 => fX1_copyFrom x82 (q + 48 + 3 * i82) (r + 48 + 3 * i82)) (hm_put (fX1_copyFrom (lp 8 (fun i10 x10 => fX0_copyFrom (hm_put (hm_put x10 (q + 1) i10 (x10 (r + 1) i10)) (q + 2) i10 (x10 (r + 2) i10)) (q + 4 + 5 * i10) (r + 4 + 5 * i10) (c i10)) (hm_put I q 0 (I r 0))) (q + 44) (r + 44)) q 6 (nI ec))) r 8)) (q + 78) (r + 78) lc = fX2_copyFrom I q r c ec lc := rfl
      exact mr_vret C0 hr hlk hQ hS rfl (by rw [← eF]; exact hM) (Nat.le_refl _) (Nat.le_refl _) dX2_copyFrom_144
