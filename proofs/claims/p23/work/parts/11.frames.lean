theorem dX0_copyFrom_0 : decode cX0_copyFrom 0 = .ok (.aload_n 0, 1) := by decide +kernel
theorem dX0_copyFrom_1 : decode cX0_copyFrom 1 = .ok (.aload_n 1, 1) := by decide +kernel
theorem dX0_copyFrom_2 : decode cX0_copyFrom 2 = .ok (.getfield 30, 3) := by decide +kernel
theorem dX0_copyFrom_5 : decode cX0_copyFrom 5 = .ok (.aload_n 0, 1) := by decide +kernel
theorem dX0_copyFrom_6 : decode cX0_copyFrom 6 = .ok (.getfield 15, 3) := by decide +kernel
theorem dX0_copyFrom_9 : decode cX0_copyFrom 9 = .ok (.arraylength, 1) := by decide +kernel
theorem dX0_copyFrom_10 : decode cX0_copyFrom 10 = .ok (.invokestatic 34, 3) := by decide +kernel
theorem dX0_copyFrom_13 : decode cX0_copyFrom 13 = .ok (.putfield 30, 3) := by decide +kernel
theorem dX0_copyFrom_16 : decode cX0_copyFrom 16 = .ok (.iconst 0, 1) := by decide +kernel
theorem dX0_copyFrom_17 : decode cX0_copyFrom 17 = .ok (.istore_n 2, 1) := by decide +kernel
theorem dX0_copyFrom_18 : decode cX0_copyFrom 18 = .ok (.iload_n 2, 1) := by decide +kernel
theorem dX0_copyFrom_19 : decode cX0_copyFrom 19 = .ok (.aload_n 0, 1) := by decide +kernel
theorem dX0_copyFrom_20 : decode cX0_copyFrom 20 = .ok (.getfield 30, 3) := by decide +kernel
theorem dX0_copyFrom_23 : decode cX0_copyFrom 23 = .ok (.if_icmp .ge 57, 3) := by decide +kernel
theorem dX0_copyFrom_26 : decode cX0_copyFrom 26 = .ok (.aload_n 0, 1) := by decide +kernel
theorem dX0_copyFrom_27 : decode cX0_copyFrom 27 = .ok (.getfield 15, 3) := by decide +kernel
theorem dX0_copyFrom_30 : decode cX0_copyFrom 30 = .ok (.iload_n 2, 1) := by decide +kernel
theorem dX0_copyFrom_31 : decode cX0_copyFrom 31 = .ok (.aload_n 1, 1) := by decide +kernel
theorem dX0_copyFrom_32 : decode cX0_copyFrom 32 = .ok (.getfield 15, 3) := by decide +kernel
theorem dX0_copyFrom_35 : decode cX0_copyFrom 35 = .ok (.iload_n 2, 1) := by decide +kernel
theorem dX0_copyFrom_36 : decode cX0_copyFrom 36 = .ok (.iaload, 1) := by decide +kernel
theorem dX0_copyFrom_37 : decode cX0_copyFrom 37 = .ok (.iastore, 1) := by decide +kernel
theorem dX0_copyFrom_38 : decode cX0_copyFrom 38 = .ok (.aload_n 0, 1) := by decide +kernel
theorem dX0_copyFrom_39 : decode cX0_copyFrom 39 = .ok (.getfield 21, 3) := by decide +kernel
theorem dX0_copyFrom_42 : decode cX0_copyFrom 42 = .ok (.iload_n 2, 1) := by decide +kernel
theorem dX0_copyFrom_43 : decode cX0_copyFrom 43 = .ok (.aload_n 1, 1) := by decide +kernel
theorem dX0_copyFrom_44 : decode cX0_copyFrom 44 = .ok (.getfield 21, 3) := by decide +kernel
theorem dX0_copyFrom_47 : decode cX0_copyFrom 47 = .ok (.iload_n 2, 1) := by decide +kernel
theorem dX0_copyFrom_48 : decode cX0_copyFrom 48 = .ok (.iaload, 1) := by decide +kernel
theorem dX0_copyFrom_49 : decode cX0_copyFrom 49 = .ok (.iastore, 1) := by decide +kernel
theorem dX0_copyFrom_50 : decode cX0_copyFrom 50 = .ok (.aload_n 0, 1) := by decide +kernel
theorem dX0_copyFrom_51 : decode cX0_copyFrom 51 = .ok (.getfield 24, 3) := by decide +kernel
theorem dX0_copyFrom_54 : decode cX0_copyFrom 54 = .ok (.iload_n 2, 1) := by decide +kernel
theorem dX0_copyFrom_55 : decode cX0_copyFrom 55 = .ok (.aload_n 1, 1) := by decide +kernel
theorem dX0_copyFrom_56 : decode cX0_copyFrom 56 = .ok (.getfield 24, 3) := by decide +kernel
theorem dX0_copyFrom_59 : decode cX0_copyFrom 59 = .ok (.iload_n 2, 1) := by decide +kernel
theorem dX0_copyFrom_60 : decode cX0_copyFrom 60 = .ok (.iaload, 1) := by decide +kernel
theorem dX0_copyFrom_61 : decode cX0_copyFrom 61 = .ok (.iastore, 1) := by decide +kernel
theorem dX0_copyFrom_62 : decode cX0_copyFrom 62 = .ok (.aload_n 0, 1) := by decide +kernel
theorem dX0_copyFrom_63 : decode cX0_copyFrom 63 = .ok (.getfield 27, 3) := by decide +kernel
theorem dX0_copyFrom_66 : decode cX0_copyFrom 66 = .ok (.iload_n 2, 1) := by decide +kernel
theorem dX0_copyFrom_67 : decode cX0_copyFrom 67 = .ok (.aload_n 1, 1) := by decide +kernel
theorem dX0_copyFrom_68 : decode cX0_copyFrom 68 = .ok (.getfield 27, 3) := by decide +kernel
theorem dX0_copyFrom_71 : decode cX0_copyFrom 71 = .ok (.iload_n 2, 1) := by decide +kernel
theorem dX0_copyFrom_72 : decode cX0_copyFrom 72 = .ok (.iaload, 1) := by decide +kernel
theorem dX0_copyFrom_73 : decode cX0_copyFrom 73 = .ok (.iastore, 1) := by decide +kernel
theorem dX0_copyFrom_74 : decode cX0_copyFrom 74 = .ok (.iinc 2 1, 3) := by decide +kernel
theorem dX0_copyFrom_77 : decode cX0_copyFrom 77 = .ok (.goto (-59), 3) := by decide +kernel
theorem dX0_copyFrom_80 : decode cX0_copyFrom 80 = .ok (.return_, 1) := by decide +kernel
theorem dX0_isFull_0 : decode cX0_isFull 0 = .ok (.aload_n 0, 1) := by decide +kernel
theorem dX0_isFull_1 : decode cX0_isFull 1 = .ok (.getfield 30, 3) := by decide +kernel
theorem dX0_isFull_4 : decode cX0_isFull 4 = .ok (.aload_n 0, 1) := by decide +kernel
theorem dX0_isFull_5 : decode cX0_isFull 5 = .ok (.getfield 15, 3) := by decide +kernel
theorem dX0_isFull_8 : decode cX0_isFull 8 = .ok (.arraylength, 1) := by decide +kernel
theorem dX0_isFull_9 : decode cX0_isFull 9 = .ok (.if_icmp .lt 7, 3) := by decide +kernel
theorem dX0_isFull_12 : decode cX0_isFull 12 = .ok (.iconst 1, 1) := by decide +kernel
theorem dX0_isFull_13 : decode cX0_isFull 13 = .ok (.goto 4, 3) := by decide +kernel
theorem dX0_isFull_16 : decode cX0_isFull 16 = .ok (.iconst 0, 1) := by decide +kernel
theorem dX0_isFull_17 : decode cX0_isFull 17 = .ok (.ireturn, 1) := by decide +kernel
theorem dX0_hasFrame_0 : decode cX0_hasFrame 0 = .ok (.iload_n 1, 1) := by decide +kernel
theorem dX0_hasFrame_1 : decode cX0_hasFrame 1 = .ok (.ifCond .lt 15, 3) := by decide +kernel
theorem dX0_hasFrame_4 : decode cX0_hasFrame 4 = .ok (.iload_n 1, 1) := by decide +kernel
theorem dX0_hasFrame_5 : decode cX0_hasFrame 5 = .ok (.aload_n 0, 1) := by decide +kernel
theorem dX0_hasFrame_6 : decode cX0_hasFrame 6 = .ok (.getfield 30, 3) := by decide +kernel
theorem dX0_hasFrame_9 : decode cX0_hasFrame 9 = .ok (.if_icmp .ge 7, 3) := by decide +kernel
theorem dX0_hasFrame_12 : decode cX0_hasFrame 12 = .ok (.iconst 1, 1) := by decide +kernel
theorem dX0_hasFrame_13 : decode cX0_hasFrame 13 = .ok (.goto 4, 3) := by decide +kernel
theorem dX0_hasFrame_16 : decode cX0_hasFrame 16 = .ok (.iconst 0, 1) := by decide +kernel
theorem dX0_hasFrame_17 : decode cX0_hasFrame 17 = .ok (.ireturn, 1) := by decide +kernel
theorem dX0_numberAt_0 : decode cX0_numberAt 0 = .ok (.aload_n 0, 1) := by decide +kernel
theorem dX0_numberAt_1 : decode cX0_numberAt 1 = .ok (.iload_n 1, 1) := by decide +kernel
theorem dX0_numberAt_2 : decode cX0_numberAt 2 = .ok (.invokevirtual 37, 3) := by decide +kernel
theorem dX0_numberAt_5 : decode cX0_numberAt 5 = .ok (.ifCond .eq 12, 3) := by decide +kernel
theorem dX0_numberAt_8 : decode cX0_numberAt 8 = .ok (.aload_n 0, 1) := by decide +kernel
theorem dX0_numberAt_9 : decode cX0_numberAt 9 = .ok (.getfield 15, 3) := by decide +kernel
theorem dX0_numberAt_12 : decode cX0_numberAt 12 = .ok (.iload_n 1, 1) := by decide +kernel
theorem dX0_numberAt_13 : decode cX0_numberAt 13 = .ok (.iaload, 1) := by decide +kernel
theorem dX0_numberAt_14 : decode cX0_numberAt 14 = .ok (.goto 5, 3) := by decide +kernel
theorem dX0_numberAt_17 : decode cX0_numberAt 17 = .ok (.bipush (-9), 2) := by decide +kernel
theorem dX0_numberAt_19 : decode cX0_numberAt 19 = .ok (.ireturn, 1) := by decide +kernel
theorem dX0_streamAt_0 : decode cX0_streamAt 0 = .ok (.aload_n 0, 1) := by decide +kernel
theorem dX0_streamAt_1 : decode cX0_streamAt 1 = .ok (.iload_n 1, 1) := by decide +kernel
theorem dX0_streamAt_2 : decode cX0_streamAt 2 = .ok (.invokevirtual 37, 3) := by decide +kernel
theorem dX0_streamAt_5 : decode cX0_streamAt 5 = .ok (.ifCond .eq 12, 3) := by decide +kernel
theorem dX0_streamAt_8 : decode cX0_streamAt 8 = .ok (.aload_n 0, 1) := by decide +kernel
theorem dX0_streamAt_9 : decode cX0_streamAt 9 = .ok (.getfield 21, 3) := by decide +kernel
theorem dX0_streamAt_12 : decode cX0_streamAt 12 = .ok (.iload_n 1, 1) := by decide +kernel
theorem dX0_streamAt_13 : decode cX0_streamAt 13 = .ok (.iaload, 1) := by decide +kernel
theorem dX0_streamAt_14 : decode cX0_streamAt 14 = .ok (.goto 5, 3) := by decide +kernel
theorem dX0_streamAt_17 : decode cX0_streamAt 17 = .ok (.bipush (-9), 2) := by decide +kernel
theorem dX0_streamAt_19 : decode cX0_streamAt 19 = .ok (.ireturn, 1) := by decide +kernel
theorem dX0_sizeAt_0 : decode cX0_sizeAt 0 = .ok (.aload_n 0, 1) := by decide +kernel
theorem dX0_sizeAt_1 : decode cX0_sizeAt 1 = .ok (.iload_n 1, 1) := by decide +kernel
theorem dX0_sizeAt_2 : decode cX0_sizeAt 2 = .ok (.invokevirtual 37, 3) := by decide +kernel
theorem dX0_sizeAt_5 : decode cX0_sizeAt 5 = .ok (.ifCond .eq 12, 3) := by decide +kernel
theorem dX0_sizeAt_8 : decode cX0_sizeAt 8 = .ok (.aload_n 0, 1) := by decide +kernel
theorem dX0_sizeAt_9 : decode cX0_sizeAt 9 = .ok (.getfield 24, 3) := by decide +kernel
theorem dX0_sizeAt_12 : decode cX0_sizeAt 12 = .ok (.iload_n 1, 1) := by decide +kernel
theorem dX0_sizeAt_13 : decode cX0_sizeAt 13 = .ok (.iaload, 1) := by decide +kernel
theorem dX0_sizeAt_14 : decode cX0_sizeAt 14 = .ok (.goto 5, 3) := by decide +kernel
theorem dX0_sizeAt_17 : decode cX0_sizeAt 17 = .ok (.bipush (-9), 2) := by decide +kernel
theorem dX0_sizeAt_19 : decode cX0_sizeAt 19 = .ok (.ireturn, 1) := by decide +kernel
theorem dX0_epochAt_0 : decode cX0_epochAt 0 = .ok (.aload_n 0, 1) := by decide +kernel
theorem dX0_epochAt_1 : decode cX0_epochAt 1 = .ok (.iload_n 1, 1) := by decide +kernel
theorem dX0_epochAt_2 : decode cX0_epochAt 2 = .ok (.invokevirtual 37, 3) := by decide +kernel
theorem dX0_epochAt_5 : decode cX0_epochAt 5 = .ok (.ifCond .eq 12, 3) := by decide +kernel
theorem dX0_epochAt_8 : decode cX0_epochAt 8 = .ok (.aload_n 0, 1) := by decide +kernel
theorem dX0_epochAt_9 : decode cX0_epochAt 9 = .ok (.getfield 27, 3) := by decide +kernel
theorem dX0_epochAt_12 : decode cX0_epochAt 12 = .ok (.iload_n 1, 1) := by decide +kernel
theorem dX0_epochAt_13 : decode cX0_epochAt 13 = .ok (.iaload, 1) := by decide +kernel
theorem dX0_epochAt_14 : decode cX0_epochAt 14 = .ok (.goto 5, 3) := by decide +kernel
theorem dX0_epochAt_17 : decode cX0_epochAt 17 = .ok (.bipush (-9), 2) := by decide +kernel
theorem dX0_epochAt_19 : decode cX0_epochAt 19 = .ok (.ireturn, 1) := by decide +kernel
theorem dX0_add_0 : decode cX0_add 0 = .ok (.aload_n 0, 1) := by decide +kernel
theorem dX0_add_1 : decode cX0_add 1 = .ok (.invokevirtual 41, 3) := by decide +kernel
theorem dX0_add_4 : decode cX0_add 4 = .ok (.ifCond .eq 4, 3) := by decide +kernel
theorem dX0_add_7 : decode cX0_add 7 = .ok (.return_, 1) := by decide +kernel
theorem dX0_add_8 : decode cX0_add 8 = .ok (.aload_n 0, 1) := by decide +kernel
theorem dX0_add_9 : decode cX0_add 9 = .ok (.getfield 15, 3) := by decide +kernel
theorem dX0_add_12 : decode cX0_add 12 = .ok (.aload_n 0, 1) := by decide +kernel
theorem dX0_add_13 : decode cX0_add 13 = .ok (.getfield 30, 3) := by decide +kernel
theorem dX0_add_16 : decode cX0_add 16 = .ok (.iload_n 1, 1) := by decide +kernel
theorem dX0_add_17 : decode cX0_add 17 = .ok (.iastore, 1) := by decide +kernel
theorem dX0_add_18 : decode cX0_add 18 = .ok (.aload_n 0, 1) := by decide +kernel
theorem dX0_add_19 : decode cX0_add 19 = .ok (.getfield 21, 3) := by decide +kernel
theorem dX0_add_22 : decode cX0_add 22 = .ok (.aload_n 0, 1) := by decide +kernel
theorem dX0_add_23 : decode cX0_add 23 = .ok (.getfield 30, 3) := by decide +kernel
theorem dX0_add_26 : decode cX0_add 26 = .ok (.iload_n 2, 1) := by decide +kernel
theorem dX0_add_27 : decode cX0_add 27 = .ok (.iastore, 1) := by decide +kernel
theorem dX0_add_28 : decode cX0_add 28 = .ok (.aload_n 0, 1) := by decide +kernel
theorem dX0_add_29 : decode cX0_add 29 = .ok (.getfield 24, 3) := by decide +kernel
theorem dX0_add_32 : decode cX0_add 32 = .ok (.aload_n 0, 1) := by decide +kernel
theorem dX0_add_33 : decode cX0_add 33 = .ok (.getfield 30, 3) := by decide +kernel
theorem dX0_add_36 : decode cX0_add 36 = .ok (.iload_n 3, 1) := by decide +kernel
theorem dX0_add_37 : decode cX0_add 37 = .ok (.iastore, 1) := by decide +kernel
theorem dX0_add_38 : decode cX0_add 38 = .ok (.aload_n 0, 1) := by decide +kernel
theorem dX0_add_39 : decode cX0_add 39 = .ok (.getfield 27, 3) := by decide +kernel
theorem dX0_add_42 : decode cX0_add 42 = .ok (.aload_n 0, 1) := by decide +kernel
theorem dX0_add_43 : decode cX0_add 43 = .ok (.getfield 30, 3) := by decide +kernel
theorem dX0_add_46 : decode cX0_add 46 = .ok (.iload 4, 2) := by decide +kernel
theorem dX0_add_48 : decode cX0_add 48 = .ok (.iastore, 1) := by decide +kernel
theorem dX0_add_49 : decode cX0_add 49 = .ok (.aload_n 0, 1) := by decide +kernel
theorem dX0_add_50 : decode cX0_add 50 = .ok (.dup, 1) := by decide +kernel
theorem dX0_add_51 : decode cX0_add 51 = .ok (.getfield 30, 3) := by decide +kernel
theorem dX0_add_54 : decode cX0_add 54 = .ok (.iconst 1, 1) := by decide +kernel
theorem dX0_add_55 : decode cX0_add 55 = .ok (.iadd, 1) := by decide +kernel
theorem dX0_add_56 : decode cX0_add 56 = .ok (.putfield 30, 3) := by decide +kernel
theorem dX0_add_59 : decode cX0_add 59 = .ok (.return_, 1) := by decide +kernel
theorem dX0_removeFirst_0 : decode cX0_removeFirst 0 = .ok (.aload_n 0, 1) := by decide +kernel
theorem dX0_removeFirst_1 : decode cX0_removeFirst 1 = .ok (.getfield 30, 3) := by decide +kernel
theorem dX0_removeFirst_4 : decode cX0_removeFirst 4 = .ok (.ifCond .ne 4, 3) := by decide +kernel
theorem dX0_removeFirst_7 : decode cX0_removeFirst 7 = .ok (.return_, 1) := by decide +kernel
theorem dX0_removeFirst_8 : decode cX0_removeFirst 8 = .ok (.iconst 1, 1) := by decide +kernel
theorem dX0_removeFirst_9 : decode cX0_removeFirst 9 = .ok (.istore_n 1, 1) := by decide +kernel
theorem dX0_removeFirst_10 : decode cX0_removeFirst 10 = .ok (.iload_n 1, 1) := by decide +kernel
theorem dX0_removeFirst_11 : decode cX0_removeFirst 11 = .ok (.aload_n 0, 1) := by decide +kernel
theorem dX0_removeFirst_12 : decode cX0_removeFirst 12 = .ok (.getfield 30, 3) := by decide +kernel
theorem dX0_removeFirst_15 : decode cX0_removeFirst 15 = .ok (.if_icmp .ge 65, 3) := by decide +kernel
theorem dX0_removeFirst_18 : decode cX0_removeFirst 18 = .ok (.aload_n 0, 1) := by decide +kernel
theorem dX0_removeFirst_19 : decode cX0_removeFirst 19 = .ok (.getfield 15, 3) := by decide +kernel
theorem dX0_removeFirst_22 : decode cX0_removeFirst 22 = .ok (.iload_n 1, 1) := by decide +kernel
theorem dX0_removeFirst_23 : decode cX0_removeFirst 23 = .ok (.iconst 1, 1) := by decide +kernel
theorem dX0_removeFirst_24 : decode cX0_removeFirst 24 = .ok (.isub, 1) := by decide +kernel
theorem dX0_removeFirst_25 : decode cX0_removeFirst 25 = .ok (.aload_n 0, 1) := by decide +kernel
theorem dX0_removeFirst_26 : decode cX0_removeFirst 26 = .ok (.getfield 15, 3) := by decide +kernel
theorem dX0_removeFirst_29 : decode cX0_removeFirst 29 = .ok (.iload_n 1, 1) := by decide +kernel
theorem dX0_removeFirst_30 : decode cX0_removeFirst 30 = .ok (.iaload, 1) := by decide +kernel
theorem dX0_removeFirst_31 : decode cX0_removeFirst 31 = .ok (.iastore, 1) := by decide +kernel
theorem dX0_removeFirst_32 : decode cX0_removeFirst 32 = .ok (.aload_n 0, 1) := by decide +kernel
theorem dX0_removeFirst_33 : decode cX0_removeFirst 33 = .ok (.getfield 21, 3) := by decide +kernel
theorem dX0_removeFirst_36 : decode cX0_removeFirst 36 = .ok (.iload_n 1, 1) := by decide +kernel
theorem dX0_removeFirst_37 : decode cX0_removeFirst 37 = .ok (.iconst 1, 1) := by decide +kernel
theorem dX0_removeFirst_38 : decode cX0_removeFirst 38 = .ok (.isub, 1) := by decide +kernel
theorem dX0_removeFirst_39 : decode cX0_removeFirst 39 = .ok (.aload_n 0, 1) := by decide +kernel
theorem dX0_removeFirst_40 : decode cX0_removeFirst 40 = .ok (.getfield 21, 3) := by decide +kernel
theorem dX0_removeFirst_43 : decode cX0_removeFirst 43 = .ok (.iload_n 1, 1) := by decide +kernel
theorem dX0_removeFirst_44 : decode cX0_removeFirst 44 = .ok (.iaload, 1) := by decide +kernel
theorem dX0_removeFirst_45 : decode cX0_removeFirst 45 = .ok (.iastore, 1) := by decide +kernel
theorem dX0_removeFirst_46 : decode cX0_removeFirst 46 = .ok (.aload_n 0, 1) := by decide +kernel
theorem dX0_removeFirst_47 : decode cX0_removeFirst 47 = .ok (.getfield 24, 3) := by decide +kernel
theorem dX0_removeFirst_50 : decode cX0_removeFirst 50 = .ok (.iload_n 1, 1) := by decide +kernel
theorem dX0_removeFirst_51 : decode cX0_removeFirst 51 = .ok (.iconst 1, 1) := by decide +kernel
theorem dX0_removeFirst_52 : decode cX0_removeFirst 52 = .ok (.isub, 1) := by decide +kernel
theorem dX0_removeFirst_53 : decode cX0_removeFirst 53 = .ok (.aload_n 0, 1) := by decide +kernel
theorem dX0_removeFirst_54 : decode cX0_removeFirst 54 = .ok (.getfield 24, 3) := by decide +kernel
theorem dX0_removeFirst_57 : decode cX0_removeFirst 57 = .ok (.iload_n 1, 1) := by decide +kernel
theorem dX0_removeFirst_58 : decode cX0_removeFirst 58 = .ok (.iaload, 1) := by decide +kernel
theorem dX0_removeFirst_59 : decode cX0_removeFirst 59 = .ok (.iastore, 1) := by decide +kernel
theorem dX0_removeFirst_60 : decode cX0_removeFirst 60 = .ok (.aload_n 0, 1) := by decide +kernel
theorem dX0_removeFirst_61 : decode cX0_removeFirst 61 = .ok (.getfield 27, 3) := by decide +kernel
theorem dX0_removeFirst_64 : decode cX0_removeFirst 64 = .ok (.iload_n 1, 1) := by decide +kernel
theorem dX0_removeFirst_65 : decode cX0_removeFirst 65 = .ok (.iconst 1, 1) := by decide +kernel
theorem dX0_removeFirst_66 : decode cX0_removeFirst 66 = .ok (.isub, 1) := by decide +kernel
theorem dX0_removeFirst_67 : decode cX0_removeFirst 67 = .ok (.aload_n 0, 1) := by decide +kernel
theorem dX0_removeFirst_68 : decode cX0_removeFirst 68 = .ok (.getfield 27, 3) := by decide +kernel
theorem dX0_removeFirst_71 : decode cX0_removeFirst 71 = .ok (.iload_n 1, 1) := by decide +kernel
theorem dX0_removeFirst_72 : decode cX0_removeFirst 72 = .ok (.iaload, 1) := by decide +kernel
theorem dX0_removeFirst_73 : decode cX0_removeFirst 73 = .ok (.iastore, 1) := by decide +kernel
theorem dX0_removeFirst_74 : decode cX0_removeFirst 74 = .ok (.iinc 1 1, 3) := by decide +kernel
theorem dX0_removeFirst_77 : decode cX0_removeFirst 77 = .ok (.goto (-67), 3) := by decide +kernel
theorem dX0_removeFirst_80 : decode cX0_removeFirst 80 = .ok (.aload_n 0, 1) := by decide +kernel
theorem dX0_removeFirst_81 : decode cX0_removeFirst 81 = .ok (.dup, 1) := by decide +kernel
theorem dX0_removeFirst_82 : decode cX0_removeFirst 82 = .ok (.getfield 30, 3) := by decide +kernel
theorem dX0_removeFirst_85 : decode cX0_removeFirst 85 = .ok (.iconst 1, 1) := by decide +kernel
theorem dX0_removeFirst_86 : decode cX0_removeFirst 86 = .ok (.isub, 1) := by decide +kernel
theorem dX0_removeFirst_87 : decode cX0_removeFirst 87 = .ok (.putfield 30, 3) := by decide +kernel
theorem dX0_removeFirst_90 : decode cX0_removeFirst 90 = .ok (.return_, 1) := by decide +kernel
theorem dX0_sizeOfAll_0 : decode cX0_sizeOfAll 0 = .ok (.iconst 0, 1) := by decide +kernel
theorem dX0_sizeOfAll_1 : decode cX0_sizeOfAll 1 = .ok (.istore_n 1, 1) := by decide +kernel
theorem dX0_sizeOfAll_2 : decode cX0_sizeOfAll 2 = .ok (.iconst 0, 1) := by decide +kernel
theorem dX0_sizeOfAll_3 : decode cX0_sizeOfAll 3 = .ok (.istore_n 2, 1) := by decide +kernel
theorem dX0_sizeOfAll_4 : decode cX0_sizeOfAll 4 = .ok (.iload_n 2, 1) := by decide +kernel
theorem dX0_sizeOfAll_5 : decode cX0_sizeOfAll 5 = .ok (.aload_n 0, 1) := by decide +kernel
theorem dX0_sizeOfAll_6 : decode cX0_sizeOfAll 6 = .ok (.getfield 30, 3) := by decide +kernel
theorem dX0_sizeOfAll_9 : decode cX0_sizeOfAll 9 = .ok (.if_icmp .ge 18, 3) := by decide +kernel
theorem dX0_sizeOfAll_12 : decode cX0_sizeOfAll 12 = .ok (.iload_n 1, 1) := by decide +kernel
theorem dX0_sizeOfAll_13 : decode cX0_sizeOfAll 13 = .ok (.aload_n 0, 1) := by decide +kernel
theorem dX0_sizeOfAll_14 : decode cX0_sizeOfAll 14 = .ok (.getfield 24, 3) := by decide +kernel
theorem dX0_sizeOfAll_17 : decode cX0_sizeOfAll 17 = .ok (.iload_n 2, 1) := by decide +kernel
theorem dX0_sizeOfAll_18 : decode cX0_sizeOfAll 18 = .ok (.iaload, 1) := by decide +kernel
theorem dX0_sizeOfAll_19 : decode cX0_sizeOfAll 19 = .ok (.iadd, 1) := by decide +kernel
theorem dX0_sizeOfAll_20 : decode cX0_sizeOfAll 20 = .ok (.istore_n 1, 1) := by decide +kernel
theorem dX0_sizeOfAll_21 : decode cX0_sizeOfAll 21 = .ok (.iinc 2 1, 3) := by decide +kernel
theorem dX0_sizeOfAll_24 : decode cX0_sizeOfAll 24 = .ok (.goto (-20), 3) := by decide +kernel
theorem dX0_sizeOfAll_27 : decode cX0_sizeOfAll 27 = .ok (.iload_n 1, 1) := by decide +kernel
theorem dX0_sizeOfAll_28 : decode cX0_sizeOfAll 28 = .ok (.ireturn, 1) := by decide +kernel
theorem dX0_countOfEpochUpTo_0 : decode cX0_countOfEpochUpTo 0 = .ok (.iconst 0, 1) := by decide +kernel
theorem dX0_countOfEpochUpTo_1 : decode cX0_countOfEpochUpTo 1 = .ok (.istore_n 2, 1) := by decide +kernel
theorem dX0_countOfEpochUpTo_2 : decode cX0_countOfEpochUpTo 2 = .ok (.iconst 0, 1) := by decide +kernel
theorem dX0_countOfEpochUpTo_3 : decode cX0_countOfEpochUpTo 3 = .ok (.istore_n 3, 1) := by decide +kernel
theorem dX0_countOfEpochUpTo_4 : decode cX0_countOfEpochUpTo 4 = .ok (.iload_n 3, 1) := by decide +kernel
theorem dX0_countOfEpochUpTo_5 : decode cX0_countOfEpochUpTo 5 = .ok (.aload_n 0, 1) := by decide +kernel
theorem dX0_countOfEpochUpTo_6 : decode cX0_countOfEpochUpTo 6 = .ok (.getfield 30, 3) := by decide +kernel
theorem dX0_countOfEpochUpTo_9 : decode cX0_countOfEpochUpTo 9 = .ok (.if_icmp .ge 22, 3) := by decide +kernel
theorem dX0_countOfEpochUpTo_12 : decode cX0_countOfEpochUpTo 12 = .ok (.aload_n 0, 1) := by decide +kernel
theorem dX0_countOfEpochUpTo_13 : decode cX0_countOfEpochUpTo 13 = .ok (.getfield 27, 3) := by decide +kernel
theorem dX0_countOfEpochUpTo_16 : decode cX0_countOfEpochUpTo 16 = .ok (.iload_n 3, 1) := by decide +kernel
theorem dX0_countOfEpochUpTo_17 : decode cX0_countOfEpochUpTo 17 = .ok (.iaload, 1) := by decide +kernel
theorem dX0_countOfEpochUpTo_18 : decode cX0_countOfEpochUpTo 18 = .ok (.iload_n 1, 1) := by decide +kernel
theorem dX0_countOfEpochUpTo_19 : decode cX0_countOfEpochUpTo 19 = .ok (.if_icmp .gt 6, 3) := by decide +kernel
theorem dX0_countOfEpochUpTo_22 : decode cX0_countOfEpochUpTo 22 = .ok (.iinc 2 1, 3) := by decide +kernel
theorem dX0_countOfEpochUpTo_25 : decode cX0_countOfEpochUpTo 25 = .ok (.iinc 3 1, 3) := by decide +kernel
theorem dX0_countOfEpochUpTo_28 : decode cX0_countOfEpochUpTo 28 = .ok (.goto (-24), 3) := by decide +kernel
theorem dX0_countOfEpochUpTo_31 : decode cX0_countOfEpochUpTo 31 = .ok (.iload_n 2, 1) := by decide +kernel
theorem dX0_countOfEpochUpTo_32 : decode cX0_countOfEpochUpTo 32 = .ok (.ireturn, 1) := by decide +kernel



set_option maxRecDepth 20000 in
theorem ggX0_numberAt_X0_hasFrame : GoodIn wsX0_numberAt wsX0_hasFrame := goodIn_r _ [6, 7, 8, 9, 10, 11, 12] (by decide +kernel) (by decide +kernel)
set_option maxRecDepth 20000 in
theorem gX0_numberAt_X0_hasFrame : GoodIn wsX0_numberAt (wsV RX0 37 RX0 yX0_hasFrame wsX0_hasFrame) := goodIn_app (goodIn_of _ (by decide +kernel)) ggX0_numberAt_X0_hasFrame
set_option maxRecDepth 20000 in
theorem ggX0_streamAt_X0_hasFrame : GoodIn wsX0_streamAt wsX0_hasFrame := goodIn_r _ [6, 7, 8, 9, 10, 11, 12] (by decide +kernel) (by decide +kernel)
set_option maxRecDepth 20000 in
theorem gX0_streamAt_X0_hasFrame : GoodIn wsX0_streamAt (wsV RX0 37 RX0 yX0_hasFrame wsX0_hasFrame) := goodIn_app (goodIn_of _ (by decide +kernel)) ggX0_streamAt_X0_hasFrame
set_option maxRecDepth 20000 in
theorem ggX0_sizeAt_X0_hasFrame : GoodIn wsX0_sizeAt wsX0_hasFrame := goodIn_r _ [6, 7, 8, 9, 10, 11, 12] (by decide +kernel) (by decide +kernel)
set_option maxRecDepth 20000 in
theorem gX0_sizeAt_X0_hasFrame : GoodIn wsX0_sizeAt (wsV RX0 37 RX0 yX0_hasFrame wsX0_hasFrame) := goodIn_app (goodIn_of _ (by decide +kernel)) ggX0_sizeAt_X0_hasFrame
set_option maxRecDepth 20000 in
theorem ggX0_epochAt_X0_hasFrame : GoodIn wsX0_epochAt wsX0_hasFrame := goodIn_r _ [6, 7, 8, 9, 10, 11, 12] (by decide +kernel) (by decide +kernel)
set_option maxRecDepth 20000 in
theorem gX0_epochAt_X0_hasFrame : GoodIn wsX0_epochAt (wsV RX0 37 RX0 yX0_hasFrame wsX0_hasFrame) := goodIn_app (goodIn_of _ (by decide +kernel)) ggX0_epochAt_X0_hasFrame
set_option maxRecDepth 20000 in
theorem ggX0_add_X0_isFull : GoodIn wsX0_add wsX0_isFull := goodIn_r _ [10, 2, 1, 11, 12, 13, 14, 15] (by decide +kernel) (by decide +kernel)
set_option maxRecDepth 20000 in
theorem gX0_add_X0_isFull : GoodIn wsX0_add (wsV RX0 41 RX0 yX0_isFull wsX0_isFull) := goodIn_app (goodIn_of _ (by decide +kernel)) ggX0_add_X0_isFull



theorem kX0_isFull_f30 : Cond.fieldLink RX0 30 "StreamMultiplexer$Frames" "count" "I" ∈ wsX0_isFull := List.mem_of_getElem? (i := 1) rfl
theorem uX0_isFull_X0 : ∀ w ∈ wsX00, w ∈ wsX0_isFull := fun w h => List.mem_cons_of_mem _ (List.mem_append_right _ h)
theorem kX0_isFull_f15 : Cond.fieldLink RX0 15 "StreamMultiplexer$Frames" "numbers" "[I" ∈ wsX0_isFull := List.mem_of_getElem? (i := 2) rfl
theorem kX0_hasFrame_f30 : Cond.fieldLink RX0 30 "StreamMultiplexer$Frames" "count" "I" ∈ wsX0_hasFrame := List.mem_of_getElem? (i := 1) rfl
theorem uX0_hasFrame_X0 : ∀ w ∈ wsX00, w ∈ wsX0_hasFrame := fun w h => List.mem_cons_of_mem _ (List.mem_append_right _ h)
theorem kX0_numberAt_f15 : Cond.fieldLink RX0 15 "StreamMultiplexer$Frames" "numbers" "[I" ∈ wsX0_numberAt := List.mem_of_getElem? (i := 1) rfl
theorem uX0_numberAt_X0 : ∀ w ∈ wsX00, w ∈ wsX0_numberAt := fun w h => List.mem_cons_of_mem _ (List.mem_append_right _ h)
theorem kX0_streamAt_f21 : Cond.fieldLink RX0 21 "StreamMultiplexer$Frames" "streams" "[I" ∈ wsX0_streamAt := List.mem_of_getElem? (i := 1) rfl
theorem uX0_streamAt_X0 : ∀ w ∈ wsX00, w ∈ wsX0_streamAt := fun w h => List.mem_cons_of_mem _ (List.mem_append_right _ h)
theorem kX0_sizeAt_f24 : Cond.fieldLink RX0 24 "StreamMultiplexer$Frames" "sizes" "[I" ∈ wsX0_sizeAt := List.mem_of_getElem? (i := 1) rfl
theorem uX0_sizeAt_X0 : ∀ w ∈ wsX00, w ∈ wsX0_sizeAt := fun w h => List.mem_cons_of_mem _ (List.mem_append_right _ h)
theorem kX0_epochAt_f27 : Cond.fieldLink RX0 27 "StreamMultiplexer$Frames" "epochs" "[I" ∈ wsX0_epochAt := List.mem_of_getElem? (i := 1) rfl
theorem uX0_epochAt_X0 : ∀ w ∈ wsX00, w ∈ wsX0_epochAt := fun w h => List.mem_cons_of_mem _ (List.mem_append_right _ h)
theorem kX0_add_f15 : Cond.fieldLink RX0 15 "StreamMultiplexer$Frames" "numbers" "[I" ∈ wsX0_add := List.mem_of_getElem? (i := 1) rfl
theorem uX0_add_X0 : ∀ w ∈ wsX00, w ∈ wsX0_add := fun w h => List.mem_cons_of_mem _ (List.mem_append_right _ h)
theorem kX0_add_f30 : Cond.fieldLink RX0 30 "StreamMultiplexer$Frames" "count" "I" ∈ wsX0_add := List.mem_of_getElem? (i := 2) rfl
theorem kX0_add_f21 : Cond.fieldLink RX0 21 "StreamMultiplexer$Frames" "streams" "[I" ∈ wsX0_add := List.mem_of_getElem? (i := 3) rfl
theorem kX0_add_f24 : Cond.fieldLink RX0 24 "StreamMultiplexer$Frames" "sizes" "[I" ∈ wsX0_add := List.mem_of_getElem? (i := 4) rfl
theorem kX0_add_f27 : Cond.fieldLink RX0 27 "StreamMultiplexer$Frames" "epochs" "[I" ∈ wsX0_add := List.mem_of_getElem? (i := 5) rfl
theorem kX0_removeFirst_f30 : Cond.fieldLink RX0 30 "StreamMultiplexer$Frames" "count" "I" ∈ wsX0_removeFirst := List.mem_of_getElem? (i := 1) rfl
theorem uX0_removeFirst_X0 : ∀ w ∈ wsX00, w ∈ wsX0_removeFirst := fun w h => List.mem_cons_of_mem _ (List.mem_append_right _ h)
theorem kX0_removeFirst_f15 : Cond.fieldLink RX0 15 "StreamMultiplexer$Frames" "numbers" "[I" ∈ wsX0_removeFirst := List.mem_of_getElem? (i := 2) rfl
theorem kX0_removeFirst_f21 : Cond.fieldLink RX0 21 "StreamMultiplexer$Frames" "streams" "[I" ∈ wsX0_removeFirst := List.mem_of_getElem? (i := 3) rfl
theorem kX0_removeFirst_f24 : Cond.fieldLink RX0 24 "StreamMultiplexer$Frames" "sizes" "[I" ∈ wsX0_removeFirst := List.mem_of_getElem? (i := 4) rfl
theorem kX0_removeFirst_f27 : Cond.fieldLink RX0 27 "StreamMultiplexer$Frames" "epochs" "[I" ∈ wsX0_removeFirst := List.mem_of_getElem? (i := 5) rfl
theorem kX0_sizeOfAll_f30 : Cond.fieldLink RX0 30 "StreamMultiplexer$Frames" "count" "I" ∈ wsX0_sizeOfAll := List.mem_of_getElem? (i := 1) rfl
theorem uX0_sizeOfAll_X0 : ∀ w ∈ wsX00, w ∈ wsX0_sizeOfAll := fun w h => List.mem_cons_of_mem _ (List.mem_append_right _ h)
theorem kX0_sizeOfAll_f24 : Cond.fieldLink RX0 24 "StreamMultiplexer$Frames" "sizes" "[I" ∈ wsX0_sizeOfAll := List.mem_of_getElem? (i := 2) rfl
theorem kX0_countOfEpochUpTo_f30 : Cond.fieldLink RX0 30 "StreamMultiplexer$Frames" "count" "I" ∈ wsX0_countOfEpochUpTo := List.mem_of_getElem? (i := 1) rfl
theorem uX0_countOfEpochUpTo_X0 : ∀ w ∈ wsX00, w ∈ wsX0_countOfEpochUpTo := fun w h => List.mem_cons_of_mem _ (List.mem_append_right _ h)
theorem kX0_countOfEpochUpTo_f27 : Cond.fieldLink RX0 27 "StreamMultiplexer$Frames" "epochs" "[I" ∈ wsX0_countOfEpochUpTo := List.mem_of_getElem? (i := 2) rfl
theorem kX0_copyFrom_f30 : Cond.fieldLink RX0 30 "StreamMultiplexer$Frames" "count" "I" ∈ wsX0_copyFrom := List.mem_of_getElem? (i := 1) rfl
theorem uX0_copyFrom_X0 : ∀ w ∈ wsX00, w ∈ wsX0_copyFrom := fun w h => List.mem_cons_of_mem _ (List.mem_append_right _ h)
theorem kX0_copyFrom_f15 : Cond.fieldLink RX0 15 "StreamMultiplexer$Frames" "numbers" "[I" ∈ wsX0_copyFrom := List.mem_of_getElem? (i := 2) rfl
theorem kX0_copyFrom_f21 : Cond.fieldLink RX0 21 "StreamMultiplexer$Frames" "streams" "[I" ∈ wsX0_copyFrom := List.mem_of_getElem? (i := 7) rfl
theorem kX0_copyFrom_f24 : Cond.fieldLink RX0 24 "StreamMultiplexer$Frames" "sizes" "[I" ∈ wsX0_copyFrom := List.mem_of_getElem? (i := 8) rfl
theorem kX0_copyFrom_f27 : Cond.fieldLink RX0 27 "StreamMultiplexer$Frames" "epochs" "[I" ∈ wsX0_copyFrom := List.mem_of_getElem? (i := 9) rfl
theorem min_nI {c n : Nat} (h : c ≤ n) (hn : n < 2 ^ 31) : (if nI n < nI c then nI n else nI c) = nI c := if_neg (nI_nlt h hn)
def fX0_isFull (n c : Nat) : Bool :=
  if c < n then false else true
set_option maxHeartbeats 4000000 in
set_option maxRecDepth 100000 in
theorem ctX0_isFull {l : Launch} {D : va_G} {T : Nat → ClassId} {L : List Nat} {A : Nat → Prop} {Sh : hm_S} {I : hm_I} {J : hm_J} {a n c : Nat} (hF : IsF L Sh a n) (hc : I a 4 = nI c) (hn : n < 1000) (hcn : c ≤ n) :
    Ct l yX0_isFull wsX0_isFull { frames := 0, cells := 0, slots := 0, locals := 0 } 0 0 D T A [.ref a] (hm D T L A Sh I J) (some (.int (bI (fX0_isFull n c)))) (hm D T L A Sh I J) := by
  refine Ct.ofW (cc := cX0_isFull) (maxL := 1) (ret := (some .boolean)) (by decide) rfl (Nat.le_of_ble_eq_true rfl) ?_
  intro p_ e_ s_ m_ args_ below_ meth_ c_ ls R Qq hR hQ C0 hr hlk hname hM hl
  have hx := C0.1.1
  have hb := C0.1.2.1
  have hS : va_S A s_.heap s_.heap [] := va_S.rf
  have hl : lv_has ls 1 [(0, .ref a)] := hl
  refine lv_aload_n hx hb dX0_isFull_0 rfl (lv_at hl 0 rfl) ?_
  refine mr_geti (v := nI c) (TT := TX0) (N := 5) C0 uX0_isFull_X0 hM hF.1.1 hF.1.2 rfl 4 (by decide) rfl hc kX0_isFull_f30 rfl dX0_isFull_1 ?_
  refine lv_aload_n hx hb dX0_isFull_4 rfl (lv_at hl 0 rfl) ?_
  refine mr_getr (r := a + 1) (TT := TX0) (N := 5) C0 uX0_isFull_X0 hM hF.1.1 hF.1.2 rfl 0 (by decide) rfl kX0_isFull_f15 rfl dX0_isFull_5 ?_
  refine mr_alen C0 hM hF.2.1.1 hF.2.1.2 dX0_isFull_8 ?_
  refine mr_ltN (x := c) (y := n) (tgt := 16) C0 dX0_isFull_9 (by decide) (by omega) (by omega) (fun c1 => ?_) (fun c1 => ?_)
  · skip
    refine lv_iconst (v := nI 0) hx hb dX0_isFull_16 (by decide) ?_
    refine mr_top (y := bI false) (by decide) ?_
    have eF : false = fX0_isFull n c := by unfold fX0_isFull; rw [if_pos c1]
    exact mr_zret (b := false) C0 hr hlk hQ hS (by rw [← eF]) hM (Nat.le_refl _) (Nat.le_refl _) dX0_isFull_17
  · skip
    refine lv_iconst (v := nI 1) hx hb dX0_isFull_12 (by decide) ?_
    refine lv_goto (tgt := 17) hx hb dX0_isFull_13 (by decide) ?_
    refine mr_top (y := bI true) (by decide) ?_
    have eF : true = fX0_isFull n c := by unfold fX0_isFull; rw [if_neg (Nat.not_lt.mpr c1)]
    exact mr_zret (b := true) C0 hr hlk hQ hS (by rw [← eF]) hM (Nat.le_refl _) (Nat.le_refl _) dX0_isFull_17
theorem isFull_t {n c : Nat} (h : fX0_isFull n c = true) : n ≤ c := by
  unfold fX0_isFull at h
  by_cases h1 : c < n
  · rw [if_pos h1] at h; cases h
  · omega
theorem isFull_f {n c : Nat} (h : fX0_isFull n c = false) : c < n := by
  unfold fX0_isFull at h
  by_cases h1 : c < n
  · exact h1
  · rw [if_neg h1] at h; cases h
set_option maxHeartbeats 4000000 in
set_option maxRecDepth 100000 in
theorem ctX0_hasFrame_t {l : Launch} {D : va_G} {T : Nat → ClassId} {L : List Nat} {A : Nat → Prop} {Sh : hm_S} {I : hm_I} {J : hm_J} {a n c : Nat} (hF : IsF L Sh a n) (hc : I a 4 = nI c) (hn : n < 1000) (hcn : c ≤ n) {k : Nat} (hk : k < c) :
    Ct l yX0_hasFrame wsX0_hasFrame { frames := 0, cells := 0, slots := 0, locals := 0 } 0 0 D T A [.ref a, .int (nI k)] (hm D T L A Sh I J) (some (.int (bI true))) (hm D T L A Sh I J) := by
  refine Ct.ofW (cc := cX0_hasFrame) (maxL := 2) (ret := (some .boolean)) (by decide) rfl (Nat.le_of_ble_eq_true rfl) ?_
  intro p_ e_ s_ m_ args_ below_ meth_ c_ ls R Qq hR hQ C0 hr hlk hname hM hl
  have hx := C0.1.1
  have hb := C0.1.2.1
  have hS : va_S A s_.heap s_.heap [] := va_S.rf
  have hl : lv_has ls 2 [(0, .ref a), (1, .int (nI k))] := hl
  refine lv_iload_n hx hb dX0_hasFrame_0 rfl (lv_at hl 1 rfl) ?_
  refine lv_if_lt (tgt := 16) hx hb dX0_hasFrame_1 (by decide) (fun c1 => absurd c1 (nI_pos (by omega))) (fun c1 => ?_)
  refine lv_iload_n hx hb dX0_hasFrame_4 rfl (lv_at hl 1 rfl) ?_
  refine lv_aload_n hx hb dX0_hasFrame_5 rfl (lv_at hl 0 rfl) ?_
  refine mr_geti (v := nI c) (TT := TX0) (N := 5) C0 uX0_hasFrame_X0 hM hF.1.1 hF.1.2 rfl 4 (by decide) rfl hc kX0_hasFrame_f30 rfl dX0_hasFrame_6 ?_
  refine mr_geN (x := k) (y := c) (tgt := 16) C0 dX0_hasFrame_9 (by decide) (by omega) (by omega) (fun c2 => absurd c2 (by omega)) (fun c2 => ?_)
  refine lv_iconst (v := nI 1) hx hb dX0_hasFrame_12 (by decide) ?_
  refine lv_goto (tgt := 17) hx hb dX0_hasFrame_13 (by decide) ?_
  refine mr_top (y := bI true) (by decide) ?_
  skip
  exact mr_zret (b := true) C0 hr hlk hQ hS rfl hM (Nat.le_refl _) (Nat.le_refl _) dX0_hasFrame_17
set_option maxHeartbeats 4000000 in
set_option maxRecDepth 100000 in
theorem ctX0_numberAt_t {l : Launch} {D : va_G} {T : Nat → ClassId} {L : List Nat} {A : Nat → Prop} {Sh : hm_S} {I : hm_I} {J : hm_J} {a n c : Nat} (hF : IsF L Sh a n) (hc : I a 4 = nI c) (hn : n < 1000) (hcn : c ≤ n) {k : Nat} (hk : k < c) :
    Ct l yX0_numberAt wsX0_numberAt { frames := 1, cells := 0, slots := 0, locals := 21 } 0 0 D T A [.ref a, .int (nI k)] (hm D T L A Sh I J) (some (.int (I (a + 1) k))) (hm D T L A Sh I J) := by
  refine Ct.ofW (cc := cX0_numberAt) (maxL := 2) (ret := (some .int)) (by decide) rfl (Nat.le_of_ble_eq_true rfl) ?_
  intro p_ e_ s_ m_ args_ below_ meth_ c_ ls R Qq hR hQ C0 hr hlk hname hM hl
  have hx := C0.1.1
  have hb := C0.1.2.1
  have hS : va_S A s_.heap s_.heap [] := va_S.rf
  have hl : lv_has ls 2 [(0, .ref a), (1, .int (nI k))] := hl
  refine lv_aload_n hx hb dX0_numberAt_0 rfl (lv_at hl 0 rfl) ?_
  refine lv_iload_n hx hb dX0_numberAt_1 rfl (lv_at hl 1 rfl) ?_
  refine mr_callV (As := [.int (nI k)]) C0 (ctX0_hasFrame_t (I := I) (J := J) (a := a) (k := k) hF hc (by omega) (by omega) (by omega)) (cwV 1 C0.1.2.2.2.2 gX0_numberAt_X0_hasFrame rfl rfl rfl (by decide +kernel) (by rw [hR]; exact ⟨Nat.le_of_ble_eq_true rfl, Nat.le_of_ble_eq_true rfl⟩)) hM hF.1.1 hF.1.2 rfl rfl hM hS rfl rfl rfl hl.1 (Nat.le_of_ble_eq_true rfl) dX0_numberAt_2 (by rw [hR]; exact ⟨Nat.zero_le _, Nat.zero_le _⟩) (fun H locs hM hS => ?_)
  refine mr_eqB (tgt := 17) C0 dX0_numberAt_5 (by decide) (fun c1 => absurd c1 (by decide)) (fun _ => ?_)
  refine lv_aload_n hx hb dX0_numberAt_8 rfl (lv_at hl 0 rfl) ?_
  refine mr_getr (r := a + 1) (TT := TX0) (N := 5) C0 uX0_numberAt_X0 hM hF.1.1 hF.1.2 rfl 0 (by decide) rfl kX0_numberAt_f15 rfl dX0_numberAt_9 ?_
  refine lv_iload_n hx hb dX0_numberAt_12 rfl (lv_at hl 1 rfl) ?_
  refine mr_ialdN (v := I (a + 1) k) C0 hM hF.2.1.1 hF.2.1.2 hF.2.2.2.2.2 (by omega) rfl dX0_numberAt_13 ?_
  refine lv_goto (tgt := 19) hx hb dX0_numberAt_14 (by decide) ?_
  skip
  exact mr_iret (v := I (a + 1) k) C0 hr hlk hQ hS rfl hM (Nat.le_refl _) (Nat.le_refl _) dX0_numberAt_19
set_option maxHeartbeats 4000000 in
set_option maxRecDepth 100000 in
theorem ctX0_streamAt_t {l : Launch} {D : va_G} {T : Nat → ClassId} {L : List Nat} {A : Nat → Prop} {Sh : hm_S} {I : hm_I} {J : hm_J} {a n c : Nat} (hF : IsF L Sh a n) (hc : I a 4 = nI c) (hn : n < 1000) (hcn : c ≤ n) {k : Nat} (hk : k < c) :
    Ct l yX0_streamAt wsX0_streamAt { frames := 1, cells := 0, slots := 0, locals := 21 } 0 0 D T A [.ref a, .int (nI k)] (hm D T L A Sh I J) (some (.int (I (a + 2) k))) (hm D T L A Sh I J) := by
  refine Ct.ofW (cc := cX0_streamAt) (maxL := 2) (ret := (some .int)) (by decide) rfl (Nat.le_of_ble_eq_true rfl) ?_
  intro p_ e_ s_ m_ args_ below_ meth_ c_ ls R Qq hR hQ C0 hr hlk hname hM hl
  have hx := C0.1.1
  have hb := C0.1.2.1
  have hS : va_S A s_.heap s_.heap [] := va_S.rf
  have hl : lv_has ls 2 [(0, .ref a), (1, .int (nI k))] := hl
  refine lv_aload_n hx hb dX0_streamAt_0 rfl (lv_at hl 0 rfl) ?_
  refine lv_iload_n hx hb dX0_streamAt_1 rfl (lv_at hl 1 rfl) ?_
  refine mr_callV (As := [.int (nI k)]) C0 (ctX0_hasFrame_t (I := I) (J := J) (a := a) (k := k) hF hc (by omega) (by omega) (by omega)) (cwV 1 C0.1.2.2.2.2 gX0_streamAt_X0_hasFrame rfl rfl rfl (by decide +kernel) (by rw [hR]; exact ⟨Nat.le_of_ble_eq_true rfl, Nat.le_of_ble_eq_true rfl⟩)) hM hF.1.1 hF.1.2 rfl rfl hM hS rfl rfl rfl hl.1 (Nat.le_of_ble_eq_true rfl) dX0_streamAt_2 (by rw [hR]; exact ⟨Nat.zero_le _, Nat.zero_le _⟩) (fun H locs hM hS => ?_)
  refine mr_eqB (tgt := 17) C0 dX0_streamAt_5 (by decide) (fun c1 => absurd c1 (by decide)) (fun _ => ?_)
  refine lv_aload_n hx hb dX0_streamAt_8 rfl (lv_at hl 0 rfl) ?_
  refine mr_getr (r := a + 2) (TT := TX0) (N := 5) C0 uX0_streamAt_X0 hM hF.1.1 hF.1.2 rfl 1 (by decide) rfl kX0_streamAt_f21 rfl dX0_streamAt_9 ?_
  refine lv_iload_n hx hb dX0_streamAt_12 rfl (lv_at hl 1 rfl) ?_
  refine mr_ialdN (v := I (a + 2) k) C0 hM hF.2.2.1.1 hF.2.2.1.2 hF.2.2.2.2.2 (by omega) rfl dX0_streamAt_13 ?_
  refine lv_goto (tgt := 19) hx hb dX0_streamAt_14 (by decide) ?_
  skip
  exact mr_iret (v := I (a + 2) k) C0 hr hlk hQ hS rfl hM (Nat.le_refl _) (Nat.le_refl _) dX0_streamAt_19
set_option maxHeartbeats 4000000 in
set_option maxRecDepth 100000 in
theorem ctX0_sizeAt_t {l : Launch} {D : va_G} {T : Nat → ClassId} {L : List Nat} {A : Nat → Prop} {Sh : hm_S} {I : hm_I} {J : hm_J} {a n c : Nat} (hF : IsF L Sh a n) (hc : I a 4 = nI c) (hn : n < 1000) (hcn : c ≤ n) {k : Nat} (hk : k < c) :
    Ct l yX0_sizeAt wsX0_sizeAt { frames := 1, cells := 0, slots := 0, locals := 21 } 0 0 D T A [.ref a, .int (nI k)] (hm D T L A Sh I J) (some (.int (I (a + 3) k))) (hm D T L A Sh I J) := by
  refine Ct.ofW (cc := cX0_sizeAt) (maxL := 2) (ret := (some .int)) (by decide) rfl (Nat.le_of_ble_eq_true rfl) ?_
  intro p_ e_ s_ m_ args_ below_ meth_ c_ ls R Qq hR hQ C0 hr hlk hname hM hl
  have hx := C0.1.1
  have hb := C0.1.2.1
  have hS : va_S A s_.heap s_.heap [] := va_S.rf
  have hl : lv_has ls 2 [(0, .ref a), (1, .int (nI k))] := hl
  refine lv_aload_n hx hb dX0_sizeAt_0 rfl (lv_at hl 0 rfl) ?_
  refine lv_iload_n hx hb dX0_sizeAt_1 rfl (lv_at hl 1 rfl) ?_
  refine mr_callV (As := [.int (nI k)]) C0 (ctX0_hasFrame_t (I := I) (J := J) (a := a) (k := k) hF hc (by omega) (by omega) (by omega)) (cwV 1 C0.1.2.2.2.2 gX0_sizeAt_X0_hasFrame rfl rfl rfl (by decide +kernel) (by rw [hR]; exact ⟨Nat.le_of_ble_eq_true rfl, Nat.le_of_ble_eq_true rfl⟩)) hM hF.1.1 hF.1.2 rfl rfl hM hS rfl rfl rfl hl.1 (Nat.le_of_ble_eq_true rfl) dX0_sizeAt_2 (by rw [hR]; exact ⟨Nat.zero_le _, Nat.zero_le _⟩) (fun H locs hM hS => ?_)
  refine mr_eqB (tgt := 17) C0 dX0_sizeAt_5 (by decide) (fun c1 => absurd c1 (by decide)) (fun _ => ?_)
  refine lv_aload_n hx hb dX0_sizeAt_8 rfl (lv_at hl 0 rfl) ?_
  refine mr_getr (r := a + 3) (TT := TX0) (N := 5) C0 uX0_sizeAt_X0 hM hF.1.1 hF.1.2 rfl 2 (by decide) rfl kX0_sizeAt_f24 rfl dX0_sizeAt_9 ?_
  refine lv_iload_n hx hb dX0_sizeAt_12 rfl (lv_at hl 1 rfl) ?_
  refine mr_ialdN (v := I (a + 3) k) C0 hM hF.2.2.2.1.1 hF.2.2.2.1.2 hF.2.2.2.2.2 (by omega) rfl dX0_sizeAt_13 ?_
  refine lv_goto (tgt := 19) hx hb dX0_sizeAt_14 (by decide) ?_
  skip
  exact mr_iret (v := I (a + 3) k) C0 hr hlk hQ hS rfl hM (Nat.le_refl _) (Nat.le_refl _) dX0_sizeAt_19
set_option maxHeartbeats 4000000 in
set_option maxRecDepth 100000 in
theorem ctX0_epochAt_t {l : Launch} {D : va_G} {T : Nat → ClassId} {L : List Nat} {A : Nat → Prop} {Sh : hm_S} {I : hm_I} {J : hm_J} {a n c : Nat} (hF : IsF L Sh a n) (hc : I a 4 = nI c) (hn : n < 1000) (hcn : c ≤ n) {k : Nat} (hk : k < c) :
    Ct l yX0_epochAt wsX0_epochAt { frames := 1, cells := 0, slots := 0, locals := 21 } 0 0 D T A [.ref a, .int (nI k)] (hm D T L A Sh I J) (some (.int (I (a + 4) k))) (hm D T L A Sh I J) := by
  refine Ct.ofW (cc := cX0_epochAt) (maxL := 2) (ret := (some .int)) (by decide) rfl (Nat.le_of_ble_eq_true rfl) ?_
  intro p_ e_ s_ m_ args_ below_ meth_ c_ ls R Qq hR hQ C0 hr hlk hname hM hl
  have hx := C0.1.1
  have hb := C0.1.2.1
  have hS : va_S A s_.heap s_.heap [] := va_S.rf
  have hl : lv_has ls 2 [(0, .ref a), (1, .int (nI k))] := hl
  refine lv_aload_n hx hb dX0_epochAt_0 rfl (lv_at hl 0 rfl) ?_
  refine lv_iload_n hx hb dX0_epochAt_1 rfl (lv_at hl 1 rfl) ?_
  refine mr_callV (As := [.int (nI k)]) C0 (ctX0_hasFrame_t (I := I) (J := J) (a := a) (k := k) hF hc (by omega) (by omega) (by omega)) (cwV 1 C0.1.2.2.2.2 gX0_epochAt_X0_hasFrame rfl rfl rfl (by decide +kernel) (by rw [hR]; exact ⟨Nat.le_of_ble_eq_true rfl, Nat.le_of_ble_eq_true rfl⟩)) hM hF.1.1 hF.1.2 rfl rfl hM hS rfl rfl rfl hl.1 (Nat.le_of_ble_eq_true rfl) dX0_epochAt_2 (by rw [hR]; exact ⟨Nat.zero_le _, Nat.zero_le _⟩) (fun H locs hM hS => ?_)
  refine mr_eqB (tgt := 17) C0 dX0_epochAt_5 (by decide) (fun c1 => absurd c1 (by decide)) (fun _ => ?_)
  refine lv_aload_n hx hb dX0_epochAt_8 rfl (lv_at hl 0 rfl) ?_
  refine mr_getr (r := a + 4) (TT := TX0) (N := 5) C0 uX0_epochAt_X0 hM hF.1.1 hF.1.2 rfl 3 (by decide) rfl kX0_epochAt_f27 rfl dX0_epochAt_9 ?_
  refine lv_iload_n hx hb dX0_epochAt_12 rfl (lv_at hl 1 rfl) ?_
  refine mr_ialdN (v := I (a + 4) k) C0 hM hF.2.2.2.2.1.1 hF.2.2.2.2.1.2 hF.2.2.2.2.2 (by omega) rfl dX0_epochAt_13 ?_
  refine lv_goto (tgt := 19) hx hb dX0_epochAt_14 (by decide) ?_
  skip
  exact mr_iret (v := I (a + 4) k) C0 hr hlk hQ hS rfl hM (Nat.le_refl _) (Nat.le_refl _) dX0_epochAt_19
def fX0_add_t (I : hm_I) (a c : Nat) (v s0 z e0 : Int32) : hm_I :=
  hm_put (hm_put (hm_put (hm_put (hm_put I (a + 1) c v) (a + 2) c s0) (a + 3) c z) (a + 4) c e0) a 4 (nI (c + 1))
set_option maxHeartbeats 4000000 in
set_option maxRecDepth 100000 in
theorem ctX0_add_t {l : Launch} {D : va_G} {T : Nat → ClassId} {L : List Nat} {A : Nat → Prop} {Sh : hm_S} {I : hm_I} {J : hm_J} {a n c : Nat} (hF : IsF L Sh a n) (hc : I a 4 = nI c) (hn : n < 1000) (hcn : c ≤ n) (hcl : c < n) {v s0 z e0 : Int32} :
    Ct l yX0_add wsX0_add { frames := 1, cells := 0, slots := 0, locals := 20 } 0 0 D T A [.ref a, .int v, .int s0, .int z, .int e0] (hm D T L A Sh I J) none (hm D T L A Sh (fX0_add_t I a c v s0 z e0) J) := by
  refine Ct.ofW (cc := cX0_add) (maxL := 5) (ret := none) (by decide) rfl (Nat.le_of_ble_eq_true rfl) ?_
  intro p_ e_ s_ m_ args_ below_ meth_ c_ ls R Qq hR hQ C0 hr hlk hname hM hl
  have hx := C0.1.1
  have hb := C0.1.2.1
  have hS : va_S A s_.heap s_.heap [] := va_S.rf
  have hl : lv_has ls 5 [(0, .ref a), (1, .int v), (2, .int s0), (3, .int z), (4, .int e0)] := hl
  refine lv_aload_n hx hb dX0_add_0 rfl (lv_at hl 0 rfl) ?_
  refine mr_callV (As := []) C0 (ctX0_isFull (I := I) (J := J) (a := a) hF hc (by omega) (by omega)) (cwV 0 C0.1.2.2.2.2 gX0_add_X0_isFull rfl rfl rfl (by decide +kernel) (by rw [hR]; exact ⟨Nat.le_of_ble_eq_true rfl, Nat.le_of_ble_eq_true rfl⟩)) hM hF.1.1 hF.1.2 rfl rfl hM hS rfl rfl rfl hl.1 (Nat.le_of_ble_eq_true rfl) dX0_add_1 (by rw [hR]; exact ⟨Nat.zero_le _, Nat.zero_le _⟩) (fun H locs hM hS => ?_)
  refine mr_eqB (tgt := 8) C0 dX0_add_4 (by decide) (fun c1 => ?_) (fun c1 => absurd c1 (by unfold fX0_isFull; rw [if_pos (by omega)]; decide))
  refine lv_aload_n hx hb dX0_add_8 rfl (lv_at hl 0 rfl) ?_
  refine mr_getr (r := a + 1) (TT := TX0) (N := 5) C0 uX0_add_X0 hM hF.1.1 hF.1.2 rfl 0 (by decide) rfl kX0_add_f15 rfl dX0_add_9 ?_
  refine lv_aload_n hx hb dX0_add_12 rfl (lv_at hl 0 rfl) ?_
  refine mr_geti (v := nI c) (TT := TX0) (N := 5) C0 uX0_add_X0 hM hF.1.1 hF.1.2 rfl 4 (by decide) rfl hc kX0_add_f30 rfl dX0_add_13 ?_
  refine lv_iload_n hx hb dX0_add_16 rfl (lv_at hl 1 rfl) ?_
  refine mr_iastN C0 hM hS hF.2.1.1 hF.2.1.2 hF.2.2.2.2.2 (by omega) dX0_add_17 (fun H locs hM hS => ?_)
  refine lv_aload_n hx hb dX0_add_18 rfl (lv_at hl 0 rfl) ?_
  refine mr_getr (r := a + 2) (TT := TX0) (N := 5) C0 uX0_add_X0 hM hF.1.1 hF.1.2 rfl 1 (by decide) rfl kX0_add_f21 rfl dX0_add_19 ?_
  refine lv_aload_n hx hb dX0_add_22 rfl (lv_at hl 0 rfl) ?_
  refine mr_geti (v := nI c) (TT := TX0) (N := 5) C0 uX0_add_X0 hM hF.1.1 hF.1.2 rfl 4 (by decide) rfl ((hm_put_get (by omega)).trans hc) kX0_add_f30 rfl dX0_add_23 ?_
  refine lv_iload_n hx hb dX0_add_26 rfl (lv_at hl 2 rfl) ?_
  refine mr_iastN C0 hM hS hF.2.2.1.1 hF.2.2.1.2 hF.2.2.2.2.2 (by omega) dX0_add_27 (fun H locs hM hS => ?_)
  refine lv_aload_n hx hb dX0_add_28 rfl (lv_at hl 0 rfl) ?_
  refine mr_getr (r := a + 3) (TT := TX0) (N := 5) C0 uX0_add_X0 hM hF.1.1 hF.1.2 rfl 2 (by decide) rfl kX0_add_f24 rfl dX0_add_29 ?_
  refine lv_aload_n hx hb dX0_add_32 rfl (lv_at hl 0 rfl) ?_
  refine mr_geti (v := nI c) (TT := TX0) (N := 5) C0 uX0_add_X0 hM hF.1.1 hF.1.2 rfl 4 (by decide) rfl ((hm_put_get (by omega)).trans ((hm_put_get (by omega)).trans hc)) kX0_add_f30 rfl dX0_add_33 ?_
  refine lv_iload_n hx hb dX0_add_36 rfl (lv_at hl 3 rfl) ?_
  refine mr_iastN C0 hM hS hF.2.2.2.1.1 hF.2.2.2.1.2 hF.2.2.2.2.2 (by omega) dX0_add_37 (fun H locs hM hS => ?_)
  refine lv_aload_n hx hb dX0_add_38 rfl (lv_at hl 0 rfl) ?_
  refine mr_getr (r := a + 4) (TT := TX0) (N := 5) C0 uX0_add_X0 hM hF.1.1 hF.1.2 rfl 3 (by decide) rfl kX0_add_f27 rfl dX0_add_39 ?_
  refine lv_aload_n hx hb dX0_add_42 rfl (lv_at hl 0 rfl) ?_
  refine mr_geti (v := nI c) (TT := TX0) (N := 5) C0 uX0_add_X0 hM hF.1.1 hF.1.2 rfl 4 (by decide) rfl ((hm_put_get (by omega)).trans ((hm_put_get (by omega)).trans ((hm_put_get (by omega)).trans hc))) kX0_add_f30 rfl dX0_add_43 ?_
  refine lv_iload hx hb dX0_add_46 (lv_at hl 4 rfl) ?_
  refine mr_iastN C0 hM hS hF.2.2.2.2.1.1 hF.2.2.2.2.1.2 hF.2.2.2.2.2 (by omega) dX0_add_48 (fun H locs hM hS => ?_)
  refine lv_aload_n hx hb dX0_add_49 rfl (lv_at hl 0 rfl) ?_
  refine lv_dup hx hb dX0_add_50 rfl ?_
  refine mr_geti (v := nI c) (TT := TX0) (N := 5) C0 uX0_add_X0 hM hF.1.1 hF.1.2 rfl 4 (by decide) rfl ((hm_put_get (by omega)).trans ((hm_put_get (by omega)).trans ((hm_put_get (by omega)).trans ((hm_put_get (by omega)).trans hc)))) kX0_add_f30 rfl dX0_add_51 ?_
  refine lv_iconst (v := nI 1) hx hb dX0_add_54 (by decide) ?_
  refine mr_iaddN (z := c + 1) C0 rfl dX0_add_55 ?_
  refine mr_puti (TT := TX0) (N := 5) C0 uX0_add_X0 tyX0 tyX0_ok nmX0 hM hS hF.1.1 hF.1.2 rfl 4 (by decide) rfl kX0_add_f30 rfl rfl (by decide +kernel) dX0_add_56 (fun H locs hM hS => ?_)
  have eF : hm_put (hm_put (hm_put (hm_put (hm_put I (a + 1) c v) (a + 2) c s0) (a + 3) c z) (a + 4) c e0) a 4 (nI (c + 1)) = fX0_add_t I a c v s0 z e0 := rfl
  exact mr_vret C0 hr hlk hQ hS rfl (by rw [← eF]; exact hM) (Nat.le_refl _) (Nat.le_refl _) dX0_add_59
theorem fX0_add_ne {I : hm_I} {a c : Nat} {v s0 z e0 : Int32} {b : Nat} (h : b < a ∨ a + 5 ≤ b) : fX0_add_t I a c v s0 z e0 b = I b := by
  unfold fX0_add_t
  rw [hm_put_ne _ _ _ _ (by omega), hm_put_ne _ _ _ _ (by omega), hm_put_ne _ _ _ _ (by omega), hm_put_ne _ _ _ _ (by omega), hm_put_ne _ _ _ _ (by omega)]
def fX0_removeFirst_t (I : hm_I) (a c : Nat) : hm_I :=
  hm_put (lp (c - 1) (fun i10 x10 => hm_put (hm_put (hm_put (hm_put x10 (a + 1) i10 (x10 (a + 1) (i10 + 1))) (a + 2) i10 (x10 (a + 2) (i10 + 1))) (a + 3) i10 (x10 (a + 3) (i10 + 1))) (a + 4) i10 (x10 (a + 4) (i10 + 1))) I) a 4 (nI (c - 1))
set_option maxHeartbeats 4000000 in
set_option maxRecDepth 100000 in
theorem ctX0_removeFirst_t {l : Launch} {D : va_G} {T : Nat → ClassId} {L : List Nat} {A : Nat → Prop} {Sh : hm_S} {I : hm_I} {J : hm_J} {a n c : Nat} (hF : IsF L Sh a n) (hc : I a 4 = nI c) (hn : n < 1000) (hcn : c ≤ n) (hc0 : 0 < c) :
    Ct l yX0_removeFirst wsX0_removeFirst { frames := 0, cells := 0, slots := 0, locals := 0 } 0 0 D T A [.ref a] (hm D T L A Sh I J) none (hm D T L A Sh (fX0_removeFirst_t I a c) J) := by
  refine Ct.ofW (cc := cX0_removeFirst) (maxL := 2) (ret := none) (by decide) rfl (Nat.le_of_ble_eq_true rfl) ?_
  intro p_ e_ s_ m_ args_ below_ meth_ c_ ls R Qq hR hQ C0 hr hlk hname hM hl
  have hx := C0.1.1
  have hb := C0.1.2.1
  have hS : va_S A s_.heap s_.heap [] := va_S.rf
  have hl : lv_has ls 2 [(0, .ref a)] := hl
  refine lv_aload_n hx hb dX0_removeFirst_0 rfl (lv_at hl 0 rfl) ?_
  refine mr_geti (v := nI c) (TT := TX0) (N := 5) C0 uX0_removeFirst_X0 hM hF.1.1 hF.1.2 rfl 4 (by decide) rfl hc kX0_removeFirst_f30 rfl dX0_removeFirst_1 ?_
  refine mr_ne0N (x := c) (tgt := 8) C0 dX0_removeFirst_4 (by decide) (by omega) (fun c1 => ?_) (fun c1 => absurd c1 (by omega))
  refine lv_iconst (v := nI 1) hx hb dX0_removeFirst_8 (by decide) ?_
  refine lv_istore_n (lv' := [(1, .int (nI 1)), (0, .ref a)]) hx hb dX0_removeFirst_9 rfl hl (by decide) rfl (fun ls hl => ?_)
  refine lp_loop (σ := hm_I) (fun i10 x10 => ∀ (H : Heap) (locs : List Loc) (ls : Array Slot), hm D T L A Sh x10 J H → va_S A s_.heap H locs → lv_has ls 2 [(0, .ref a), (1, .int (nI (i10 + 1)))] → W p_ l e_ R s_ m_ args_ below_ meth_ c_ H locs 0 0 Qq (F0 m_ 10 ls [])) (c - 1) (fun i10 x10 => hm_put (hm_put (hm_put (hm_put x10 (a + 1) i10 (x10 (a + 1) (i10 + 1))) (a + 2) i10 (x10 (a + 2) (i10 + 1))) (a + 3) i10 (x10 (a + 3) (i10 + 1))) (a + 4) i10 (x10 (a + 4) (i10 + 1))) I (fun (i10 : Nat) (x10 : hm_I) => x10 a 4 = nI c) hc (fun i x _ hv => (hm_put_get (by omega)).trans ((hm_put_get (by omega)).trans ((hm_put_get (by omega)).trans ((hm_put_get (by omega)).trans hv)))) (fun i10 x10 hi2 hv3 k4 H locs ls hM hS hl => ?_) (fun hv3 H locs ls hM hS hl => ?_) _ _ _ hM hS (lv_sub hl [1, 0] rfl)
  · have stp5 : ∀ yy_ : hm_I, yy_ = (hm_put (hm_put (hm_put (hm_put x10 (a + 1) i10 (x10 (a + 1) (i10 + 1))) (a + 2) i10 (x10 (a + 2) (i10 + 1))) (a + 3) i10 (x10 (a + 3) (i10 + 1))) (a + 4) i10 (x10 (a + 4) (i10 + 1))) → ∀ (H : Heap) (locs : List Loc) (ls : Array Slot), hm D T L A Sh yy_ J H → va_S A s_.heap H locs → lv_has ls 2 [(0, .ref a), (1, .int (nI ((i10 + 1) + 1)))] → W p_ l e_ R s_ m_ args_ below_ meth_ c_ H locs 0 0 Qq (F0 m_ 10 ls []) := fun yy_ ey => by rw [ey]; exact k4
    refine lv_iload_n hx hb dX0_removeFirst_10 rfl (lv_at hl 1 rfl) ?_
    refine lv_aload_n hx hb dX0_removeFirst_11 rfl (lv_at hl 0 rfl) ?_
    refine mr_geti (v := nI c) (TT := TX0) (N := 5) C0 uX0_removeFirst_X0 hM hF.1.1 hF.1.2 rfl 4 (by decide) rfl hv3 kX0_removeFirst_f30 rfl dX0_removeFirst_12 ?_
    refine mr_geN (x := i10 + 1) (y := c) (tgt := 80) C0 dX0_removeFirst_15 (by decide) (by omega) (by omega) (fun c6 => absurd c6 (by omega)) (fun c6 => ?_)
    refine lv_aload_n hx hb dX0_removeFirst_18 rfl (lv_at hl 0 rfl) ?_
    refine mr_getr (r := a + 1) (TT := TX0) (N := 5) C0 uX0_removeFirst_X0 hM hF.1.1 hF.1.2 rfl 0 (by decide) rfl kX0_removeFirst_f15 rfl dX0_removeFirst_19 ?_
    refine lv_iload_n hx hb dX0_removeFirst_22 rfl (lv_at hl 1 rfl) ?_
    refine lv_iconst (v := nI 1) hx hb dX0_removeFirst_23 (by decide) ?_
    refine mr_isubN (z := i10) C0 (by omega) dX0_removeFirst_24 ?_
    refine lv_aload_n hx hb dX0_removeFirst_25 rfl (lv_at hl 0 rfl) ?_
    refine mr_getr (r := a + 1) (TT := TX0) (N := 5) C0 uX0_removeFirst_X0 hM hF.1.1 hF.1.2 rfl 0 (by decide) rfl kX0_removeFirst_f15 rfl dX0_removeFirst_26 ?_
    refine lv_iload_n hx hb dX0_removeFirst_29 rfl (lv_at hl 1 rfl) ?_
    refine mr_ialdN (v := x10 (a + 1) (i10 + 1)) C0 hM hF.2.1.1 hF.2.1.2 hF.2.2.2.2.2 (by omega) rfl dX0_removeFirst_30 ?_
    refine mr_iastN C0 hM hS hF.2.1.1 hF.2.1.2 hF.2.2.2.2.2 (by omega) dX0_removeFirst_31 (fun H locs hM hS => ?_)
    refine lv_aload_n hx hb dX0_removeFirst_32 rfl (lv_at hl 0 rfl) ?_
    refine mr_getr (r := a + 2) (TT := TX0) (N := 5) C0 uX0_removeFirst_X0 hM hF.1.1 hF.1.2 rfl 1 (by decide) rfl kX0_removeFirst_f21 rfl dX0_removeFirst_33 ?_
    refine lv_iload_n hx hb dX0_removeFirst_36 rfl (lv_at hl 1 rfl) ?_
    refine lv_iconst (v := nI 1) hx hb dX0_removeFirst_37 (by decide) ?_
    refine mr_isubN (z := i10) C0 (by omega) dX0_removeFirst_38 ?_
    refine lv_aload_n hx hb dX0_removeFirst_39 rfl (lv_at hl 0 rfl) ?_
    refine mr_getr (r := a + 2) (TT := TX0) (N := 5) C0 uX0_removeFirst_X0 hM hF.1.1 hF.1.2 rfl 1 (by decide) rfl kX0_removeFirst_f21 rfl dX0_removeFirst_40 ?_
    refine lv_iload_n hx hb dX0_removeFirst_43 rfl (lv_at hl 1 rfl) ?_
    refine mr_ialdN (v := x10 (a + 2) (i10 + 1)) C0 hM hF.2.2.1.1 hF.2.2.1.2 hF.2.2.2.2.2 (by omega) (hm_put_get (by omega)) dX0_removeFirst_44 ?_
    refine mr_iastN C0 hM hS hF.2.2.1.1 hF.2.2.1.2 hF.2.2.2.2.2 (by omega) dX0_removeFirst_45 (fun H locs hM hS => ?_)
    refine lv_aload_n hx hb dX0_removeFirst_46 rfl (lv_at hl 0 rfl) ?_
    refine mr_getr (r := a + 3) (TT := TX0) (N := 5) C0 uX0_removeFirst_X0 hM hF.1.1 hF.1.2 rfl 2 (by decide) rfl kX0_removeFirst_f24 rfl dX0_removeFirst_47 ?_
    refine lv_iload_n hx hb dX0_removeFirst_50 rfl (lv_at hl 1 rfl) ?_
    refine lv_iconst (v := nI 1) hx hb dX0_removeFirst_51 (by decide) ?_
    refine mr_isubN (z := i10) C0 (by omega) dX0_removeFirst_52 ?_
    refine lv_aload_n hx hb dX0_removeFirst_53 rfl (lv_at hl 0 rfl) ?_
    refine mr_getr (r := a + 3) (TT := TX0) (N := 5) C0 uX0_removeFirst_X0 hM hF.1.1 hF.1.2 rfl 2 (by decide) rfl kX0_removeFirst_f24 rfl dX0_removeFirst_54 ?_
    refine lv_iload_n hx hb dX0_removeFirst_57 rfl (lv_at hl 1 rfl) ?_
    refine mr_ialdN (v := x10 (a + 3) (i10 + 1)) C0 hM hF.2.2.2.1.1 hF.2.2.2.1.2 hF.2.2.2.2.2 (by omega) ((hm_put_get (by omega)).trans (hm_put_get (by omega))) dX0_removeFirst_58 ?_
    refine mr_iastN C0 hM hS hF.2.2.2.1.1 hF.2.2.2.1.2 hF.2.2.2.2.2 (by omega) dX0_removeFirst_59 (fun H locs hM hS => ?_)
    refine lv_aload_n hx hb dX0_removeFirst_60 rfl (lv_at hl 0 rfl) ?_
    refine mr_getr (r := a + 4) (TT := TX0) (N := 5) C0 uX0_removeFirst_X0 hM hF.1.1 hF.1.2 rfl 3 (by decide) rfl kX0_removeFirst_f27 rfl dX0_removeFirst_61 ?_
    refine lv_iload_n hx hb dX0_removeFirst_64 rfl (lv_at hl 1 rfl) ?_
    refine lv_iconst (v := nI 1) hx hb dX0_removeFirst_65 (by decide) ?_
    refine mr_isubN (z := i10) C0 (by omega) dX0_removeFirst_66 ?_
    refine lv_aload_n hx hb dX0_removeFirst_67 rfl (lv_at hl 0 rfl) ?_
    refine mr_getr (r := a + 4) (TT := TX0) (N := 5) C0 uX0_removeFirst_X0 hM hF.1.1 hF.1.2 rfl 3 (by decide) rfl kX0_removeFirst_f27 rfl dX0_removeFirst_68 ?_
    refine lv_iload_n hx hb dX0_removeFirst_71 rfl (lv_at hl 1 rfl) ?_
    refine mr_ialdN (v := x10 (a + 4) (i10 + 1)) C0 hM hF.2.2.2.2.1.1 hF.2.2.2.2.1.2 hF.2.2.2.2.2 (by omega) ((hm_put_get (by omega)).trans ((hm_put_get (by omega)).trans (hm_put_get (by omega)))) dX0_removeFirst_72 ?_
    refine mr_iastN C0 hM hS hF.2.2.2.2.1.1 hF.2.2.2.2.1.2 hF.2.2.2.2.2 (by omega) dX0_removeFirst_73 (fun H locs hM hS => ?_)
    refine lv_iinc (v := nI (i10 + 1 + 1)) (lv' := [(1, .int (nI (i10 + 1 + 1))), (0, .ref a)]) hx hb dX0_removeFirst_74 hl (k := 1) rfl (nI_1 _) (by decide) rfl (fun ls hl => ?_)
    refine lv_goto (tgt := 10) hx hb dX0_removeFirst_77 (by decide) ?_
    exact stp5 (hm_put (hm_put (hm_put (hm_put x10 (a + 1) i10 (x10 (a + 1) (i10 + 1))) (a + 2) i10 (x10 (a + 2) (i10 + 1))) (a + 3) i10 (x10 (a + 3) (i10 + 1))) (a + 4) i10 (x10 (a + 4) (i10 + 1))) rfl H locs ls hM hS (lv_sub hl [1, 0] rfl)
  · skip
    refine lv_iload_n hx hb dX0_removeFirst_10 rfl (lv_at hl 1 rfl) ?_
    refine lv_aload_n hx hb dX0_removeFirst_11 rfl (lv_at hl 0 rfl) ?_
    refine mr_geti (v := nI c) (TT := TX0) (N := 5) C0 uX0_removeFirst_X0 hM hF.1.1 hF.1.2 rfl 4 (by decide) rfl hv3 kX0_removeFirst_f30 rfl dX0_removeFirst_12 ?_
    refine mr_geN (x := (c - 1) + 1) (y := c) (tgt := 80) C0 dX0_removeFirst_15 (by decide) (by omega) (by omega) (fun c7 => ?_) (fun c7 => absurd c7 (by omega))
    refine lv_aload_n hx hb dX0_removeFirst_80 rfl (lv_at hl 0 rfl) ?_
    refine lv_dup hx hb dX0_removeFirst_81 rfl ?_
    refine mr_geti (v := nI c) (TT := TX0) (N := 5) C0 uX0_removeFirst_X0 hM hF.1.1 hF.1.2 rfl 4 (by decide) rfl hv3 kX0_removeFirst_f30 rfl dX0_removeFirst_82 ?_
    refine lv_iconst (v := nI 1) hx hb dX0_removeFirst_85 (by decide) ?_
    refine mr_isubN (z := (c - 1)) C0 (by omega) dX0_removeFirst_86 ?_
    refine mr_puti (TT := TX0) (N := 5) C0 uX0_removeFirst_X0 tyX0 tyX0_ok nmX0 hM hS hF.1.1 hF.1.2 rfl 4 (by decide) rfl kX0_removeFirst_f30 rfl rfl (by decide +kernel) dX0_removeFirst_87 (fun H locs hM hS => ?_)
    have eF : hm_put (lp (c - 1) (fun i10 x10 => hm_put (hm_put (hm_put (hm_put x10 (a + 1) i10 (x10 (a + 1) (i10 + 1))) (a + 2) i10 (x10 (a + 2) (i10 + 1))) (a + 3) i10 (x10 (a + 3) (i10 + 1))) (a + 4) i10 (x10 (a + 4) (i10 + 1))) I) a 4 (nI (c - 1)) = fX0_removeFirst_t I a c := rfl
    exact mr_vret C0 hr hlk hQ hS rfl (by rw [← eF]; exact hM) (Nat.le_refl _) (Nat.le_refl _) dX0_removeFirst_90
theorem fX0_removeFirst_ne {I : hm_I} {a c b : Nat} (h : b < a ∨ a + 5 ≤ b) : fX0_removeFirst_t I a c b = I b := by
  unfold fX0_removeFirst_t
  rw [hm_put_ne _ _ _ _ (by omega)]
  exact lp_inv (fun _ (x : hm_I) => x b = I b) rfl (fun i x _ hx => by rw [hm_put_ne _ _ _ _ (by omega), hm_put_ne _ _ _ _ (by omega), hm_put_ne _ _ _ _ (by omega), hm_put_ne _ _ _ _ (by omega)]; exact hx)
theorem fX0_removeFirst_cnt {I : hm_I} {a c : Nat} : fX0_removeFirst_t I a c a 4 = nI (c - 1) := by
  unfold fX0_removeFirst_t
  exact hm_put_at _ _ _ _
def fX0_sizeOfAll (I : hm_I) (a c : Nat) : Int32 :=
  (lp c (fun i4 x4 => x4 + (I (a + 3) i4)) (nI 0))
set_option maxHeartbeats 4000000 in
set_option maxRecDepth 100000 in
theorem ctX0_sizeOfAll {l : Launch} {D : va_G} {T : Nat → ClassId} {L : List Nat} {A : Nat → Prop} {Sh : hm_S} {I : hm_I} {J : hm_J} {a n c : Nat} (hF : IsF L Sh a n) (hc : I a 4 = nI c) (hn : n < 1000) (hcn : c ≤ n) :
    Ct l yX0_sizeOfAll wsX0_sizeOfAll { frames := 0, cells := 0, slots := 0, locals := 0 } 0 0 D T A [.ref a] (hm D T L A Sh I J) (some (.int (fX0_sizeOfAll I a c))) (hm D T L A Sh I J) := by
  refine Ct.ofW (cc := cX0_sizeOfAll) (maxL := 3) (ret := (some .int)) (by decide) rfl (Nat.le_of_ble_eq_true rfl) ?_
  intro p_ e_ s_ m_ args_ below_ meth_ c_ ls R Qq hR hQ C0 hr hlk hname hM hl
  have hx := C0.1.1
  have hb := C0.1.2.1
  have hS : va_S A s_.heap s_.heap [] := va_S.rf
  have hl : lv_has ls 3 [(0, .ref a)] := hl
  refine lv_iconst (v := nI 0) hx hb dX0_sizeOfAll_0 (by decide) ?_
  refine lv_istore_n (lv' := [(1, .int (nI 0)), (0, .ref a)]) hx hb dX0_sizeOfAll_1 rfl hl (by decide) rfl (fun ls hl => ?_)
  refine lv_iconst (v := nI 0) hx hb dX0_sizeOfAll_2 (by decide) ?_
  refine lv_istore_n (lv' := [(2, .int (nI 0)), (1, .int (nI 0)), (0, .ref a)]) hx hb dX0_sizeOfAll_3 rfl hl (by decide) rfl (fun ls hl => ?_)
  refine lp_loop (σ := Int32) (fun i4 x4 => ∀ (H : Heap) (locs : List Loc) (ls : Array Slot), hm D T L A Sh I J H → va_S A s_.heap H locs → lv_has ls 3 [(0, .ref a), (1, .int x4), (2, .int (nI i4))] → W p_ l e_ R s_ m_ args_ below_ meth_ c_ H locs 0 0 Qq (F0 m_ 4 ls [])) c (fun i4 x4 => x4 + (I (a + 3) i4)) (nI 0) (fun _ _ => True) trivial (fun _ _ _ _ => trivial) (fun i4 x4 hi1 hv2 k3 H locs ls hM hS hl => ?_) (fun hv2 H locs ls hM hS hl => ?_) _ _ _ hM hS (lv_sub hl [2, 1, 0] rfl)
  · have stp4 : ∀ yy_ : Int32, yy_ = (x4 + (I (a + 3) i4)) → ∀ (H : Heap) (locs : List Loc) (ls : Array Slot), hm D T L A Sh I J H → va_S A s_.heap H locs → lv_has ls 3 [(0, .ref a), (1, .int yy_), (2, .int (nI (i4 + 1)))] → W p_ l e_ R s_ m_ args_ below_ meth_ c_ H locs 0 0 Qq (F0 m_ 4 ls []) := fun yy_ ey => by rw [ey]; exact k3
    refine lv_iload_n hx hb dX0_sizeOfAll_4 rfl (lv_at hl 2 rfl) ?_
    refine lv_aload_n hx hb dX0_sizeOfAll_5 rfl (lv_at hl 0 rfl) ?_
    refine mr_geti (v := nI c) (TT := TX0) (N := 5) C0 uX0_sizeOfAll_X0 hM hF.1.1 hF.1.2 rfl 4 (by decide) rfl hc kX0_sizeOfAll_f30 rfl dX0_sizeOfAll_6 ?_
    refine mr_geN (x := i4) (y := c) (tgt := 27) C0 dX0_sizeOfAll_9 (by decide) (by omega) (by omega) (fun c5 => absurd c5 (by omega)) (fun c5 => ?_)
    refine lv_iload_n hx hb dX0_sizeOfAll_12 rfl (lv_at hl 1 rfl) ?_
    refine lv_aload_n hx hb dX0_sizeOfAll_13 rfl (lv_at hl 0 rfl) ?_
    refine mr_getr (r := a + 3) (TT := TX0) (N := 5) C0 uX0_sizeOfAll_X0 hM hF.1.1 hF.1.2 rfl 2 (by decide) rfl kX0_sizeOfAll_f24 rfl dX0_sizeOfAll_14 ?_
    refine lv_iload_n hx hb dX0_sizeOfAll_17 rfl (lv_at hl 2 rfl) ?_
    refine mr_ialdN (v := I (a + 3) i4) C0 hM hF.2.2.2.1.1 hF.2.2.2.1.2 hF.2.2.2.2.2 (by omega) rfl dX0_sizeOfAll_18 ?_
    refine lv_iadd hx hb dX0_sizeOfAll_19 ?_
    refine lv_istore_n (lv' := [(1, .int (x4 + (I (a + 3) i4))), (0, .ref a), (2, .int (nI i4))]) hx hb dX0_sizeOfAll_20 rfl hl (by decide) rfl (fun ls hl => ?_)
    refine lv_iinc (v := nI (i4 + 1)) (lv' := [(2, .int (nI (i4 + 1))), (1, .int (x4 + (I (a + 3) i4))), (0, .ref a)]) hx hb dX0_sizeOfAll_21 hl (k := 2) rfl (nI_1 _) (by decide) rfl (fun ls hl => ?_)
    refine lv_goto (tgt := 4) hx hb dX0_sizeOfAll_24 (by decide) ?_
    exact stp4 (x4 + (I (a + 3) i4)) rfl H locs ls hM hS (lv_sub hl [2, 1, 0] rfl)
  · skip
    refine lv_iload_n hx hb dX0_sizeOfAll_4 rfl (lv_at hl 2 rfl) ?_
    refine lv_aload_n hx hb dX0_sizeOfAll_5 rfl (lv_at hl 0 rfl) ?_
    refine mr_geti (v := nI c) (TT := TX0) (N := 5) C0 uX0_sizeOfAll_X0 hM hF.1.1 hF.1.2 rfl 4 (by decide) rfl hc kX0_sizeOfAll_f30 rfl dX0_sizeOfAll_6 ?_
    refine mr_geN (x := c) (y := c) (tgt := 27) C0 dX0_sizeOfAll_9 (by decide) (by omega) (by omega) (fun c6 => ?_) (fun c6 => absurd c6 (by omega))
    refine lv_iload_n hx hb dX0_sizeOfAll_27 rfl (lv_at hl 1 rfl) ?_
    have eF : (lp c (fun i4 x4 => x4 + (I (a + 3) i4)) (nI 0)) = fX0_sizeOfAll I a c := rfl
    exact mr_iret (v := (lp c (fun i4 x4 => x4 + (I (a + 3) i4)) (nI 0))) C0 hr hlk hQ hS (by rw [← eF]) hM (Nat.le_refl _) (Nat.le_refl _) dX0_sizeOfAll_28
def fX0_countOfEpochUpTo (I : hm_I) (a c : Nat) (e0 : Int32) : Int32 :=
  (lp c (fun i4 x4 => if e0 < I (a + 4) i4 then x4 else x4 + 1) (nI 0))
set_option maxHeartbeats 4000000 in
set_option maxRecDepth 100000 in
theorem ctX0_countOfEpochUpTo {l : Launch} {D : va_G} {T : Nat → ClassId} {L : List Nat} {A : Nat → Prop} {Sh : hm_S} {I : hm_I} {J : hm_J} {a n c : Nat} (hF : IsF L Sh a n) (hc : I a 4 = nI c) (hn : n < 1000) (hcn : c ≤ n) {e0 : Int32} :
    Ct l yX0_countOfEpochUpTo wsX0_countOfEpochUpTo { frames := 0, cells := 0, slots := 0, locals := 0 } 0 0 D T A [.ref a, .int e0] (hm D T L A Sh I J) (some (.int (fX0_countOfEpochUpTo I a c e0))) (hm D T L A Sh I J) := by
  refine Ct.ofW (cc := cX0_countOfEpochUpTo) (maxL := 4) (ret := (some .int)) (by decide) rfl (Nat.le_of_ble_eq_true rfl) ?_
  intro p_ e_ s_ m_ args_ below_ meth_ c_ ls R Qq hR hQ C0 hr hlk hname hM hl
  have hx := C0.1.1
  have hb := C0.1.2.1
  have hS : va_S A s_.heap s_.heap [] := va_S.rf
  have hl : lv_has ls 4 [(0, .ref a), (1, .int e0)] := hl
  refine lv_iconst (v := nI 0) hx hb dX0_countOfEpochUpTo_0 (by decide) ?_
  refine lv_istore_n (lv' := [(2, .int (nI 0)), (0, .ref a), (1, .int e0)]) hx hb dX0_countOfEpochUpTo_1 rfl hl (by decide) rfl (fun ls hl => ?_)
  refine lv_iconst (v := nI 0) hx hb dX0_countOfEpochUpTo_2 (by decide) ?_
  refine lv_istore_n (lv' := [(3, .int (nI 0)), (2, .int (nI 0)), (0, .ref a), (1, .int e0)]) hx hb dX0_countOfEpochUpTo_3 rfl hl (by decide) rfl (fun ls hl => ?_)
  refine lp_loop (σ := Int32) (fun i4 x4 => ∀ (H : Heap) (locs : List Loc) (ls : Array Slot), hm D T L A Sh I J H → va_S A s_.heap H locs → lv_has ls 4 [(0, .ref a), (1, .int e0), (2, .int x4), (3, .int (nI i4))] → W p_ l e_ R s_ m_ args_ below_ meth_ c_ H locs 0 0 Qq (F0 m_ 4 ls [])) c (fun i4 x4 => if e0 < I (a + 4) i4 then x4 else x4 + 1) (nI 0) (fun _ _ => True) trivial (fun _ _ _ _ => trivial) (fun i4 x4 hi1 hv2 k3 H locs ls hM hS hl => ?_) (fun hv2 H locs ls hM hS hl => ?_) _ _ _ hM hS (lv_sub hl [2, 3, 1, 0] rfl)
  · have stp4 : ∀ yy_ : Int32, yy_ = (if e0 < I (a + 4) i4 then x4 else x4 + 1) → ∀ (H : Heap) (locs : List Loc) (ls : Array Slot), hm D T L A Sh I J H → va_S A s_.heap H locs → lv_has ls 4 [(0, .ref a), (1, .int e0), (2, .int yy_), (3, .int (nI (i4 + 1)))] → W p_ l e_ R s_ m_ args_ below_ meth_ c_ H locs 0 0 Qq (F0 m_ 4 ls []) := fun yy_ ey => by rw [ey]; exact k3
    refine lv_iload_n hx hb dX0_countOfEpochUpTo_4 rfl (lv_at hl 3 rfl) ?_
    refine lv_aload_n hx hb dX0_countOfEpochUpTo_5 rfl (lv_at hl 0 rfl) ?_
    refine mr_geti (v := nI c) (TT := TX0) (N := 5) C0 uX0_countOfEpochUpTo_X0 hM hF.1.1 hF.1.2 rfl 4 (by decide) rfl hc kX0_countOfEpochUpTo_f30 rfl dX0_countOfEpochUpTo_6 ?_
    refine mr_geN (x := i4) (y := c) (tgt := 31) C0 dX0_countOfEpochUpTo_9 (by decide) (by omega) (by omega) (fun c5 => absurd c5 (by omega)) (fun c5 => ?_)
    refine lv_aload_n hx hb dX0_countOfEpochUpTo_12 rfl (lv_at hl 0 rfl) ?_
    refine mr_getr (r := a + 4) (TT := TX0) (N := 5) C0 uX0_countOfEpochUpTo_X0 hM hF.1.1 hF.1.2 rfl 3 (by decide) rfl kX0_countOfEpochUpTo_f27 rfl dX0_countOfEpochUpTo_13 ?_
    refine lv_iload_n hx hb dX0_countOfEpochUpTo_16 rfl (lv_at hl 3 rfl) ?_
    refine mr_ialdN (v := I (a + 4) i4) C0 hM hF.2.2.2.2.1.1 hF.2.2.2.2.1.2 hF.2.2.2.2.2 (by omega) rfl dX0_countOfEpochUpTo_17 ?_
    refine lv_iload_n hx hb dX0_countOfEpochUpTo_18 rfl (lv_at hl 1 rfl) ?_
    refine lv_icmp_gt (tgt := 25) hx hb dX0_countOfEpochUpTo_19 (by decide) (fun c6 => ?_) (fun c6 => ?_)
    · skip
      refine lv_iinc (v := nI (i4 + 1)) (lv' := [(3, .int (nI (i4 + 1))), (0, .ref a), (1, .int e0), (2, .int x4)]) hx hb dX0_countOfEpochUpTo_25 hl (k := 3) rfl (nI_1 _) (by decide) rfl (fun ls hl => ?_)
      refine lv_goto (tgt := 4) hx hb dX0_countOfEpochUpTo_28 (by decide) ?_
      exact stp4 x4 (by rw [if_pos c6]) H locs ls hM hS (lv_sub hl [1, 2, 3, 0] rfl)
    · skip
      refine lv_iinc (v := x4 + 1) (lv' := [(2, .int (x4 + 1)), (0, .ref a), (1, .int e0), (3, .int (nI i4))]) hx hb dX0_countOfEpochUpTo_22 hl (k := 2) rfl rfl (by decide) rfl (fun ls hl => ?_)
      refine lv_iinc (v := nI (i4 + 1)) (lv' := [(3, .int (nI (i4 + 1))), (2, .int (x4 + 1)), (0, .ref a), (1, .int e0)]) hx hb dX0_countOfEpochUpTo_25 hl (k := 3) rfl (nI_1 _) (by decide) rfl (fun ls hl => ?_)
      refine lv_goto (tgt := 4) hx hb dX0_countOfEpochUpTo_28 (by decide) ?_
      exact stp4 (x4 + 1) (by rw [if_neg c6]) H locs ls hM hS (lv_sub hl [2, 3, 1, 0] rfl)
  · skip
    refine lv_iload_n hx hb dX0_countOfEpochUpTo_4 rfl (lv_at hl 3 rfl) ?_
    refine lv_aload_n hx hb dX0_countOfEpochUpTo_5 rfl (lv_at hl 0 rfl) ?_
    refine mr_geti (v := nI c) (TT := TX0) (N := 5) C0 uX0_countOfEpochUpTo_X0 hM hF.1.1 hF.1.2 rfl 4 (by decide) rfl hc kX0_countOfEpochUpTo_f30 rfl dX0_countOfEpochUpTo_6 ?_
    refine mr_geN (x := c) (y := c) (tgt := 31) C0 dX0_countOfEpochUpTo_9 (by decide) (by omega) (by omega) (fun c7 => ?_) (fun c7 => absurd c7 (by omega))
    refine lv_iload_n hx hb dX0_countOfEpochUpTo_31 rfl (lv_at hl 2 rfl) ?_
    have eF : (lp c (fun i4 x4 => if e0 < I (a + 4) i4 then x4 else x4 + 1) (nI 0)) = fX0_countOfEpochUpTo I a c e0 := rfl
    exact mr_iret (v := (lp c (fun i4 x4 => if e0 < I (a + 4) i4 then x4 else x4 + 1) (nI 0))) C0 hr hlk hQ hS (by rw [← eF]) hM (Nat.le_refl _) (Nat.le_refl _) dX0_countOfEpochUpTo_32
def fX0_copyFrom (I : hm_I) (a b c : Nat) : hm_I :=
  (lp c (fun i18 x18 => hm_put (hm_put (hm_put (hm_put x18 (a + 1) i18 (x18 (b + 1) i18)) (a + 2) i18 (x18 (b + 2) i18)) (a + 3) i18 (x18 (b + 3) i18)) (a + 4) i18 (x18 (b + 4) i18)) (hm_put I a 4 (nI c)))
set_option maxHeartbeats 4000000 in
set_option maxRecDepth 100000 in
theorem ctX0_copyFrom {l : Launch} {D : va_G} {T : Nat → ClassId} {L : List Nat} {A : Nat → Prop} {Sh : hm_S} {I : hm_I} {J : hm_J} {a b n m c : Nat} (hF : IsF L Sh a n) (hG : IsF L Sh b m) (hc : I b 4 = nI c) (hn : n < 1000) (hcn : c ≤ n) (hcm : c ≤ m) (hm0 : m < 1000) (hab : a + 5 ≤ b ∨ b + 5 ≤ a) :
    Ct l yX0_copyFrom wsX0_copyFrom { frames := 1, cells := 0, slots := 0, locals := 21 } 0 0 D T A [.ref a, .ref b] (hm D T L A Sh I J) none (hm D T L A Sh (fX0_copyFrom I a b c) J) := by
  refine Ct.ofW (cc := cX0_copyFrom) (maxL := 3) (ret := none) (by decide) rfl (Nat.le_of_ble_eq_true rfl) ?_
  intro p_ e_ s_ m_ args_ below_ meth_ c_ ls R Qq hR hQ C0 hr hlk hname hM hl
  have hx := C0.1.1
  have hb := C0.1.2.1
  have hS : va_S A s_.heap s_.heap [] := va_S.rf
  have hl : lv_has ls 3 [(0, .ref a), (1, .ref b)] := hl
  refine lv_aload_n hx hb dX0_copyFrom_0 rfl (lv_at hl 0 rfl) ?_
  refine lv_aload_n hx hb dX0_copyFrom_1 rfl (lv_at hl 1 rfl) ?_
  refine mr_geti (v := nI c) (TT := TX0) (N := 5) C0 uX0_copyFrom_X0 hM hG.1.1 hG.1.2 rfl 4 (by decide) rfl hc kX0_copyFrom_f30 rfl dX0_copyFrom_2 ?_
  refine lv_aload_n hx hb dX0_copyFrom_5 rfl (lv_at hl 0 rfl) ?_
  refine mr_getr (r := a + 1) (TT := TX0) (N := 5) C0 uX0_copyFrom_X0 hM hF.1.1 hF.1.2 rfl 0 (by decide) rfl kX0_copyFrom_f15 rfl dX0_copyFrom_6 ?_
  refine mr_alen C0 hM hF.2.1.1 hF.2.1.2 dX0_copyFrom_9 ?_
  refine va_mmin hx hb (C0.1.2.2.1.trans hl.1.symm) C0.1.2.2.2.1 (C0.1.2.2.2.2 _ (List.mem_of_getElem? (i := 3) rfl)) (C0.1.2.2.2.2 _ (List.mem_of_getElem? (i := 4) rfl)) (C0.1.2.2.2.2 _ (List.mem_of_getElem? (i := 5) rfl)) (C0.1.2.2.2.2 _ (List.mem_of_getElem? (i := 6) rfl)) (by rw [hR]; exact Nat.le_of_ble_eq_true rfl) (by rw [hR]; exact Nat.le_of_ble_eq_true rfl) (Nat.zero_le _) (Nat.zero_le _) dX0_copyFrom_10 ?_
  refine mr_top (y := nI c) (min_nI (by omega) (by omega)) ?_
  refine mr_puti (TT := TX0) (N := 5) C0 uX0_copyFrom_X0 tyX0 tyX0_ok nmX0 hM hS hF.1.1 hF.1.2 rfl 4 (by decide) rfl kX0_copyFrom_f30 rfl rfl (by decide +kernel) dX0_copyFrom_13 (fun H locs hM hS => ?_)
  refine lv_iconst (v := nI 0) hx hb dX0_copyFrom_16 (by decide) ?_
  refine lv_istore_n (lv' := [(2, .int (nI 0)), (0, .ref a), (1, .ref b)]) hx hb dX0_copyFrom_17 rfl hl (by decide) rfl (fun ls hl => ?_)
  refine lp_loop (σ := hm_I) (fun i18 x18 => ∀ (H : Heap) (locs : List Loc) (ls : Array Slot), hm D T L A Sh x18 J H → va_S A s_.heap H locs → lv_has ls 3 [(0, .ref a), (1, .ref b), (2, .int (nI i18))] → W p_ l e_ R s_ m_ args_ below_ meth_ c_ H locs 0 0 Qq (F0 m_ 18 ls [])) c (fun i18 x18 => hm_put (hm_put (hm_put (hm_put x18 (a + 1) i18 (x18 (b + 1) i18)) (a + 2) i18 (x18 (b + 2) i18)) (a + 3) i18 (x18 (b + 3) i18)) (a + 4) i18 (x18 (b + 4) i18)) (hm_put I a 4 (nI c)) (fun (i18 : Nat) (x18 : hm_I) => x18 a 4 = nI c) (hm_put_at _ _ _ _) (fun i x _ hv => (hm_put_get (by omega)).trans ((hm_put_get (by omega)).trans ((hm_put_get (by omega)).trans ((hm_put_get (by omega)).trans hv)))) (fun i18 x18 hi1 hv2 k3 H locs ls hM hS hl => ?_) (fun hv2 H locs ls hM hS hl => ?_) _ _ _ hM hS (lv_sub hl [1, 2, 0] rfl)
  · have stp4 : ∀ yy_ : hm_I, yy_ = (hm_put (hm_put (hm_put (hm_put x18 (a + 1) i18 (x18 (b + 1) i18)) (a + 2) i18 (x18 (b + 2) i18)) (a + 3) i18 (x18 (b + 3) i18)) (a + 4) i18 (x18 (b + 4) i18)) → ∀ (H : Heap) (locs : List Loc) (ls : Array Slot), hm D T L A Sh yy_ J H → va_S A s_.heap H locs → lv_has ls 3 [(0, .ref a), (1, .ref b), (2, .int (nI (i18 + 1)))] → W p_ l e_ R s_ m_ args_ below_ meth_ c_ H locs 0 0 Qq (F0 m_ 18 ls []) := fun yy_ ey => by rw [ey]; exact k3
    refine lv_iload_n hx hb dX0_copyFrom_18 rfl (lv_at hl 2 rfl) ?_
    refine lv_aload_n hx hb dX0_copyFrom_19 rfl (lv_at hl 0 rfl) ?_
    refine mr_geti (v := nI c) (TT := TX0) (N := 5) C0 uX0_copyFrom_X0 hM hF.1.1 hF.1.2 rfl 4 (by decide) rfl hv2 kX0_copyFrom_f30 rfl dX0_copyFrom_20 ?_
    refine mr_geN (x := i18) (y := c) (tgt := 80) C0 dX0_copyFrom_23 (by decide) (by omega) (by omega) (fun c5 => absurd c5 (by omega)) (fun c5 => ?_)
    refine lv_aload_n hx hb dX0_copyFrom_26 rfl (lv_at hl 0 rfl) ?_
    refine mr_getr (r := a + 1) (TT := TX0) (N := 5) C0 uX0_copyFrom_X0 hM hF.1.1 hF.1.2 rfl 0 (by decide) rfl kX0_copyFrom_f15 rfl dX0_copyFrom_27 ?_
    refine lv_iload_n hx hb dX0_copyFrom_30 rfl (lv_at hl 2 rfl) ?_
    refine lv_aload_n hx hb dX0_copyFrom_31 rfl (lv_at hl 1 rfl) ?_
    refine mr_getr (r := b + 1) (TT := TX0) (N := 5) C0 uX0_copyFrom_X0 hM hG.1.1 hG.1.2 rfl 0 (by decide) rfl kX0_copyFrom_f15 rfl dX0_copyFrom_32 ?_
    refine lv_iload_n hx hb dX0_copyFrom_35 rfl (lv_at hl 2 rfl) ?_
    refine mr_ialdN (v := x18 (b + 1) i18) C0 hM hG.2.1.1 hG.2.1.2 hG.2.2.2.2.2 (by omega) rfl dX0_copyFrom_36 ?_
    refine mr_iastN C0 hM hS hF.2.1.1 hF.2.1.2 hF.2.2.2.2.2 (by omega) dX0_copyFrom_37 (fun H locs hM hS => ?_)
    refine lv_aload_n hx hb dX0_copyFrom_38 rfl (lv_at hl 0 rfl) ?_
    refine mr_getr (r := a + 2) (TT := TX0) (N := 5) C0 uX0_copyFrom_X0 hM hF.1.1 hF.1.2 rfl 1 (by decide) rfl kX0_copyFrom_f21 rfl dX0_copyFrom_39 ?_
    refine lv_iload_n hx hb dX0_copyFrom_42 rfl (lv_at hl 2 rfl) ?_
    refine lv_aload_n hx hb dX0_copyFrom_43 rfl (lv_at hl 1 rfl) ?_
    refine mr_getr (r := b + 2) (TT := TX0) (N := 5) C0 uX0_copyFrom_X0 hM hG.1.1 hG.1.2 rfl 1 (by decide) rfl kX0_copyFrom_f21 rfl dX0_copyFrom_44 ?_
    refine lv_iload_n hx hb dX0_copyFrom_47 rfl (lv_at hl 2 rfl) ?_
    refine mr_ialdN (v := x18 (b + 2) i18) C0 hM hG.2.2.1.1 hG.2.2.1.2 hG.2.2.2.2.2 (by omega) (hm_put_get (by omega)) dX0_copyFrom_48 ?_
    refine mr_iastN C0 hM hS hF.2.2.1.1 hF.2.2.1.2 hF.2.2.2.2.2 (by omega) dX0_copyFrom_49 (fun H locs hM hS => ?_)
    refine lv_aload_n hx hb dX0_copyFrom_50 rfl (lv_at hl 0 rfl) ?_
    refine mr_getr (r := a + 3) (TT := TX0) (N := 5) C0 uX0_copyFrom_X0 hM hF.1.1 hF.1.2 rfl 2 (by decide) rfl kX0_copyFrom_f24 rfl dX0_copyFrom_51 ?_
    refine lv_iload_n hx hb dX0_copyFrom_54 rfl (lv_at hl 2 rfl) ?_
    refine lv_aload_n hx hb dX0_copyFrom_55 rfl (lv_at hl 1 rfl) ?_
    refine mr_getr (r := b + 3) (TT := TX0) (N := 5) C0 uX0_copyFrom_X0 hM hG.1.1 hG.1.2 rfl 2 (by decide) rfl kX0_copyFrom_f24 rfl dX0_copyFrom_56 ?_
    refine lv_iload_n hx hb dX0_copyFrom_59 rfl (lv_at hl 2 rfl) ?_
    refine mr_ialdN (v := x18 (b + 3) i18) C0 hM hG.2.2.2.1.1 hG.2.2.2.1.2 hG.2.2.2.2.2 (by omega) ((hm_put_get (by omega)).trans (hm_put_get (by omega))) dX0_copyFrom_60 ?_
    refine mr_iastN C0 hM hS hF.2.2.2.1.1 hF.2.2.2.1.2 hF.2.2.2.2.2 (by omega) dX0_copyFrom_61 (fun H locs hM hS => ?_)
    refine lv_aload_n hx hb dX0_copyFrom_62 rfl (lv_at hl 0 rfl) ?_
    refine mr_getr (r := a + 4) (TT := TX0) (N := 5) C0 uX0_copyFrom_X0 hM hF.1.1 hF.1.2 rfl 3 (by decide) rfl kX0_copyFrom_f27 rfl dX0_copyFrom_63 ?_
    refine lv_iload_n hx hb dX0_copyFrom_66 rfl (lv_at hl 2 rfl) ?_
    refine lv_aload_n hx hb dX0_copyFrom_67 rfl (lv_at hl 1 rfl) ?_
    refine mr_getr (r := b + 4) (TT := TX0) (N := 5) C0 uX0_copyFrom_X0 hM hG.1.1 hG.1.2 rfl 3 (by decide) rfl kX0_copyFrom_f27 rfl dX0_copyFrom_68 ?_
    refine lv_iload_n hx hb dX0_copyFrom_71 rfl (lv_at hl 2 rfl) ?_
    refine mr_ialdN (v := x18 (b + 4) i18) C0 hM hG.2.2.2.2.1.1 hG.2.2.2.2.1.2 hG.2.2.2.2.2 (by omega) ((hm_put_get (by omega)).trans ((hm_put_get (by omega)).trans (hm_put_get (by omega)))) dX0_copyFrom_72 ?_
    refine mr_iastN C0 hM hS hF.2.2.2.2.1.1 hF.2.2.2.2.1.2 hF.2.2.2.2.2 (by omega) dX0_copyFrom_73 (fun H locs hM hS => ?_)
    refine lv_iinc (v := nI (i18 + 1)) (lv' := [(2, .int (nI (i18 + 1))), (0, .ref a), (1, .ref b)]) hx hb dX0_copyFrom_74 hl (k := 2) rfl (nI_1 _) (by decide) rfl (fun ls hl => ?_)
    refine lv_goto (tgt := 18) hx hb dX0_copyFrom_77 (by decide) ?_
    exact stp4 (hm_put (hm_put (hm_put (hm_put x18 (a + 1) i18 (x18 (b + 1) i18)) (a + 2) i18 (x18 (b + 2) i18)) (a + 3) i18 (x18 (b + 3) i18)) (a + 4) i18 (x18 (b + 4) i18)) rfl H locs ls hM hS (lv_sub hl [1, 2, 0] rfl)
  · skip
    refine lv_iload_n hx hb dX0_copyFrom_18 rfl (lv_at hl 2 rfl) ?_
    refine lv_aload_n hx hb dX0_copyFrom_19 rfl (lv_at hl 0 rfl) ?_
    refine mr_geti (v := nI c) (TT := TX0) (N := 5) C0 uX0_copyFrom_X0 hM hF.1.1 hF.1.2 rfl 4 (by decide) rfl hv2 kX0_copyFrom_f30 rfl dX0_copyFrom_20 ?_
    refine mr_geN (x := c) (y := c) (tgt := 80) C0 dX0_copyFrom_23 (by decide) (by omega) (by omega) (fun c6 => ?_) (fun c6 => absurd c6 (by omega))
    have eF : (lp c (fun i18 x18 => hm_put (hm_put (hm_put (hm_put x18 (a + 1) i18 (x18 (b + 1) i18)) (a + 2) i18 (x18 (b + 2) i18)) (a + 3) i18 (x18 (b + 3) i18)) (a + 4) i18 (x18 (b + 4) i18)) (hm_put I a 4 (nI c))) = fX0_copyFrom I a b c := rfl
    exact mr_vret C0 hr hlk hQ hS rfl (by rw [← eF]; exact hM) (Nat.le_refl _) (Nat.le_refl _) dX0_copyFrom_80
theorem fX0_copyFrom_ne {I : hm_I} {a b c x0 : Nat} (h : x0 < a ∨ a + 5 ≤ x0) : fX0_copyFrom I a b c x0 = I x0 := by
  unfold fX0_copyFrom
  exact lp_inv (fun _ (x : hm_I) => x x0 = I x0) (hm_put_ne _ _ _ _ (by omega)) (fun i x _ hx => by rw [hm_put_ne _ _ _ _ (by omega), hm_put_ne _ _ _ _ (by omega), hm_put_ne _ _ _ _ (by omega), hm_put_ne _ _ _ _ (by omega)]; exact hx)
