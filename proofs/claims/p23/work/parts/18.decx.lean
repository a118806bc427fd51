theorem dX3_open_0 : decode cX3_open 0 = .ok (.iload_n 1, 1) := by decide +kernel
theorem dX3_open_1 : decode cX3_open 1 = .ok (.invokestatic 38, 3) := by decide +kernel
theorem dX3_open_4 : decode cX3_open 4 = .ok (.ifCond .eq 13, 3) := by decide +kernel
theorem dX3_open_7 : decode cX3_open 7 = .ok (.iload_n 2, 1) := by decide +kernel
theorem dX3_open_8 : decode cX3_open 8 = .ok (.iconst 1, 1) := by decide +kernel
theorem dX3_open_9 : decode cX3_open 9 = .ok (.bipush 9, 2) := by decide +kernel
theorem dX3_open_11 : decode cX3_open 11 = .ok (.invokestatic 42, 3) := by decide +kernel
theorem dX3_open_14 : decode cX3_open 14 = .ok (.ifCond .ne 5, 3) := by decide +kernel
theorem dX3_open_17 : decode cX3_open 17 = .ok (.iconst (-1), 1) := by decide +kernel
theorem dX3_open_18 : decode cX3_open 18 = .ok (.ireturn, 1) := by decide +kernel
theorem dX3_open_19 : decode cX3_open 19 = .ok (.aload_n 0, 1) := by decide +kernel
theorem dX3_open_20 : decode cX3_open 20 = .ok (.getfield 10, 3) := by decide +kernel
theorem dX3_open_23 : decode cX3_open 23 = .ok (.iload_n 1, 1) := by decide +kernel
theorem dX3_open_24 : decode cX3_open 24 = .ok (.invokevirtual 46, 3) := by decide +kernel
theorem dX3_open_27 : decode cX3_open 27 = .ok (.ifCond .eq 6, 3) := by decide +kernel
theorem dX3_open_30 : decode cX3_open 30 = .ok (.bipush (-2), 2) := by decide +kernel
theorem dX3_open_32 : decode cX3_open 32 = .ok (.ireturn, 1) := by decide +kernel
theorem dX3_open_33 : decode cX3_open 33 = .ok (.aload_n 0, 1) := by decide +kernel
theorem dX3_open_34 : decode cX3_open 34 = .ok (.invokevirtual 49, 3) := by decide +kernel
theorem dX3_open_37 : decode cX3_open 37 = .ok (.aload_n 0, 1) := by decide +kernel
theorem dX3_open_38 : decode cX3_open 38 = .ok (.getfield 10, 3) := by decide +kernel
theorem dX3_open_41 : decode cX3_open 41 = .ok (.iload_n 1, 1) := by decide +kernel
theorem dX3_open_42 : decode cX3_open 42 = .ok (.iload_n 2, 1) := by decide +kernel
theorem dX3_open_43 : decode cX3_open 43 = .ok (.invokevirtual 52, 3) := by decide +kernel
theorem dX3_open_46 : decode cX3_open 46 = .ok (.aload_n 0, 1) := by decide +kernel
theorem dX3_open_47 : decode cX3_open 47 = .ok (.getfield 10, 3) := by decide +kernel
theorem dX3_open_50 : decode cX3_open 50 = .ok (.getfield 56, 3) := by decide +kernel
theorem dX3_open_53 : decode cX3_open 53 = .ok (.invokestatic 59, 3) := by decide +kernel
theorem dX3_open_56 : decode cX3_open 56 = .ok (.ireturn, 1) := by decide +kernel
theorem dX3_close_0 : decode cX3_close 0 = .ok (.iload_n 1, 1) := by decide +kernel
theorem dX3_close_1 : decode cX3_close 1 = .ok (.invokestatic 38, 3) := by decide +kernel
theorem dX3_close_4 : decode cX3_close 4 = .ok (.ifCond .ne 5, 3) := by decide +kernel
theorem dX3_close_7 : decode cX3_close 7 = .ok (.iconst (-1), 1) := by decide +kernel
theorem dX3_close_8 : decode cX3_close 8 = .ok (.ireturn, 1) := by decide +kernel
theorem dX3_close_9 : decode cX3_close 9 = .ok (.aload_n 0, 1) := by decide +kernel
theorem dX3_close_10 : decode cX3_close 10 = .ok (.getfield 10, 3) := by decide +kernel
theorem dX3_close_13 : decode cX3_close 13 = .ok (.iload_n 1, 1) := by decide +kernel
theorem dX3_close_14 : decode cX3_close 14 = .ok (.invokevirtual 46, 3) := by decide +kernel
theorem dX3_close_17 : decode cX3_close 17 = .ok (.ifCond .eq 18, 3) := by decide +kernel
theorem dX3_close_20 : decode cX3_close 20 = .ok (.aload_n 0, 1) := by decide +kernel
theorem dX3_close_21 : decode cX3_close 21 = .ok (.getfield 10, 3) := by decide +kernel
theorem dX3_close_24 : decode cX3_close 24 = .ok (.getfield 65, 3) := by decide +kernel
theorem dX3_close_27 : decode cX3_close 27 = .ok (.iload_n 1, 1) := by decide +kernel
theorem dX3_close_28 : decode cX3_close 28 = .ok (.aaload, 1) := by decide +kernel
theorem dX3_close_29 : decode cX3_close 29 = .ok (.getfield 69, 3) := by decide +kernel
theorem dX3_close_32 : decode cX3_close 32 = .ok (.ifCond .le 6, 3) := by decide +kernel
theorem dX3_close_35 : decode cX3_close 35 = .ok (.bipush (-2), 2) := by decide +kernel
theorem dX3_close_37 : decode cX3_close 37 = .ok (.ireturn, 1) := by decide +kernel
theorem dX3_close_38 : decode cX3_close 38 = .ok (.aload_n 0, 1) := by decide +kernel
theorem dX3_close_39 : decode cX3_close 39 = .ok (.invokevirtual 49, 3) := by decide +kernel
theorem dX3_close_42 : decode cX3_close 42 = .ok (.aload_n 0, 1) := by decide +kernel
theorem dX3_close_43 : decode cX3_close 43 = .ok (.getfield 10, 3) := by decide +kernel
theorem dX3_close_46 : decode cX3_close 46 = .ok (.iload_n 1, 1) := by decide +kernel
theorem dX3_close_47 : decode cX3_close 47 = .ok (.invokevirtual 74, 3) := by decide +kernel
theorem dX3_close_50 : decode cX3_close 50 = .ok (.aload_n 0, 1) := by decide +kernel
theorem dX3_close_51 : decode cX3_close 51 = .ok (.getfield 10, 3) := by decide +kernel
theorem dX3_close_54 : decode cX3_close 54 = .ok (.getfield 78, 3) := by decide +kernel
theorem dX3_close_57 : decode cX3_close 57 = .ok (.iload_n 1, 1) := by decide +kernel
theorem dX3_close_58 : decode cX3_close 58 = .ok (.iaload, 1) := by decide +kernel
theorem dX3_close_59 : decode cX3_close 59 = .ok (.ireturn, 1) := by decide +kernel
theorem dX3_setWeight_0 : decode cX3_setWeight 0 = .ok (.iload_n 1, 1) := by decide +kernel
theorem dX3_setWeight_1 : decode cX3_setWeight 1 = .ok (.invokestatic 38, 3) := by decide +kernel
theorem dX3_setWeight_4 : decode cX3_setWeight 4 = .ok (.ifCond .eq 13, 3) := by decide +kernel
theorem dX3_setWeight_7 : decode cX3_setWeight 7 = .ok (.iload_n 2, 1) := by decide +kernel
theorem dX3_setWeight_8 : decode cX3_setWeight 8 = .ok (.iconst 1, 1) := by decide +kernel
theorem dX3_setWeight_9 : decode cX3_setWeight 9 = .ok (.bipush 9, 2) := by decide +kernel
theorem dX3_setWeight_11 : decode cX3_setWeight 11 = .ok (.invokestatic 42, 3) := by decide +kernel
theorem dX3_setWeight_14 : decode cX3_setWeight 14 = .ok (.ifCond .ne 5, 3) := by decide +kernel
theorem dX3_setWeight_17 : decode cX3_setWeight 17 = .ok (.iconst (-1), 1) := by decide +kernel
theorem dX3_setWeight_18 : decode cX3_setWeight 18 = .ok (.ireturn, 1) := by decide +kernel
theorem dX3_setWeight_19 : decode cX3_setWeight 19 = .ok (.aload_n 0, 1) := by decide +kernel
theorem dX3_setWeight_20 : decode cX3_setWeight 20 = .ok (.getfield 10, 3) := by decide +kernel
theorem dX3_setWeight_23 : decode cX3_setWeight 23 = .ok (.iload_n 1, 1) := by decide +kernel
theorem dX3_setWeight_24 : decode cX3_setWeight 24 = .ok (.invokevirtual 46, 3) := by decide +kernel
theorem dX3_setWeight_27 : decode cX3_setWeight 27 = .ok (.ifCond .ne 6, 3) := by decide +kernel
theorem dX3_setWeight_30 : decode cX3_setWeight 30 = .ok (.bipush (-2), 2) := by decide +kernel
theorem dX3_setWeight_32 : decode cX3_setWeight 32 = .ok (.ireturn, 1) := by decide +kernel
theorem dX3_setWeight_33 : decode cX3_setWeight 33 = .ok (.aload_n 0, 1) := by decide +kernel
theorem dX3_setWeight_34 : decode cX3_setWeight 34 = .ok (.invokevirtual 49, 3) := by decide +kernel
theorem dX3_setWeight_37 : decode cX3_setWeight 37 = .ok (.aload_n 0, 1) := by decide +kernel
theorem dX3_setWeight_38 : decode cX3_setWeight 38 = .ok (.getfield 10, 3) := by decide +kernel
theorem dX3_setWeight_41 : decode cX3_setWeight 41 = .ok (.getfield 82, 3) := by decide +kernel
theorem dX3_setWeight_44 : decode cX3_setWeight 44 = .ok (.iload_n 1, 1) := by decide +kernel
theorem dX3_setWeight_45 : decode cX3_setWeight 45 = .ok (.iaload, 1) := by decide +kernel
theorem dX3_setWeight_46 : decode cX3_setWeight 46 = .ok (.istore_n 3, 1) := by decide +kernel
theorem dX3_setWeight_47 : decode cX3_setWeight 47 = .ok (.aload_n 0, 1) := by decide +kernel
theorem dX3_setWeight_48 : decode cX3_setWeight 48 = .ok (.getfield 10, 3) := by decide +kernel
theorem dX3_setWeight_51 : decode cX3_setWeight 51 = .ok (.getfield 82, 3) := by decide +kernel
theorem dX3_setWeight_54 : decode cX3_setWeight 54 = .ok (.iload_n 1, 1) := by decide +kernel
theorem dX3_setWeight_55 : decode cX3_setWeight 55 = .ok (.iload_n 2, 1) := by decide +kernel
theorem dX3_setWeight_56 : decode cX3_setWeight 56 = .ok (.iastore, 1) := by decide +kernel
theorem dX3_setWeight_57 : decode cX3_setWeight 57 = .ok (.iload_n 3, 1) := by decide +kernel
theorem dX3_setWeight_58 : decode cX3_setWeight 58 = .ok (.ireturn, 1) := by decide +kernel
theorem dX3_push_0 : decode cX3_push 0 = .ok (.iload_n 1, 1) := by decide +kernel
theorem dX3_push_1 : decode cX3_push 1 = .ok (.invokestatic 38, 3) := by decide +kernel
theorem dX3_push_4 : decode cX3_push 4 = .ok (.ifCond .eq 13, 3) := by decide +kernel
theorem dX3_push_7 : decode cX3_push 7 = .ok (.iload_n 2, 1) := by decide +kernel
theorem dX3_push_8 : decode cX3_push 8 = .ok (.iconst 1, 1) := by decide +kernel
theorem dX3_push_9 : decode cX3_push 9 = .ok (.bipush 99, 2) := by decide +kernel
theorem dX3_push_11 : decode cX3_push 11 = .ok (.invokestatic 42, 3) := by decide +kernel
theorem dX3_push_14 : decode cX3_push 14 = .ok (.ifCond .ne 5, 3) := by decide +kernel
theorem dX3_push_17 : decode cX3_push 17 = .ok (.iconst (-1), 1) := by decide +kernel
theorem dX3_push_18 : decode cX3_push 18 = .ok (.ireturn, 1) := by decide +kernel
theorem dX3_push_19 : decode cX3_push 19 = .ok (.aload_n 0, 1) := by decide +kernel
theorem dX3_push_20 : decode cX3_push 20 = .ok (.getfield 10, 3) := by decide +kernel
theorem dX3_push_23 : decode cX3_push 23 = .ok (.iload_n 1, 1) := by decide +kernel
theorem dX3_push_24 : decode cX3_push 24 = .ok (.invokevirtual 46, 3) := by decide +kernel
theorem dX3_push_27 : decode cX3_push 27 = .ok (.ifCond .ne 6, 3) := by decide +kernel
theorem dX3_push_30 : decode cX3_push 30 = .ok (.bipush (-2), 2) := by decide +kernel
theorem dX3_push_32 : decode cX3_push 32 = .ok (.ireturn, 1) := by decide +kernel
theorem dX3_push_33 : decode cX3_push 33 = .ok (.aload_n 0, 1) := by decide +kernel
theorem dX3_push_34 : decode cX3_push 34 = .ok (.getfield 10, 3) := by decide +kernel
theorem dX3_push_37 : decode cX3_push 37 = .ok (.getfield 65, 3) := by decide +kernel
theorem dX3_push_40 : decode cX3_push 40 = .ok (.iload_n 1, 1) := by decide +kernel
theorem dX3_push_41 : decode cX3_push 41 = .ok (.aaload, 1) := by decide +kernel
theorem dX3_push_42 : decode cX3_push 42 = .ok (.invokevirtual 85, 3) := by decide +kernel
theorem dX3_push_45 : decode cX3_push 45 = .ok (.ifCond .eq 6, 3) := by decide +kernel
theorem dX3_push_48 : decode cX3_push 48 = .ok (.bipush (-3), 2) := by decide +kernel
theorem dX3_push_50 : decode cX3_push 50 = .ok (.ireturn, 1) := by decide +kernel
theorem dX3_push_51 : decode cX3_push 51 = .ok (.aload_n 0, 1) := by decide +kernel
theorem dX3_push_52 : decode cX3_push 52 = .ok (.invokevirtual 49, 3) := by decide +kernel
theorem dX3_push_55 : decode cX3_push 55 = .ok (.aload_n 0, 1) := by decide +kernel
theorem dX3_push_56 : decode cX3_push 56 = .ok (.getfield 10, 3) := by decide +kernel
theorem dX3_push_59 : decode cX3_push 59 = .ok (.iload_n 1, 1) := by decide +kernel
theorem dX3_push_60 : decode cX3_push 60 = .ok (.iload_n 2, 1) := by decide +kernel
theorem dX3_push_61 : decode cX3_push 61 = .ok (.invokevirtual 89, 3) := by decide +kernel
theorem dX3_push_64 : decode cX3_push 64 = .ok (.ireturn, 1) := by decide +kernel
theorem dX3_edge_0 : decode cX3_edge 0 = .ok (.iload_n 1, 1) := by decide +kernel
theorem dX3_edge_1 : decode cX3_edge 1 = .ok (.iload_n 2, 1) := by decide +kernel
theorem dX3_edge_2 : decode cX3_edge 2 = .ok (.invokestatic 93, 3) := by decide +kernel
theorem dX3_edge_5 : decode cX3_edge 5 = .ok (.ifCond .eq 12, 3) := by decide +kernel
theorem dX3_edge_8 : decode cX3_edge 8 = .ok (.iload_n 3, 1) := by decide +kernel
theorem dX3_edge_9 : decode cX3_edge 9 = .ok (.iconst 0, 1) := by decide +kernel
theorem dX3_edge_10 : decode cX3_edge 10 = .ok (.iconst 1, 1) := by decide +kernel
theorem dX3_edge_11 : decode cX3_edge 11 = .ok (.invokestatic 42, 3) := by decide +kernel
theorem dX3_edge_14 : decode cX3_edge 14 = .ok (.ifCond .ne 5, 3) := by decide +kernel
theorem dX3_edge_17 : decode cX3_edge 17 = .ok (.iconst (-1), 1) := by decide +kernel
theorem dX3_edge_18 : decode cX3_edge 18 = .ok (.ireturn, 1) := by decide +kernel
theorem dX3_edge_19 : decode cX3_edge 19 = .ok (.iload_n 3, 1) := by decide +kernel
theorem dX3_edge_20 : decode cX3_edge 20 = .ok (.iconst 1, 1) := by decide +kernel
theorem dX3_edge_21 : decode cX3_edge 21 = .ok (.if_icmp .ne 21, 3) := by decide +kernel
theorem dX3_edge_24 : decode cX3_edge 24 = .ok (.aload_n 0, 1) := by decide +kernel
theorem dX3_edge_25 : decode cX3_edge 25 = .ok (.getfield 10, 3) := by decide +kernel
theorem dX3_edge_28 : decode cX3_edge 28 = .ok (.getfield 97, 3) := by decide +kernel
theorem dX3_edge_31 : decode cX3_edge 31 = .ok (.iload_n 2, 1) := by decide +kernel
theorem dX3_edge_32 : decode cX3_edge 32 = .ok (.iload_n 1, 1) := by decide +kernel
theorem dX3_edge_33 : decode cX3_edge 33 = .ok (.invokevirtual 101, 3) := by decide +kernel
theorem dX3_edge_36 : decode cX3_edge 36 = .ok (.ifCond .eq 6, 3) := by decide +kernel
theorem dX3_edge_39 : decode cX3_edge 39 = .ok (.bipush (-4), 2) := by decide +kernel
theorem dX3_edge_41 : decode cX3_edge 41 = .ok (.ireturn, 1) := by decide +kernel
theorem dX3_edge_42 : decode cX3_edge 42 = .ok (.aload_n 0, 1) := by decide +kernel
theorem dX3_edge_43 : decode cX3_edge 43 = .ok (.invokevirtual 49, 3) := by decide +kernel
theorem dX3_edge_46 : decode cX3_edge 46 = .ok (.aload_n 0, 1) := by decide +kernel
theorem dX3_edge_47 : decode cX3_edge 47 = .ok (.getfield 10, 3) := by decide +kernel
theorem dX3_edge_50 : decode cX3_edge 50 = .ok (.getfield 97, 3) := by decide +kernel
theorem dX3_edge_53 : decode cX3_edge 53 = .ok (.iload_n 1, 1) := by decide +kernel
theorem dX3_edge_54 : decode cX3_edge 54 = .ok (.iload_n 2, 1) := by decide +kernel
theorem dX3_edge_55 : decode cX3_edge 55 = .ok (.invokevirtual 106, 3) := by decide +kernel
theorem dX3_edge_58 : decode cX3_edge 58 = .ok (.ifCond .eq 7, 3) := by decide +kernel
theorem dX3_edge_61 : decode cX3_edge 61 = .ok (.iconst 1, 1) := by decide +kernel
theorem dX3_edge_62 : decode cX3_edge 62 = .ok (.goto 4, 3) := by decide +kernel
theorem dX3_edge_65 : decode cX3_edge 65 = .ok (.iconst 0, 1) := by decide +kernel
theorem dX3_edge_66 : decode cX3_edge 66 = .ok (.istore 4, 2) := by decide +kernel
theorem dX3_edge_68 : decode cX3_edge 68 = .ok (.aload_n 0, 1) := by decide +kernel
theorem dX3_edge_69 : decode cX3_edge 69 = .ok (.getfield 10, 3) := by decide +kernel
theorem dX3_edge_72 : decode cX3_edge 72 = .ok (.getfield 97, 3) := by decide +kernel
theorem dX3_edge_75 : decode cX3_edge 75 = .ok (.iload_n 1, 1) := by decide +kernel
theorem dX3_edge_76 : decode cX3_edge 76 = .ok (.iload_n 2, 1) := by decide +kernel
theorem dX3_edge_77 : decode cX3_edge 77 = .ok (.iload_n 3, 1) := by decide +kernel
theorem dX3_edge_78 : decode cX3_edge 78 = .ok (.iconst 1, 1) := by decide +kernel
theorem dX3_edge_79 : decode cX3_edge 79 = .ok (.if_icmp .ne 7, 3) := by decide +kernel
theorem dX3_edge_82 : decode cX3_edge 82 = .ok (.iconst 1, 1) := by decide +kernel
theorem dX3_edge_83 : decode cX3_edge 83 = .ok (.goto 4, 3) := by decide +kernel
theorem dX3_edge_86 : decode cX3_edge 86 = .ok (.iconst 0, 1) := by decide +kernel
theorem dX3_edge_87 : decode cX3_edge 87 = .ok (.invokevirtual 109, 3) := by decide +kernel
theorem dX3_edge_90 : decode cX3_edge 90 = .ok (.iload 4, 2) := by decide +kernel
theorem dX3_edge_92 : decode cX3_edge 92 = .ok (.ireturn, 1) := by decide +kernel
theorem dX3_commit_0 : decode cX3_commit 0 = .ok (.aload_n 0, 1) := by decide +kernel
theorem dX3_commit_1 : decode cX3_commit 1 = .ok (.getfield 10, 3) := by decide +kernel
theorem dX3_commit_4 : decode cX3_commit 4 = .ok (.getfield 113, 3) := by decide +kernel
theorem dX3_commit_7 : decode cX3_commit 7 = .ok (.bipush 10, 2) := by decide +kernel
theorem dX3_commit_9 : decode cX3_commit 9 = .ok (.if_icmp .lt 6, 3) := by decide +kernel
theorem dX3_commit_12 : decode cX3_commit 12 = .ok (.bipush (-3), 2) := by decide +kernel
theorem dX3_commit_14 : decode cX3_commit 14 = .ok (.ireturn, 1) := by decide +kernel
theorem dX3_commit_15 : decode cX3_commit 15 = .ok (.aload_n 0, 1) := by decide +kernel
theorem dX3_commit_16 : decode cX3_commit 16 = .ok (.invokevirtual 49, 3) := by decide +kernel
theorem dX3_commit_19 : decode cX3_commit 19 = .ok (.aload_n 0, 1) := by decide +kernel
theorem dX3_commit_20 : decode cX3_commit 20 = .ok (.getfield 10, 3) := by decide +kernel
theorem dX3_commit_23 : decode cX3_commit 23 = .ok (.invokevirtual 116, 3) := by decide +kernel
theorem dX3_commit_26 : decode cX3_commit 26 = .ok (.aload_n 0, 1) := by decide +kernel
theorem dX3_commit_27 : decode cX3_commit 27 = .ok (.getfield 10, 3) := by decide +kernel
theorem dX3_commit_30 : decode cX3_commit 30 = .ok (.invokevirtual 119, 3) := by decide +kernel
theorem dX3_commit_33 : decode cX3_commit 33 = .ok (.ireturn, 1) := by decide +kernel
theorem dX3_revert_0 : decode cX3_revert 0 = .ok (.aload_n 0, 1) := by decide +kernel
theorem dX3_revert_1 : decode cX3_revert 1 = .ok (.iload_n 1, 1) := by decide +kernel
theorem dX3_revert_2 : decode cX3_revert 2 = .ok (.invokevirtual 123, 3) := by decide +kernel
theorem dX3_revert_5 : decode cX3_revert 5 = .ok (.ifCond .ne 5, 3) := by decide +kernel
theorem dX3_revert_8 : decode cX3_revert 8 = .ok (.iconst (-1), 1) := by decide +kernel
theorem dX3_revert_9 : decode cX3_revert 9 = .ok (.ireturn, 1) := by decide +kernel
theorem dX3_revert_10 : decode cX3_revert 10 = .ok (.aload_n 0, 1) := by decide +kernel
theorem dX3_revert_11 : decode cX3_revert 11 = .ok (.invokevirtual 49, 3) := by decide +kernel
theorem dX3_revert_14 : decode cX3_revert 14 = .ok (.aload_n 0, 1) := by decide +kernel
theorem dX3_revert_15 : decode cX3_revert 15 = .ok (.getfield 10, 3) := by decide +kernel
theorem dX3_revert_18 : decode cX3_revert 18 = .ok (.getfield 97, 3) := by decide +kernel
theorem dX3_revert_21 : decode cX3_revert 21 = .ok (.aload_n 0, 1) := by decide +kernel
theorem dX3_revert_22 : decode cX3_revert 22 = .ok (.getfield 10, 3) := by decide +kernel
theorem dX3_revert_25 : decode cX3_revert 25 = .ok (.iload_n 1, 1) := by decide +kernel
theorem dX3_revert_26 : decode cX3_revert 26 = .ok (.invokevirtual 126, 3) := by decide +kernel
theorem dX3_revert_29 : decode cX3_revert 29 = .ok (.invokevirtual 130, 3) := by decide +kernel
theorem dX3_revert_32 : decode cX3_revert 32 = .ok (.aload_n 0, 1) := by decide +kernel
theorem dX3_revert_33 : decode cX3_revert 33 = .ok (.getfield 10, 3) := by decide +kernel
theorem dX3_revert_36 : decode cX3_revert 36 = .ok (.getfield 97, 3) := by decide +kernel
theorem dX3_revert_39 : decode cX3_revert 39 = .ok (.invokevirtual 134, 3) := by decide +kernel
theorem dX3_revert_42 : decode cX3_revert 42 = .ok (.ireturn, 1) := by decide +kernel
theorem dX3_witness_0 : decode cX3_witness 0 = .ok (.iload_n 1, 1) := by decide +kernel
theorem dX3_witness_1 : decode cX3_witness 1 = .ok (.iload_n 2, 1) := by decide +kernel
theorem dX3_witness_2 : decode cX3_witness 2 = .ok (.invokestatic 93, 3) := by decide +kernel
theorem dX3_witness_5 : decode cX3_witness 5 = .ok (.ifCond .eq 8, 3) := by decide +kernel
theorem dX3_witness_8 : decode cX3_witness 8 = .ok (.iload_n 3, 1) := by decide +kernel
theorem dX3_witness_9 : decode cX3_witness 9 = .ok (.iconst (-1), 1) := by decide +kernel
theorem dX3_witness_10 : decode cX3_witness 10 = .ok (.if_icmp .ge 5, 3) := by decide +kernel
theorem dX3_witness_13 : decode cX3_witness 13 = .ok (.iconst (-1), 1) := by decide +kernel
theorem dX3_witness_14 : decode cX3_witness 14 = .ok (.ireturn, 1) := by decide +kernel
theorem dX3_witness_15 : decode cX3_witness 15 = .ok (.aload_n 0, 1) := by decide +kernel
theorem dX3_witness_16 : decode cX3_witness 16 = .ok (.getfield 10, 3) := by decide +kernel
theorem dX3_witness_19 : decode cX3_witness 19 = .ok (.getfield 97, 3) := by decide +kernel
theorem dX3_witness_22 : decode cX3_witness 22 = .ok (.iload_n 2, 1) := by decide +kernel
theorem dX3_witness_23 : decode cX3_witness 23 = .ok (.iload_n 1, 1) := by decide +kernel
theorem dX3_witness_24 : decode cX3_witness 24 = .ok (.invokevirtual 137, 3) := by decide +kernel
theorem dX3_witness_27 : decode cX3_witness 27 = .ok (.istore 4, 2) := by decide +kernel
theorem dX3_witness_29 : decode cX3_witness 29 = .ok (.iload 4, 2) := by decide +kernel
theorem dX3_witness_31 : decode cX3_witness 31 = .ok (.bipush (-9), 2) := by decide +kernel
theorem dX3_witness_33 : decode cX3_witness 33 = .ok (.if_icmp .ne 6, 3) := by decide +kernel
theorem dX3_witness_36 : decode cX3_witness 36 = .ok (.bipush (-9), 2) := by decide +kernel
theorem dX3_witness_38 : decode cX3_witness 38 = .ok (.ireturn, 1) := by decide +kernel
theorem dX3_witness_39 : decode cX3_witness 39 = .ok (.iload_n 3, 1) := by decide +kernel
theorem dX3_witness_40 : decode cX3_witness 40 = .ok (.iconst (-1), 1) := by decide +kernel
theorem dX3_witness_41 : decode cX3_witness 41 = .ok (.if_icmp .ne 6, 3) := by decide +kernel
theorem dX3_witness_44 : decode cX3_witness 44 = .ok (.iload 4, 2) := by decide +kernel
theorem dX3_witness_46 : decode cX3_witness 46 = .ok (.ireturn, 1) := by decide +kernel
theorem dX3_witness_47 : decode cX3_witness 47 = .ok (.iload_n 3, 1) := by decide +kernel
theorem dX3_witness_48 : decode cX3_witness 48 = .ok (.iload 4, 2) := by decide +kernel
theorem dX3_witness_50 : decode cX3_witness 50 = .ok (.if_icmp .le 8, 3) := by decide +kernel
theorem dX3_witness_53 : decode cX3_witness 53 = .ok (.bipush (-9), 2) := by decide +kernel
theorem dX3_witness_55 : decode cX3_witness 55 = .ok (.goto 16, 3) := by decide +kernel
theorem dX3_witness_58 : decode cX3_witness 58 = .ok (.aload_n 0, 1) := by decide +kernel
theorem dX3_witness_59 : decode cX3_witness 59 = .ok (.getfield 10, 3) := by decide +kernel
theorem dX3_witness_62 : decode cX3_witness 62 = .ok (.getfield 97, 3) := by decide +kernel
theorem dX3_witness_65 : decode cX3_witness 65 = .ok (.iload_n 2, 1) := by decide +kernel
theorem dX3_witness_66 : decode cX3_witness 66 = .ok (.iload_n 1, 1) := by decide +kernel
theorem dX3_witness_67 : decode cX3_witness 67 = .ok (.iload_n 3, 1) := by decide +kernel
theorem dX3_witness_68 : decode cX3_witness 68 = .ok (.invokevirtual 140, 3) := by decide +kernel
theorem dX3_witness_71 : decode cX3_witness 71 = .ok (.ireturn, 1) := by decide +kernel
theorem dX3_send_0 : decode cX3_send 0 = .ok (.aload_n 0, 1) := by decide +kernel
theorem dX3_send_1 : decode cX3_send 1 = .ok (.getfield 10, 3) := by decide +kernel
theorem dX3_send_4 : decode cX3_send 4 = .ok (.invokevirtual 144, 3) := by decide +kernel
theorem dX3_send_7 : decode cX3_send 7 = .ok (.istore_n 1, 1) := by decide +kernel
theorem dX3_send_8 : decode cX3_send 8 = .ok (.iload_n 1, 1) := by decide +kernel
theorem dX3_send_9 : decode cX3_send 9 = .ok (.bipush (-9), 2) := by decide +kernel
theorem dX3_send_11 : decode cX3_send 11 = .ok (.if_icmp .ne 6, 3) := by decide +kernel
theorem dX3_send_14 : decode cX3_send 14 = .ok (.bipush (-2), 2) := by decide +kernel
theorem dX3_send_16 : decode cX3_send 16 = .ok (.ireturn, 1) := by decide +kernel
theorem dX3_send_17 : decode cX3_send 17 = .ok (.aload_n 0, 1) := by decide +kernel
theorem dX3_send_18 : decode cX3_send 18 = .ok (.invokevirtual 49, 3) := by decide +kernel
theorem dX3_send_21 : decode cX3_send 21 = .ok (.aload_n 0, 1) := by decide +kernel
theorem dX3_send_22 : decode cX3_send 22 = .ok (.getfield 10, 3) := by decide +kernel
theorem dX3_send_25 : decode cX3_send 25 = .ok (.getfield 65, 3) := by decide +kernel
theorem dX3_send_28 : decode cX3_send 28 = .ok (.iload_n 1, 1) := by decide +kernel
theorem dX3_send_29 : decode cX3_send 29 = .ok (.aaload, 1) := by decide +kernel
theorem dX3_send_30 : decode cX3_send 30 = .ok (.iconst 0, 1) := by decide +kernel
theorem dX3_send_31 : decode cX3_send 31 = .ok (.invokevirtual 147, 3) := by decide +kernel
theorem dX3_send_34 : decode cX3_send 34 = .ok (.istore_n 2, 1) := by decide +kernel
theorem dX3_send_35 : decode cX3_send 35 = .ok (.aload_n 0, 1) := by decide +kernel
theorem dX3_send_36 : decode cX3_send 36 = .ok (.getfield 10, 3) := by decide +kernel
theorem dX3_send_39 : decode cX3_send 39 = .ok (.iload_n 1, 1) := by decide +kernel
theorem dX3_send_40 : decode cX3_send 40 = .ok (.invokevirtual 150, 3) := by decide +kernel
theorem dX3_send_43 : decode cX3_send 43 = .ok (.iload_n 2, 1) := by decide +kernel
theorem dX3_send_44 : decode cX3_send 44 = .ok (.ireturn, 1) := by decide +kernel
theorem dX3_sendSome_0 : decode cX3_sendSome 0 = .ok (.iload_n 1, 1) := by decide +kernel
theorem dX3_sendSome_1 : decode cX3_sendSome 1 = .ok (.iconst 0, 1) := by decide +kernel
theorem dX3_sendSome_2 : decode cX3_sendSome 2 = .ok (.sipush 999, 3) := by decide +kernel
theorem dX3_sendSome_5 : decode cX3_sendSome 5 = .ok (.invokestatic 42, 3) := by decide +kernel
theorem dX3_sendSome_8 : decode cX3_sendSome 8 = .ok (.ifCond .ne 5, 3) := by decide +kernel
theorem dX3_sendSome_11 : decode cX3_sendSome 11 = .ok (.iconst (-1), 1) := by decide +kernel
theorem dX3_sendSome_12 : decode cX3_sendSome 12 = .ok (.ireturn, 1) := by decide +kernel
theorem dX3_sendSome_13 : decode cX3_sendSome 13 = .ok (.aload_n 0, 1) := by decide +kernel
theorem dX3_sendSome_14 : decode cX3_sendSome 14 = .ok (.invokevirtual 49, 3) := by decide +kernel
theorem dX3_sendSome_17 : decode cX3_sendSome 17 = .ok (.iload_n 1, 1) := by decide +kernel
theorem dX3_sendSome_18 : decode cX3_sendSome 18 = .ok (.istore_n 2, 1) := by decide +kernel
theorem dX3_sendSome_19 : decode cX3_sendSome 19 = .ok (.iconst 0, 1) := by decide +kernel
theorem dX3_sendSome_20 : decode cX3_sendSome 20 = .ok (.istore_n 3, 1) := by decide +kernel
theorem dX3_sendSome_21 : decode cX3_sendSome 21 = .ok (.iload_n 3, 1) := by decide +kernel
theorem dX3_sendSome_22 : decode cX3_sendSome 22 = .ok (.bipush 48, 2) := by decide +kernel
theorem dX3_sendSome_24 : decode cX3_sendSome 24 = .ok (.if_icmp .ge 72, 3) := by decide +kernel
theorem dX3_sendSome_27 : decode cX3_sendSome 27 = .ok (.aload_n 0, 1) := by decide +kernel
theorem dX3_sendSome_28 : decode cX3_sendSome 28 = .ok (.getfield 10, 3) := by decide +kernel
theorem dX3_sendSome_31 : decode cX3_sendSome 31 = .ok (.invokevirtual 144, 3) := by decide +kernel
theorem dX3_sendSome_34 : decode cX3_sendSome 34 = .ok (.istore 4, 2) := by decide +kernel
theorem dX3_sendSome_36 : decode cX3_sendSome 36 = .ok (.iload 4, 2) := by decide +kernel
theorem dX3_sendSome_38 : decode cX3_sendSome 38 = .ok (.bipush (-9), 2) := by decide +kernel
theorem dX3_sendSome_40 : decode cX3_sendSome 40 = .ok (.if_icmp .eq 56, 3) := by decide +kernel
theorem dX3_sendSome_43 : decode cX3_sendSome 43 = .ok (.aload_n 0, 1) := by decide +kernel
theorem dX3_sendSome_44 : decode cX3_sendSome 44 = .ok (.getfield 10, 3) := by decide +kernel
theorem dX3_sendSome_47 : decode cX3_sendSome 47 = .ok (.getfield 65, 3) := by decide +kernel
theorem dX3_sendSome_50 : decode cX3_sendSome 50 = .ok (.iload 4, 2) := by decide +kernel
theorem dX3_sendSome_52 : decode cX3_sendSome 52 = .ok (.aaload, 1) := by decide +kernel
theorem dX3_sendSome_53 : decode cX3_sendSome 53 = .ok (.iconst 0, 1) := by decide +kernel
theorem dX3_sendSome_54 : decode cX3_sendSome 54 = .ok (.invokevirtual 153, 3) := by decide +kernel
theorem dX3_sendSome_57 : decode cX3_sendSome 57 = .ok (.iload_n 2, 1) := by decide +kernel
theorem dX3_sendSome_58 : decode cX3_sendSome 58 = .ok (.if_icmp .le 6, 3) := by decide +kernel
theorem dX3_sendSome_61 : decode cX3_sendSome 61 = .ok (.goto 35, 3) := by decide +kernel
theorem dX3_sendSome_64 : decode cX3_sendSome 64 = .ok (.iload_n 2, 1) := by decide +kernel
theorem dX3_sendSome_65 : decode cX3_sendSome 65 = .ok (.aload_n 0, 1) := by decide +kernel
theorem dX3_sendSome_66 : decode cX3_sendSome 66 = .ok (.getfield 10, 3) := by decide +kernel
theorem dX3_sendSome_69 : decode cX3_sendSome 69 = .ok (.getfield 65, 3) := by decide +kernel
theorem dX3_sendSome_72 : decode cX3_sendSome 72 = .ok (.iload 4, 2) := by decide +kernel
theorem dX3_sendSome_74 : decode cX3_sendSome 74 = .ok (.aaload, 1) := by decide +kernel
theorem dX3_sendSome_75 : decode cX3_sendSome 75 = .ok (.iconst 0, 1) := by decide +kernel
theorem dX3_sendSome_76 : decode cX3_sendSome 76 = .ok (.invokevirtual 153, 3) := by decide +kernel
theorem dX3_sendSome_79 : decode cX3_sendSome 79 = .ok (.isub, 1) := by decide +kernel
theorem dX3_sendSome_80 : decode cX3_sendSome 80 = .ok (.istore_n 2, 1) := by decide +kernel
theorem dX3_sendSome_81 : decode cX3_sendSome 81 = .ok (.aload_n 0, 1) := by decide +kernel
theorem dX3_sendSome_82 : decode cX3_sendSome 82 = .ok (.getfield 10, 3) := by decide +kernel
theorem dX3_sendSome_85 : decode cX3_sendSome 85 = .ok (.iload 4, 2) := by decide +kernel
theorem dX3_sendSome_87 : decode cX3_sendSome 87 = .ok (.invokevirtual 150, 3) := by decide +kernel
theorem dX3_sendSome_90 : decode cX3_sendSome 90 = .ok (.iinc 3 1, 3) := by decide +kernel
theorem dX3_sendSome_93 : decode cX3_sendSome 93 = .ok (.goto (-72), 3) := by decide +kernel
theorem dX3_sendSome_96 : decode cX3_sendSome 96 = .ok (.iload_n 3, 1) := by decide +kernel
theorem dX3_sendSome_97 : decode cX3_sendSome 97 = .ok (.ireturn, 1) := by decide +kernel
theorem dX3_undo_0 : decode cX3_undo 0 = .ok (.aload_n 0, 1) := by decide +kernel
theorem dX3_undo_1 : decode cX3_undo 1 = .ok (.getfield 23, 3) := by decide +kernel
theorem dX3_undo_4 : decode cX3_undo 4 = .ok (.ifCond .gt 6, 3) := by decide +kernel
theorem dX3_undo_7 : decode cX3_undo 7 = .ok (.bipush (-2), 2) := by decide +kernel
theorem dX3_undo_9 : decode cX3_undo 9 = .ok (.ireturn, 1) := by decide +kernel
theorem dX3_undo_10 : decode cX3_undo 10 = .ok (.aload_n 0, 1) := by decide +kernel
theorem dX3_undo_11 : decode cX3_undo 11 = .ok (.dup, 1) := by decide +kernel
theorem dX3_undo_12 : decode cX3_undo 12 = .ok (.getfield 23, 3) := by decide +kernel
theorem dX3_undo_15 : decode cX3_undo 15 = .ok (.iconst 1, 1) := by decide +kernel
theorem dX3_undo_16 : decode cX3_undo 16 = .ok (.isub, 1) := by decide +kernel
theorem dX3_undo_17 : decode cX3_undo 17 = .ok (.putfield 23, 3) := by decide +kernel
theorem dX3_undo_20 : decode cX3_undo 20 = .ok (.aload_n 0, 1) := by decide +kernel
theorem dX3_undo_21 : decode cX3_undo 21 = .ok (.getfield 10, 3) := by decide +kernel
theorem dX3_undo_24 : decode cX3_undo 24 = .ok (.astore_n 1, 1) := by decide +kernel
theorem dX3_undo_25 : decode cX3_undo 25 = .ok (.aload_n 0, 1) := by decide +kernel
theorem dX3_undo_26 : decode cX3_undo 26 = .ok (.aload_n 0, 1) := by decide +kernel
theorem dX3_undo_27 : decode cX3_undo 27 = .ok (.getfield 19, 3) := by decide +kernel
theorem dX3_undo_30 : decode cX3_undo 30 = .ok (.aload_n 0, 1) := by decide +kernel
theorem dX3_undo_31 : decode cX3_undo 31 = .ok (.getfield 23, 3) := by decide +kernel
theorem dX3_undo_34 : decode cX3_undo 34 = .ok (.aaload, 1) := by decide +kernel
theorem dX3_undo_35 : decode cX3_undo 35 = .ok (.putfield 10, 3) := by decide +kernel
theorem dX3_undo_38 : decode cX3_undo 38 = .ok (.aload_n 0, 1) := by decide +kernel
theorem dX3_undo_39 : decode cX3_undo 39 = .ok (.getfield 19, 3) := by decide +kernel
theorem dX3_undo_42 : decode cX3_undo 42 = .ok (.aload_n 0, 1) := by decide +kernel
theorem dX3_undo_43 : decode cX3_undo 43 = .ok (.getfield 23, 3) := by decide +kernel
theorem dX3_undo_46 : decode cX3_undo 46 = .ok (.aload_n 1, 1) := by decide +kernel
theorem dX3_undo_47 : decode cX3_undo 47 = .ok (.aastore, 1) := by decide +kernel
theorem dX3_undo_48 : decode cX3_undo 48 = .ok (.aload_n 0, 1) := by decide +kernel
theorem dX3_undo_49 : decode cX3_undo 49 = .ok (.getfield 23, 3) := by decide +kernel
theorem dX3_undo_52 : decode cX3_undo 52 = .ok (.ireturn, 1) := by decide +kernel
theorem dX3_told_0 : decode cX3_told 0 = .ok (.iload_n 1, 1) := by decide +kernel
theorem dX3_told_1 : decode cX3_told 1 = .ok (.iconst 0, 1) := by decide +kernel
theorem dX3_told_2 : decode cX3_told 2 = .ok (.bipush 11, 2) := by decide +kernel
theorem dX3_told_4 : decode cX3_told 4 = .ok (.invokestatic 42, 3) := by decide +kernel
theorem dX3_told_7 : decode cX3_told 7 = .ok (.ifCond .ne 5, 3) := by decide +kernel
theorem dX3_told_10 : decode cX3_told 10 = .ok (.iconst (-1), 1) := by decide +kernel
theorem dX3_told_11 : decode cX3_told 11 = .ok (.ireturn, 1) := by decide +kernel
theorem dX3_told_12 : decode cX3_told 12 = .ok (.iload_n 1, 1) := by decide +kernel
theorem dX3_told_13 : decode cX3_told 13 = .ok (.tableswitch 153 0 10 #[59, 70, 78, 86, 94, 102, 110, 121, 129, 137, 148], 59) := by decide +kernel
theorem dX3_told_72 : decode cX3_told 72 = .ok (.aload_n 0, 1) := by decide +kernel
theorem dX3_told_73 : decode cX3_told 73 = .ok (.getfield 10, 3) := by decide +kernel
theorem dX3_told_76 : decode cX3_told 76 = .ok (.getfield 56, 3) := by decide +kernel
theorem dX3_told_79 : decode cX3_told 79 = .ok (.invokestatic 59, 3) := by decide +kernel
theorem dX3_told_82 : decode cX3_told 82 = .ok (.ireturn, 1) := by decide +kernel
theorem dX3_told_83 : decode cX3_told 83 = .ok (.aload_n 0, 1) := by decide +kernel
theorem dX3_told_84 : decode cX3_told 84 = .ok (.getfield 10, 3) := by decide +kernel
theorem dX3_told_87 : decode cX3_told 87 = .ok (.invokevirtual 156, 3) := by decide +kernel
theorem dX3_told_90 : decode cX3_told 90 = .ok (.ireturn, 1) := by decide +kernel
theorem dX3_told_91 : decode cX3_told 91 = .ok (.aload_n 0, 1) := by decide +kernel
theorem dX3_told_92 : decode cX3_told 92 = .ok (.getfield 10, 3) := by decide +kernel
theorem dX3_told_95 : decode cX3_told 95 = .ok (.getfield 159, 3) := by decide +kernel
theorem dX3_told_98 : decode cX3_told 98 = .ok (.ireturn, 1) := by decide +kernel
theorem dX3_told_99 : decode cX3_told 99 = .ok (.aload_n 0, 1) := by decide +kernel
theorem dX3_told_100 : decode cX3_told 100 = .ok (.getfield 10, 3) := by decide +kernel
theorem dX3_told_103 : decode cX3_told 103 = .ok (.getfield 162, 3) := by decide +kernel
theorem dX3_told_106 : decode cX3_told 106 = .ok (.ireturn, 1) := by decide +kernel
theorem dX3_told_107 : decode cX3_told 107 = .ok (.aload_n 0, 1) := by decide +kernel
theorem dX3_told_108 : decode cX3_told 108 = .ok (.getfield 10, 3) := by decide +kernel
theorem dX3_told_111 : decode cX3_told 111 = .ok (.invokevirtual 165, 3) := by decide +kernel
theorem dX3_told_114 : decode cX3_told 114 = .ok (.ireturn, 1) := by decide +kernel
theorem dX3_told_115 : decode cX3_told 115 = .ok (.aload_n 0, 1) := by decide +kernel
theorem dX3_told_116 : decode cX3_told 116 = .ok (.getfield 10, 3) := by decide +kernel
theorem dX3_told_119 : decode cX3_told 119 = .ok (.invokevirtual 119, 3) := by decide +kernel
theorem dX3_told_122 : decode cX3_told 122 = .ok (.ireturn, 1) := by decide +kernel
theorem dX3_told_123 : decode cX3_told 123 = .ok (.aload_n 0, 1) := by decide +kernel
theorem dX3_told_124 : decode cX3_told 124 = .ok (.getfield 10, 3) := by decide +kernel
theorem dX3_told_127 : decode cX3_told 127 = .ok (.getfield 97, 3) := by decide +kernel
theorem dX3_told_130 : decode cX3_told 130 = .ok (.invokevirtual 134, 3) := by decide +kernel
theorem dX3_told_133 : decode cX3_told 133 = .ok (.ireturn, 1) := by decide +kernel
theorem dX3_told_134 : decode cX3_told 134 = .ok (.aload_n 0, 1) := by decide +kernel
theorem dX3_told_135 : decode cX3_told 135 = .ok (.getfield 10, 3) := by decide +kernel
theorem dX3_told_138 : decode cX3_told 138 = .ok (.invokevirtual 168, 3) := by decide +kernel
theorem dX3_told_141 : decode cX3_told 141 = .ok (.ireturn, 1) := by decide +kernel
theorem dX3_told_142 : decode cX3_told 142 = .ok (.aload_n 0, 1) := by decide +kernel
theorem dX3_told_143 : decode cX3_told 143 = .ok (.getfield 10, 3) := by decide +kernel
theorem dX3_told_146 : decode cX3_told 146 = .ok (.invokevirtual 144, 3) := by decide +kernel
theorem dX3_told_149 : decode cX3_told 149 = .ok (.ireturn, 1) := by decide +kernel
theorem dX3_told_150 : decode cX3_told 150 = .ok (.aload_n 0, 1) := by decide +kernel
theorem dX3_told_151 : decode cX3_told 151 = .ok (.getfield 10, 3) := by decide +kernel
theorem dX3_told_154 : decode cX3_told 154 = .ok (.getfield 171, 3) := by decide +kernel
theorem dX3_told_157 : decode cX3_told 157 = .ok (.getfield 69, 3) := by decide +kernel
theorem dX3_told_160 : decode cX3_told 160 = .ok (.ireturn, 1) := by decide +kernel
theorem dX3_told_161 : decode cX3_told 161 = .ok (.aload_n 0, 1) := by decide +kernel
theorem dX3_told_162 : decode cX3_told 162 = .ok (.getfield 23, 3) := by decide +kernel
theorem dX3_told_165 : decode cX3_told 165 = .ok (.ireturn, 1) := by decide +kernel
theorem dX3_told_166 : decode cX3_told 166 = .ok (.aload_n 0, 1) := by decide +kernel
theorem dX3_told_167 : decode cX3_told 167 = .ok (.getfield 10, 3) := by decide +kernel
theorem dX3_told_170 : decode cX3_told 170 = .ok (.getfield 97, 3) := by decide +kernel
theorem dX3_told_173 : decode cX3_told 173 = .ok (.aload_n 0, 1) := by decide +kernel
theorem dX3_told_174 : decode cX3_told 174 = .ok (.getfield 10, 3) := by decide +kernel
theorem dX3_told_177 : decode cX3_told 177 = .ok (.aload_n 0, 1) := by decide +kernel
theorem dX3_told_178 : decode cX3_told 178 = .ok (.getfield 10, 3) := by decide +kernel
theorem dX3_told_181 : decode cX3_told 181 = .ok (.invokevirtual 119, 3) := by decide +kernel
theorem dX3_told_184 : decode cX3_told 184 = .ok (.invokevirtual 126, 3) := by decide +kernel
theorem dX3_told_187 : decode cX3_told 187 = .ok (.invokevirtual 175, 3) := by decide +kernel
theorem dX3_told_190 : decode cX3_told 190 = .ok (.ifCond .eq 7, 3) := by decide +kernel
theorem dX3_told_193 : decode cX3_told 193 = .ok (.iconst 1, 1) := by decide +kernel
theorem dX3_told_194 : decode cX3_told 194 = .ok (.goto 4, 3) := by decide +kernel
theorem dX3_told_197 : decode cX3_told 197 = .ok (.iconst 0, 1) := by decide +kernel
theorem dX3_told_198 : decode cX3_told 198 = .ok (.ireturn, 1) := by decide +kernel
theorem dX3_stream_0 : decode cX3_stream 0 = .ok (.iload_n 1, 1) := by decide +kernel
theorem dX3_stream_1 : decode cX3_stream 1 = .ok (.invokestatic 38, 3) := by decide +kernel
theorem dX3_stream_4 : decode cX3_stream 4 = .ok (.ifCond .eq 13, 3) := by decide +kernel
theorem dX3_stream_7 : decode cX3_stream 7 = .ok (.iload_n 2, 1) := by decide +kernel
theorem dX3_stream_8 : decode cX3_stream 8 = .ok (.iconst 0, 1) := by decide +kernel
theorem dX3_stream_9 : decode cX3_stream 9 = .ok (.bipush 7, 2) := by decide +kernel
theorem dX3_stream_11 : decode cX3_stream 11 = .ok (.invokestatic 42, 3) := by decide +kernel
theorem dX3_stream_14 : decode cX3_stream 14 = .ok (.ifCond .ne 5, 3) := by decide +kernel
theorem dX3_stream_17 : decode cX3_stream 17 = .ok (.iconst (-1), 1) := by decide +kernel
theorem dX3_stream_18 : decode cX3_stream 18 = .ok (.ireturn, 1) := by decide +kernel
theorem dX3_stream_19 : decode cX3_stream 19 = .ok (.aload_n 0, 1) := by decide +kernel
theorem dX3_stream_20 : decode cX3_stream 20 = .ok (.getfield 10, 3) := by decide +kernel
theorem dX3_stream_23 : decode cX3_stream 23 = .ok (.getfield 65, 3) := by decide +kernel
theorem dX3_stream_26 : decode cX3_stream 26 = .ok (.iload_n 1, 1) := by decide +kernel
theorem dX3_stream_27 : decode cX3_stream 27 = .ok (.aaload, 1) := by decide +kernel
theorem dX3_stream_28 : decode cX3_stream 28 = .ok (.astore_n 3, 1) := by decide +kernel
theorem dX3_stream_29 : decode cX3_stream 29 = .ok (.iload_n 2, 1) := by decide +kernel
theorem dX3_stream_30 : decode cX3_stream 30 = .ok (.iconst 5, 1) := by decide +kernel
theorem dX3_stream_31 : decode cX3_stream 31 = .ok (.if_icmp .lt 13, 3) := by decide +kernel
theorem dX3_stream_34 : decode cX3_stream 34 = .ok (.aload_n 3, 1) := by decide +kernel
theorem dX3_stream_35 : decode cX3_stream 35 = .ok (.getfield 69, 3) := by decide +kernel
theorem dX3_stream_38 : decode cX3_stream 38 = .ok (.ifCond .ne 6, 3) := by decide +kernel
theorem dX3_stream_41 : decode cX3_stream 41 = .ok (.bipush (-9), 2) := by decide +kernel
theorem dX3_stream_43 : decode cX3_stream 43 = .ok (.ireturn, 1) := by decide +kernel
theorem dX3_stream_44 : decode cX3_stream 44 = .ok (.aload_n 0, 1) := by decide +kernel
theorem dX3_stream_45 : decode cX3_stream 45 = .ok (.getfield 10, 3) := by decide +kernel
theorem dX3_stream_48 : decode cX3_stream 48 = .ok (.iload_n 1, 1) := by decide +kernel
theorem dX3_stream_49 : decode cX3_stream 49 = .ok (.invokevirtual 46, 3) := by decide +kernel
theorem dX3_stream_52 : decode cX3_stream 52 = .ok (.istore 4, 2) := by decide +kernel
theorem dX3_stream_54 : decode cX3_stream 54 = .ok (.iload_n 2, 1) := by decide +kernel
theorem dX3_stream_55 : decode cX3_stream 55 = .ok (.tableswitch 126 0 6 #[41, 52, 71, 90, 95, 100, 117], 41) := by decide +kernel
theorem dX3_stream_96 : decode cX3_stream 96 = .ok (.iload 4, 2) := by decide +kernel
theorem dX3_stream_98 : decode cX3_stream 98 = .ok (.ifCond .eq 7, 3) := by decide +kernel
theorem dX3_stream_101 : decode cX3_stream 101 = .ok (.iconst 1, 1) := by decide +kernel
theorem dX3_stream_102 : decode cX3_stream 102 = .ok (.goto 4, 3) := by decide +kernel
theorem dX3_stream_105 : decode cX3_stream 105 = .ok (.iconst 0, 1) := by decide +kernel
theorem dX3_stream_106 : decode cX3_stream 106 = .ok (.ireturn, 1) := by decide +kernel
theorem dX3_stream_107 : decode cX3_stream 107 = .ok (.iload 4, 2) := by decide +kernel
theorem dX3_stream_109 : decode cX3_stream 109 = .ok (.ifCond .eq 15, 3) := by decide +kernel
theorem dX3_stream_112 : decode cX3_stream 112 = .ok (.aload_n 0, 1) := by decide +kernel
theorem dX3_stream_113 : decode cX3_stream 113 = .ok (.getfield 10, 3) := by decide +kernel
theorem dX3_stream_116 : decode cX3_stream 116 = .ok (.getfield 82, 3) := by decide +kernel
theorem dX3_stream_119 : decode cX3_stream 119 = .ok (.iload_n 1, 1) := by decide +kernel
theorem dX3_stream_120 : decode cX3_stream 120 = .ok (.iaload, 1) := by decide +kernel
theorem dX3_stream_121 : decode cX3_stream 121 = .ok (.goto 4, 3) := by decide +kernel
theorem dX3_stream_124 : decode cX3_stream 124 = .ok (.iconst 0, 1) := by decide +kernel
theorem dX3_stream_125 : decode cX3_stream 125 = .ok (.ireturn, 1) := by decide +kernel
theorem dX3_stream_126 : decode cX3_stream 126 = .ok (.iload 4, 2) := by decide +kernel
theorem dX3_stream_128 : decode cX3_stream 128 = .ok (.ifCond .eq 15, 3) := by decide +kernel
theorem dX3_stream_131 : decode cX3_stream 131 = .ok (.aload_n 0, 1) := by decide +kernel
theorem dX3_stream_132 : decode cX3_stream 132 = .ok (.getfield 10, 3) := by decide +kernel
theorem dX3_stream_135 : decode cX3_stream 135 = .ok (.getfield 78, 3) := by decide +kernel
theorem dX3_stream_138 : decode cX3_stream 138 = .ok (.iload_n 1, 1) := by decide +kernel
theorem dX3_stream_139 : decode cX3_stream 139 = .ok (.iaload, 1) := by decide +kernel
theorem dX3_stream_140 : decode cX3_stream 140 = .ok (.goto 4, 3) := by decide +kernel
theorem dX3_stream_143 : decode cX3_stream 143 = .ok (.iconst 0, 1) := by decide +kernel
theorem dX3_stream_144 : decode cX3_stream 144 = .ok (.ireturn, 1) := by decide +kernel
theorem dX3_stream_145 : decode cX3_stream 145 = .ok (.aload_n 3, 1) := by decide +kernel
theorem dX3_stream_146 : decode cX3_stream 146 = .ok (.getfield 69, 3) := by decide +kernel
theorem dX3_stream_149 : decode cX3_stream 149 = .ok (.ireturn, 1) := by decide +kernel
theorem dX3_stream_150 : decode cX3_stream 150 = .ok (.aload_n 3, 1) := by decide +kernel
theorem dX3_stream_151 : decode cX3_stream 151 = .ok (.invokevirtual 179, 3) := by decide +kernel
theorem dX3_stream_154 : decode cX3_stream 154 = .ok (.ireturn, 1) := by decide +kernel
theorem dX3_stream_155 : decode cX3_stream 155 = .ok (.aload_n 0, 1) := by decide +kernel
theorem dX3_stream_156 : decode cX3_stream 156 = .ok (.getfield 10, 3) := by decide +kernel
theorem dX3_stream_159 : decode cX3_stream 159 = .ok (.iload_n 1, 1) := by decide +kernel
theorem dX3_stream_160 : decode cX3_stream 160 = .ok (.invokevirtual 182, 3) := by decide +kernel
theorem dX3_stream_163 : decode cX3_stream 163 = .ok (.ifCond .eq 7, 3) := by decide +kernel
theorem dX3_stream_166 : decode cX3_stream 166 = .ok (.iconst 1, 1) := by decide +kernel
theorem dX3_stream_167 : decode cX3_stream 167 = .ok (.goto 4, 3) := by decide +kernel
theorem dX3_stream_170 : decode cX3_stream 170 = .ok (.iconst 0, 1) := by decide +kernel
theorem dX3_stream_171 : decode cX3_stream 171 = .ok (.ireturn, 1) := by decide +kernel
theorem dX3_stream_172 : decode cX3_stream 172 = .ok (.aload_n 0, 1) := by decide +kernel
theorem dX3_stream_173 : decode cX3_stream 173 = .ok (.getfield 10, 3) := by decide +kernel
theorem dX3_stream_176 : decode cX3_stream 176 = .ok (.iload_n 1, 1) := by decide +kernel
theorem dX3_stream_177 : decode cX3_stream 177 = .ok (.invokevirtual 185, 3) := by decide +kernel
theorem dX3_stream_180 : decode cX3_stream 180 = .ok (.ireturn, 1) := by decide +kernel
theorem dX3_stream_181 : decode cX3_stream 181 = .ok (.aload_n 0, 1) := by decide +kernel
theorem dX3_stream_182 : decode cX3_stream 182 = .ok (.iload_n 1, 1) := by decide +kernel
theorem dX3_stream_183 : decode cX3_stream 183 = .ok (.iconst 0, 1) := by decide +kernel
theorem dX3_stream_184 : decode cX3_stream 184 = .ok (.invokevirtual 188, 3) := by decide +kernel
theorem dX3_stream_187 : decode cX3_stream 187 = .ok (.ireturn, 1) := by decide +kernel
theorem dX3_frame_0 : decode cX3_frame 0 = .ok (.iload_n 1, 1) := by decide +kernel
theorem dX3_frame_1 : decode cX3_frame 1 = .ok (.invokestatic 38, 3) := by decide +kernel
theorem dX3_frame_4 : decode cX3_frame 4 = .ok (.ifCond .eq 16, 3) := by decide +kernel
theorem dX3_frame_7 : decode cX3_frame 7 = .ok (.iload_n 2, 1) := by decide +kernel
theorem dX3_frame_8 : decode cX3_frame 8 = .ok (.ifCond .lt 12, 3) := by decide +kernel
theorem dX3_frame_11 : decode cX3_frame 11 = .ok (.iload_n 3, 1) := by decide +kernel
theorem dX3_frame_12 : decode cX3_frame 12 = .ok (.iconst 0, 1) := by decide +kernel
theorem dX3_frame_13 : decode cX3_frame 13 = .ok (.iconst 3, 1) := by decide +kernel
theorem dX3_frame_14 : decode cX3_frame 14 = .ok (.invokestatic 42, 3) := by decide +kernel
theorem dX3_frame_17 : decode cX3_frame 17 = .ok (.ifCond .ne 5, 3) := by decide +kernel
theorem dX3_frame_20 : decode cX3_frame 20 = .ok (.iconst (-1), 1) := by decide +kernel
theorem dX3_frame_21 : decode cX3_frame 21 = .ok (.ireturn, 1) := by decide +kernel
theorem dX3_frame_22 : decode cX3_frame 22 = .ok (.aload_n 0, 1) := by decide +kernel
theorem dX3_frame_23 : decode cX3_frame 23 = .ok (.getfield 10, 3) := by decide +kernel
theorem dX3_frame_26 : decode cX3_frame 26 = .ok (.getfield 65, 3) := by decide +kernel
theorem dX3_frame_29 : decode cX3_frame 29 = .ok (.iload_n 1, 1) := by decide +kernel
theorem dX3_frame_30 : decode cX3_frame 30 = .ok (.aaload, 1) := by decide +kernel
theorem dX3_frame_31 : decode cX3_frame 31 = .ok (.astore 4, 2) := by decide +kernel
theorem dX3_frame_33 : decode cX3_frame 33 = .ok (.iload_n 2, 1) := by decide +kernel
theorem dX3_frame_34 : decode cX3_frame 34 = .ok (.aload 4, 2) := by decide +kernel
theorem dX3_frame_36 : decode cX3_frame 36 = .ok (.getfield 69, 3) := by decide +kernel
theorem dX3_frame_39 : decode cX3_frame 39 = .ok (.if_icmp .lt 6, 3) := by decide +kernel
theorem dX3_frame_42 : decode cX3_frame 42 = .ok (.bipush (-9), 2) := by decide +kernel
theorem dX3_frame_44 : decode cX3_frame 44 = .ok (.ireturn, 1) := by decide +kernel
theorem dX3_frame_45 : decode cX3_frame 45 = .ok (.iload_n 3, 1) := by decide +kernel
theorem dX3_frame_46 : decode cX3_frame 46 = .ok (.tableswitch 47 0 2 #[26, 33, 40], 26) := by decide +kernel
theorem dX3_frame_72 : decode cX3_frame 72 = .ok (.aload 4, 2) := by decide +kernel
theorem dX3_frame_74 : decode cX3_frame 74 = .ok (.iload_n 2, 1) := by decide +kernel
theorem dX3_frame_75 : decode cX3_frame 75 = .ok (.invokevirtual 147, 3) := by decide +kernel
theorem dX3_frame_78 : decode cX3_frame 78 = .ok (.ireturn, 1) := by decide +kernel
theorem dX3_frame_79 : decode cX3_frame 79 = .ok (.aload 4, 2) := by decide +kernel
theorem dX3_frame_81 : decode cX3_frame 81 = .ok (.iload_n 2, 1) := by decide +kernel
theorem dX3_frame_82 : decode cX3_frame 82 = .ok (.invokevirtual 153, 3) := by decide +kernel
theorem dX3_frame_85 : decode cX3_frame 85 = .ok (.ireturn, 1) := by decide +kernel
theorem dX3_frame_86 : decode cX3_frame 86 = .ok (.aload 4, 2) := by decide +kernel
theorem dX3_frame_88 : decode cX3_frame 88 = .ok (.iload_n 2, 1) := by decide +kernel
theorem dX3_frame_89 : decode cX3_frame 89 = .ok (.invokevirtual 191, 3) := by decide +kernel
theorem dX3_frame_92 : decode cX3_frame 92 = .ok (.ireturn, 1) := by decide +kernel
theorem dX3_frame_93 : decode cX3_frame 93 = .ok (.aload_n 0, 1) := by decide +kernel
theorem dX3_frame_94 : decode cX3_frame 94 = .ok (.iload_n 1, 1) := by decide +kernel
theorem dX3_frame_95 : decode cX3_frame 95 = .ok (.iload_n 2, 1) := by decide +kernel
theorem dX3_frame_96 : decode cX3_frame 96 = .ok (.invokevirtual 188, 3) := by decide +kernel
theorem dX3_frame_99 : decode cX3_frame 99 = .ok (.ireturn, 1) := by decide +kernel
theorem dX3_log_0 : decode cX3_log 0 = .ok (.aload_n 0, 1) := by decide +kernel
theorem dX3_log_1 : decode cX3_log 1 = .ok (.getfield 10, 3) := by decide +kernel
theorem dX3_log_4 : decode cX3_log 4 = .ok (.getfield 171, 3) := by decide +kernel
theorem dX3_log_7 : decode cX3_log 7 = .ok (.astore_n 3, 1) := by decide +kernel
theorem dX3_log_8 : decode cX3_log 8 = .ok (.iload_n 1, 1) := by decide +kernel
theorem dX3_log_9 : decode cX3_log 9 = .ok (.ifCond .lt 20, 3) := by decide +kernel
theorem dX3_log_12 : decode cX3_log 12 = .ok (.iload_n 1, 1) := by decide +kernel
theorem dX3_log_13 : decode cX3_log 13 = .ok (.aload_n 3, 1) := by decide +kernel
theorem dX3_log_14 : decode cX3_log 14 = .ok (.getfield 69, 3) := by decide +kernel
theorem dX3_log_17 : decode cX3_log 17 = .ok (.if_icmp .ge 12, 3) := by decide +kernel
theorem dX3_log_20 : decode cX3_log 20 = .ok (.iload_n 2, 1) := by decide +kernel
theorem dX3_log_21 : decode cX3_log 21 = .ok (.iconst 0, 1) := by decide +kernel
theorem dX3_log_22 : decode cX3_log 22 = .ok (.iconst 3, 1) := by decide +kernel
theorem dX3_log_23 : decode cX3_log 23 = .ok (.invokestatic 42, 3) := by decide +kernel
theorem dX3_log_26 : decode cX3_log 26 = .ok (.ifCond .ne 5, 3) := by decide +kernel
theorem dX3_log_29 : decode cX3_log 29 = .ok (.iconst (-1), 1) := by decide +kernel
theorem dX3_log_30 : decode cX3_log 30 = .ok (.ireturn, 1) := by decide +kernel
theorem dX3_log_31 : decode cX3_log 31 = .ok (.iload_n 2, 1) := by decide +kernel
theorem dX3_log_32 : decode cX3_log 32 = .ok (.tableswitch 46 0 2 #[28, 34, 40], 28) := by decide +kernel
theorem dX3_log_60 : decode cX3_log 60 = .ok (.aload_n 3, 1) := by decide +kernel
theorem dX3_log_61 : decode cX3_log 61 = .ok (.iload_n 1, 1) := by decide +kernel
theorem dX3_log_62 : decode cX3_log 62 = .ok (.invokevirtual 147, 3) := by decide +kernel
theorem dX3_log_65 : decode cX3_log 65 = .ok (.ireturn, 1) := by decide +kernel
theorem dX3_log_66 : decode cX3_log 66 = .ok (.aload_n 3, 1) := by decide +kernel
theorem dX3_log_67 : decode cX3_log 67 = .ok (.iload_n 1, 1) := by decide +kernel
theorem dX3_log_68 : decode cX3_log 68 = .ok (.invokevirtual 194, 3) := by decide +kernel
theorem dX3_log_71 : decode cX3_log 71 = .ok (.ireturn, 1) := by decide +kernel
theorem dX3_log_72 : decode cX3_log 72 = .ok (.aload_n 3, 1) := by decide +kernel
theorem dX3_log_73 : decode cX3_log 73 = .ok (.iload_n 1, 1) := by decide +kernel
theorem dX3_log_74 : decode cX3_log 74 = .ok (.invokevirtual 153, 3) := by decide +kernel
theorem dX3_log_77 : decode cX3_log 77 = .ok (.ireturn, 1) := by decide +kernel
theorem dX3_log_78 : decode cX3_log 78 = .ok (.aload_n 3, 1) := by decide +kernel
theorem dX3_log_79 : decode cX3_log 79 = .ok (.iload_n 1, 1) := by decide +kernel
theorem dX3_log_80 : decode cX3_log 80 = .ok (.invokevirtual 191, 3) := by decide +kernel
theorem dX3_log_83 : decode cX3_log 83 = .ok (.ireturn, 1) := by decide +kernel
theorem dX3_relation_0 : decode cX3_relation 0 = .ok (.aload_n 0, 1) := by decide +kernel
theorem dX3_relation_1 : decode cX3_relation 1 = .ok (.iload_n 1, 1) := by decide +kernel
theorem dX3_relation_2 : decode cX3_relation 2 = .ok (.invokevirtual 197, 3) := by decide +kernel
theorem dX3_relation_5 : decode cX3_relation 5 = .ok (.ifCond .eq 11, 3) := by decide +kernel
theorem dX3_relation_8 : decode cX3_relation 8 = .ok (.iload_n 2, 1) := by decide +kernel
theorem dX3_relation_9 : decode cX3_relation 9 = .ok (.iload_n 3, 1) := by decide +kernel
theorem dX3_relation_10 : decode cX3_relation 10 = .ok (.invokestatic 93, 3) := by decide +kernel
theorem dX3_relation_13 : decode cX3_relation 13 = .ok (.ifCond .ne 5, 3) := by decide +kernel
theorem dX3_relation_16 : decode cX3_relation 16 = .ok (.iconst (-1), 1) := by decide +kernel
theorem dX3_relation_17 : decode cX3_relation 17 = .ok (.ireturn, 1) := by decide +kernel
theorem dX3_relation_18 : decode cX3_relation 18 = .ok (.aload_n 0, 1) := by decide +kernel
theorem dX3_relation_19 : decode cX3_relation 19 = .ok (.getfield 10, 3) := by decide +kernel
theorem dX3_relation_22 : decode cX3_relation 22 = .ok (.iload_n 1, 1) := by decide +kernel
theorem dX3_relation_23 : decode cX3_relation 23 = .ok (.invokevirtual 126, 3) := by decide +kernel
theorem dX3_relation_26 : decode cX3_relation 26 = .ok (.astore 4, 2) := by decide +kernel
theorem dX3_relation_28 : decode cX3_relation 28 = .ok (.aload 4, 2) := by decide +kernel
theorem dX3_relation_30 : decode cX3_relation 30 = .ok (.iload_n 2, 1) := by decide +kernel
theorem dX3_relation_31 : decode cX3_relation 31 = .ok (.iload_n 3, 1) := by decide +kernel
theorem dX3_relation_32 : decode cX3_relation 32 = .ok (.invokevirtual 101, 3) := by decide +kernel
theorem dX3_relation_35 : decode cX3_relation 35 = .ok (.ifCond .eq 19, 3) := by decide +kernel
theorem dX3_relation_38 : decode cX3_relation 38 = .ok (.aload 4, 2) := by decide +kernel
theorem dX3_relation_40 : decode cX3_relation 40 = .ok (.iload_n 2, 1) := by decide +kernel
theorem dX3_relation_41 : decode cX3_relation 41 = .ok (.iload_n 3, 1) := by decide +kernel
theorem dX3_relation_42 : decode cX3_relation 42 = .ok (.invokevirtual 106, 3) := by decide +kernel
theorem dX3_relation_45 : decode cX3_relation 45 = .ok (.ifCond .eq 7, 3) := by decide +kernel
theorem dX3_relation_48 : decode cX3_relation 48 = .ok (.iconst 1, 1) := by decide +kernel
theorem dX3_relation_49 : decode cX3_relation 49 = .ok (.goto 4, 3) := by decide +kernel
theorem dX3_relation_52 : decode cX3_relation 52 = .ok (.iconst 2, 1) := by decide +kernel
theorem dX3_relation_53 : decode cX3_relation 53 = .ok (.ireturn, 1) := by decide +kernel
theorem dX3_relation_54 : decode cX3_relation 54 = .ok (.aload 4, 2) := by decide +kernel
theorem dX3_relation_56 : decode cX3_relation 56 = .ok (.iload_n 3, 1) := by decide +kernel
theorem dX3_relation_57 : decode cX3_relation 57 = .ok (.iload_n 2, 1) := by decide +kernel
theorem dX3_relation_58 : decode cX3_relation 58 = .ok (.invokevirtual 101, 3) := by decide +kernel
theorem dX3_relation_61 : decode cX3_relation 61 = .ok (.ifCond .eq 19, 3) := by decide +kernel
theorem dX3_relation_64 : decode cX3_relation 64 = .ok (.aload 4, 2) := by decide +kernel
theorem dX3_relation_66 : decode cX3_relation 66 = .ok (.iload_n 3, 1) := by decide +kernel
theorem dX3_relation_67 : decode cX3_relation 67 = .ok (.iload_n 2, 1) := by decide +kernel
theorem dX3_relation_68 : decode cX3_relation 68 = .ok (.invokevirtual 106, 3) := by decide +kernel
theorem dX3_relation_71 : decode cX3_relation 71 = .ok (.ifCond .eq 7, 3) := by decide +kernel
theorem dX3_relation_74 : decode cX3_relation 74 = .ok (.iconst 3, 1) := by decide +kernel
theorem dX3_relation_75 : decode cX3_relation 75 = .ok (.goto 4, 3) := by decide +kernel
theorem dX3_relation_78 : decode cX3_relation 78 = .ok (.iconst 4, 1) := by decide +kernel
theorem dX3_relation_79 : decode cX3_relation 79 = .ok (.ireturn, 1) := by decide +kernel
theorem dX3_relation_80 : decode cX3_relation 80 = .ok (.iconst 0, 1) := by decide +kernel
theorem dX3_relation_81 : decode cX3_relation 81 = .ok (.ireturn, 1) := by decide +kernel
theorem dX3_order_0 : decode cX3_order 0 = .ok (.aload_n 0, 1) := by decide +kernel
theorem dX3_order_1 : decode cX3_order 1 = .ok (.iload_n 1, 1) := by decide +kernel
theorem dX3_order_2 : decode cX3_order 2 = .ok (.invokevirtual 197, 3) := by decide +kernel
theorem dX3_order_5 : decode cX3_order 5 = .ok (.ifCond .eq 12, 3) := by decide +kernel
theorem dX3_order_8 : decode cX3_order 8 = .ok (.iload_n 2, 1) := by decide +kernel
theorem dX3_order_9 : decode cX3_order 9 = .ok (.iconst 0, 1) := by decide +kernel
theorem dX3_order_10 : decode cX3_order 10 = .ok (.iconst 4, 1) := by decide +kernel
theorem dX3_order_11 : decode cX3_order 11 = .ok (.invokestatic 42, 3) := by decide +kernel
theorem dX3_order_14 : decode cX3_order 14 = .ok (.ifCond .ne 5, 3) := by decide +kernel
theorem dX3_order_17 : decode cX3_order 17 = .ok (.iconst (-1), 1) := by decide +kernel
theorem dX3_order_18 : decode cX3_order 18 = .ok (.ireturn, 1) := by decide +kernel
theorem dX3_order_19 : decode cX3_order 19 = .ok (.aload_n 0, 1) := by decide +kernel
theorem dX3_order_20 : decode cX3_order 20 = .ok (.getfield 10, 3) := by decide +kernel
theorem dX3_order_23 : decode cX3_order 23 = .ok (.iload_n 1, 1) := by decide +kernel
theorem dX3_order_24 : decode cX3_order 24 = .ok (.invokevirtual 126, 3) := by decide +kernel
theorem dX3_order_27 : decode cX3_order 27 = .ok (.astore_n 3, 1) := by decide +kernel
theorem dX3_order_28 : decode cX3_order 28 = .ok (.iload_n 2, 1) := by decide +kernel
theorem dX3_order_29 : decode cX3_order 29 = .ok (.tableswitch 82 0 3 #[31, 43, 55, 67], 31) := by decide +kernel
theorem dX3_order_60 : decode cX3_order 60 = .ok (.aload_n 3, 1) := by decide +kernel
theorem dX3_order_61 : decode cX3_order 61 = .ok (.aload_n 0, 1) := by decide +kernel
theorem dX3_order_62 : decode cX3_order 62 = .ok (.getfield 10, 3) := by decide +kernel
theorem dX3_order_65 : decode cX3_order 65 = .ok (.getfield 56, 3) := by decide +kernel
theorem dX3_order_68 : decode cX3_order 68 = .ok (.invokevirtual 200, 3) := by decide +kernel
theorem dX3_order_71 : decode cX3_order 71 = .ok (.ireturn, 1) := by decide +kernel
theorem dX3_order_72 : decode cX3_order 72 = .ok (.aload_n 3, 1) := by decide +kernel
theorem dX3_order_73 : decode cX3_order 73 = .ok (.aload_n 0, 1) := by decide +kernel
theorem dX3_order_74 : decode cX3_order 74 = .ok (.getfield 10, 3) := by decide +kernel
theorem dX3_order_77 : decode cX3_order 77 = .ok (.getfield 56, 3) := by decide +kernel
theorem dX3_order_80 : decode cX3_order 80 = .ok (.invokevirtual 203, 3) := by decide +kernel
theorem dX3_order_83 : decode cX3_order 83 = .ok (.ireturn, 1) := by decide +kernel
theorem dX3_order_84 : decode cX3_order 84 = .ok (.aload_n 3, 1) := by decide +kernel
theorem dX3_order_85 : decode cX3_order 85 = .ok (.aload_n 0, 1) := by decide +kernel
theorem dX3_order_86 : decode cX3_order 86 = .ok (.getfield 10, 3) := by decide +kernel
theorem dX3_order_89 : decode cX3_order 89 = .ok (.getfield 56, 3) := by decide +kernel
theorem dX3_order_92 : decode cX3_order 92 = .ok (.invokevirtual 206, 3) := by decide +kernel
theorem dX3_order_95 : decode cX3_order 95 = .ok (.ireturn, 1) := by decide +kernel
theorem dX3_order_96 : decode cX3_order 96 = .ok (.aload_n 3, 1) := by decide +kernel
theorem dX3_order_97 : decode cX3_order 97 = .ok (.aload_n 0, 1) := by decide +kernel
theorem dX3_order_98 : decode cX3_order 98 = .ok (.getfield 10, 3) := by decide +kernel
theorem dX3_order_101 : decode cX3_order 101 = .ok (.getfield 56, 3) := by decide +kernel
theorem dX3_order_104 : decode cX3_order 104 = .ok (.invokevirtual 209, 3) := by decide +kernel
theorem dX3_order_107 : decode cX3_order 107 = .ok (.invokestatic 59, 3) := by decide +kernel
theorem dX3_order_110 : decode cX3_order 110 = .ok (.ireturn, 1) := by decide +kernel
theorem dX3_order_111 : decode cX3_order 111 = .ok (.aload_n 3, 1) := by decide +kernel
theorem dX3_order_112 : decode cX3_order 112 = .ok (.invokevirtual 212, 3) := by decide +kernel
theorem dX3_order_115 : decode cX3_order 115 = .ok (.ireturn, 1) := by decide +kernel
theorem dX3_lists_0 : decode cX3_lists 0 = .ok (.aload_n 0, 1) := by decide +kernel
theorem dX3_lists_1 : decode cX3_lists 1 = .ok (.iload_n 1, 1) := by decide +kernel
theorem dX3_lists_2 : decode cX3_lists 2 = .ok (.invokevirtual 197, 3) := by decide +kernel
theorem dX3_lists_5 : decode cX3_lists 5 = .ok (.ifCond .ne 7, 3) := by decide +kernel
theorem dX3_lists_8 : decode cX3_lists 8 = .ok (.ldc2_w 215, 3) := by decide +kernel
theorem dX3_lists_11 : decode cX3_lists 11 = .ok (.lreturn, 1) := by decide +kernel
theorem dX3_lists_12 : decode cX3_lists 12 = .ok (.aload_n 0, 1) := by decide +kernel
theorem dX3_lists_13 : decode cX3_lists 13 = .ok (.getfield 10, 3) := by decide +kernel
theorem dX3_lists_16 : decode cX3_lists 16 = .ok (.iload_n 1, 1) := by decide +kernel
theorem dX3_lists_17 : decode cX3_lists 17 = .ok (.invokevirtual 126, 3) := by decide +kernel
theorem dX3_lists_20 : decode cX3_lists 20 = .ok (.aload_n 0, 1) := by decide +kernel
theorem dX3_lists_21 : decode cX3_lists 21 = .ok (.getfield 10, 3) := by decide +kernel
theorem dX3_lists_24 : decode cX3_lists 24 = .ok (.getfield 56, 3) := by decide +kernel
theorem dX3_lists_27 : decode cX3_lists 27 = .ok (.aload_n 0, 1) := by decide +kernel
theorem dX3_lists_28 : decode cX3_lists 28 = .ok (.getfield 34, 3) := by decide +kernel
theorem dX3_lists_31 : decode cX3_lists 31 = .ok (.invokevirtual 217, 3) := by decide +kernel
theorem dX3_lists_34 : decode cX3_lists 34 = .ok (.lreturn, 1) := by decide +kernel
theorem dX3_keep_0 : decode cX3_keep 0 = .ok (.iload_n 1, 1) := by decide +kernel
theorem dX3_keep_1 : decode cX3_keep 1 = .ok (.iconst 0, 1) := by decide +kernel
theorem dX3_keep_2 : decode cX3_keep 2 = .ok (.iconst 1, 1) := by decide +kernel
theorem dX3_keep_3 : decode cX3_keep 3 = .ok (.invokestatic 42, 3) := by decide +kernel
theorem dX3_keep_6 : decode cX3_keep 6 = .ok (.ifCond .ne 5, 3) := by decide +kernel
theorem dX3_keep_9 : decode cX3_keep 9 = .ok (.iconst (-1), 1) := by decide +kernel
theorem dX3_keep_10 : decode cX3_keep 10 = .ok (.ireturn, 1) := by decide +kernel
theorem dX3_keep_11 : decode cX3_keep 11 = .ok (.aload_n 0, 1) := by decide +kernel
theorem dX3_keep_12 : decode cX3_keep 12 = .ok (.getfield 27, 3) := by decide +kernel
theorem dX3_keep_15 : decode cX3_keep 15 = .ok (.iload_n 1, 1) := by decide +kernel
theorem dX3_keep_16 : decode cX3_keep 16 = .ok (.aaload, 1) := by decide +kernel
theorem dX3_keep_17 : decode cX3_keep 17 = .ok (.aload_n 0, 1) := by decide +kernel
theorem dX3_keep_18 : decode cX3_keep 18 = .ok (.getfield 10, 3) := by decide +kernel
theorem dX3_keep_21 : decode cX3_keep 21 = .ok (.invokevirtual 221, 3) := by decide +kernel
theorem dX3_keep_24 : decode cX3_keep 24 = .ok (.aload_n 0, 1) := by decide +kernel
theorem dX3_keep_25 : decode cX3_keep 25 = .ok (.getfield 30, 3) := by decide +kernel
theorem dX3_keep_28 : decode cX3_keep 28 = .ok (.iload_n 1, 1) := by decide +kernel
theorem dX3_keep_29 : decode cX3_keep 29 = .ok (.iconst 1, 1) := by decide +kernel
theorem dX3_keep_30 : decode cX3_keep 30 = .ok (.bastore, 1) := by decide +kernel
theorem dX3_keep_31 : decode cX3_keep 31 = .ok (.aload_n 0, 1) := by decide +kernel
theorem dX3_keep_32 : decode cX3_keep 32 = .ok (.getfield 10, 3) := by decide +kernel
theorem dX3_keep_35 : decode cX3_keep 35 = .ok (.invokevirtual 156, 3) := by decide +kernel
theorem dX3_keep_38 : decode cX3_keep 38 = .ok (.ireturn, 1) := by decide +kernel
theorem dX3_back_0 : decode cX3_back 0 = .ok (.iload_n 1, 1) := by decide +kernel
theorem dX3_back_1 : decode cX3_back 1 = .ok (.iconst 0, 1) := by decide +kernel
theorem dX3_back_2 : decode cX3_back 2 = .ok (.iconst 1, 1) := by decide +kernel
theorem dX3_back_3 : decode cX3_back 3 = .ok (.invokestatic 42, 3) := by decide +kernel
theorem dX3_back_6 : decode cX3_back 6 = .ok (.ifCond .ne 5, 3) := by decide +kernel
theorem dX3_back_9 : decode cX3_back 9 = .ok (.iconst (-1), 1) := by decide +kernel
theorem dX3_back_10 : decode cX3_back 10 = .ok (.ireturn, 1) := by decide +kernel
theorem dX3_back_11 : decode cX3_back 11 = .ok (.aload_n 0, 1) := by decide +kernel
theorem dX3_back_12 : decode cX3_back 12 = .ok (.getfield 30, 3) := by decide +kernel
theorem dX3_back_15 : decode cX3_back 15 = .ok (.iload_n 1, 1) := by decide +kernel
theorem dX3_back_16 : decode cX3_back 16 = .ok (.baload, 1) := by decide +kernel
theorem dX3_back_17 : decode cX3_back 17 = .ok (.ifCond .ne 6, 3) := by decide +kernel
theorem dX3_back_20 : decode cX3_back 20 = .ok (.bipush (-2), 2) := by decide +kernel
theorem dX3_back_22 : decode cX3_back 22 = .ok (.ireturn, 1) := by decide +kernel
theorem dX3_back_23 : decode cX3_back 23 = .ok (.aload_n 0, 1) := by decide +kernel
theorem dX3_back_24 : decode cX3_back 24 = .ok (.invokevirtual 49, 3) := by decide +kernel
theorem dX3_back_27 : decode cX3_back 27 = .ok (.aload_n 0, 1) := by decide +kernel
theorem dX3_back_28 : decode cX3_back 28 = .ok (.getfield 10, 3) := by decide +kernel
theorem dX3_back_31 : decode cX3_back 31 = .ok (.aload_n 0, 1) := by decide +kernel
theorem dX3_back_32 : decode cX3_back 32 = .ok (.getfield 27, 3) := by decide +kernel
theorem dX3_back_35 : decode cX3_back 35 = .ok (.iload_n 1, 1) := by decide +kernel
theorem dX3_back_36 : decode cX3_back 36 = .ok (.aaload, 1) := by decide +kernel
theorem dX3_back_37 : decode cX3_back 37 = .ok (.invokevirtual 221, 3) := by decide +kernel
theorem dX3_back_40 : decode cX3_back 40 = .ok (.aload_n 0, 1) := by decide +kernel
theorem dX3_back_41 : decode cX3_back 41 = .ok (.getfield 10, 3) := by decide +kernel
theorem dX3_back_44 : decode cX3_back 44 = .ok (.invokevirtual 156, 3) := by decide +kernel
theorem dX3_back_47 : decode cX3_back 47 = .ok (.ireturn, 1) := by decide +kernel
theorem dX3_isEpoch_0 : decode cX3_isEpoch 0 = .ok (.iload_n 1, 1) := by decide +kernel
theorem dX3_isEpoch_1 : decode cX3_isEpoch 1 = .ok (.ifCond .lt 18, 3) := by decide +kernel
theorem dX3_isEpoch_4 : decode cX3_isEpoch 4 = .ok (.iload_n 1, 1) := by decide +kernel
theorem dX3_isEpoch_5 : decode cX3_isEpoch 5 = .ok (.aload_n 0, 1) := by decide +kernel
theorem dX3_isEpoch_6 : decode cX3_isEpoch 6 = .ok (.getfield 10, 3) := by decide +kernel
theorem dX3_isEpoch_9 : decode cX3_isEpoch 9 = .ok (.getfield 113, 3) := by decide +kernel
theorem dX3_isEpoch_12 : decode cX3_isEpoch 12 = .ok (.if_icmp .ge 7, 3) := by decide +kernel
theorem dX3_isEpoch_15 : decode cX3_isEpoch 15 = .ok (.iconst 1, 1) := by decide +kernel
theorem dX3_isEpoch_16 : decode cX3_isEpoch 16 = .ok (.goto 4, 3) := by decide +kernel
theorem dX3_isEpoch_19 : decode cX3_isEpoch 19 = .ok (.iconst 0, 1) := by decide +kernel
theorem dX3_isEpoch_20 : decode cX3_isEpoch 20 = .ok (.ireturn, 1) := by decide +kernel
theorem dX3_isEpochOrDraft_0 : decode cX3_isEpochOrDraft 0 = .ok (.iload_n 1, 1) := by decide +kernel
theorem dX3_isEpochOrDraft_1 : decode cX3_isEpochOrDraft 1 = .ok (.iconst (-1), 1) := by decide +kernel
theorem dX3_isEpochOrDraft_2 : decode cX3_isEpochOrDraft 2 = .ok (.if_icmp .eq 11, 3) := by decide +kernel
theorem dX3_isEpochOrDraft_5 : decode cX3_isEpochOrDraft 5 = .ok (.aload_n 0, 1) := by decide +kernel
theorem dX3_isEpochOrDraft_6 : decode cX3_isEpochOrDraft 6 = .ok (.iload_n 1, 1) := by decide +kernel
theorem dX3_isEpochOrDraft_7 : decode cX3_isEpochOrDraft 7 = .ok (.invokevirtual 123, 3) := by decide +kernel
theorem dX3_isEpochOrDraft_10 : decode cX3_isEpochOrDraft 10 = .ok (.ifCond .eq 7, 3) := by decide +kernel
theorem dX3_isEpochOrDraft_13 : decode cX3_isEpochOrDraft 13 = .ok (.iconst 1, 1) := by decide +kernel
theorem dX3_isEpochOrDraft_14 : decode cX3_isEpochOrDraft 14 = .ok (.goto 4, 3) := by decide +kernel
theorem dX3_isEpochOrDraft_17 : decode cX3_isEpochOrDraft 17 = .ok (.iconst 0, 1) := by decide +kernel
theorem dX3_isEpochOrDraft_18 : decode cX3_isEpochOrDraft 18 = .ok (.ireturn, 1) := by decide +kernel
theorem dX3_record_0 : decode cX3_record 0 = .ok (.aload_n 0, 1) := by decide +kernel
theorem dX3_record_1 : decode cX3_record 1 = .ok (.getfield 23, 3) := by decide +kernel
theorem dX3_record_4 : decode cX3_record 4 = .ok (.bipush 8, 2) := by decide +kernel
theorem dX3_record_6 : decode cX3_record 6 = .ok (.if_icmp .lt 7, 3) := by decide +kernel
theorem dX3_record_9 : decode cX3_record 9 = .ok (.aload_n 0, 1) := by decide +kernel
theorem dX3_record_10 : decode cX3_record 10 = .ok (.invokevirtual 224, 3) := by decide +kernel
theorem dX3_record_13 : decode cX3_record 13 = .ok (.aload_n 0, 1) := by decide +kernel
theorem dX3_record_14 : decode cX3_record 14 = .ok (.getfield 19, 3) := by decide +kernel
theorem dX3_record_17 : decode cX3_record 17 = .ok (.aload_n 0, 1) := by decide +kernel
theorem dX3_record_18 : decode cX3_record 18 = .ok (.getfield 23, 3) := by decide +kernel
theorem dX3_record_21 : decode cX3_record 21 = .ok (.aaload, 1) := by decide +kernel
theorem dX3_record_22 : decode cX3_record 22 = .ok (.aload_n 0, 1) := by decide +kernel
theorem dX3_record_23 : decode cX3_record 23 = .ok (.getfield 10, 3) := by decide +kernel
theorem dX3_record_26 : decode cX3_record 26 = .ok (.invokevirtual 221, 3) := by decide +kernel
theorem dX3_record_29 : decode cX3_record 29 = .ok (.aload_n 0, 1) := by decide +kernel
theorem dX3_record_30 : decode cX3_record 30 = .ok (.dup, 1) := by decide +kernel
theorem dX3_record_31 : decode cX3_record 31 = .ok (.getfield 23, 3) := by decide +kernel
theorem dX3_record_34 : decode cX3_record 34 = .ok (.iconst 1, 1) := by decide +kernel
theorem dX3_record_35 : decode cX3_record 35 = .ok (.iadd, 1) := by decide +kernel
theorem dX3_record_36 : decode cX3_record 36 = .ok (.putfield 23, 3) := by decide +kernel
theorem dX3_record_39 : decode cX3_record 39 = .ok (.return_, 1) := by decide +kernel
theorem dX3_dropOldest_0 : decode cX3_dropOldest 0 = .ok (.aload_n 0, 1) := by decide +kernel
theorem dX3_dropOldest_1 : decode cX3_dropOldest 1 = .ok (.getfield 19, 3) := by decide +kernel
theorem dX3_dropOldest_4 : decode cX3_dropOldest 4 = .ok (.iconst 0, 1) := by decide +kernel
theorem dX3_dropOldest_5 : decode cX3_dropOldest 5 = .ok (.aaload, 1) := by decide +kernel
theorem dX3_dropOldest_6 : decode cX3_dropOldest 6 = .ok (.astore_n 1, 1) := by decide +kernel
theorem dX3_dropOldest_7 : decode cX3_dropOldest 7 = .ok (.iconst 1, 1) := by decide +kernel
theorem dX3_dropOldest_8 : decode cX3_dropOldest 8 = .ok (.istore_n 2, 1) := by decide +kernel
theorem dX3_dropOldest_9 : decode cX3_dropOldest 9 = .ok (.iload_n 2, 1) := by decide +kernel
theorem dX3_dropOldest_10 : decode cX3_dropOldest 10 = .ok (.bipush 8, 2) := by decide +kernel
theorem dX3_dropOldest_12 : decode cX3_dropOldest 12 = .ok (.if_icmp .ge 23, 3) := by decide +kernel
theorem dX3_dropOldest_15 : decode cX3_dropOldest 15 = .ok (.aload_n 0, 1) := by decide +kernel
theorem dX3_dropOldest_16 : decode cX3_dropOldest 16 = .ok (.getfield 19, 3) := by decide +kernel
theorem dX3_dropOldest_19 : decode cX3_dropOldest 19 = .ok (.iload_n 2, 1) := by decide +kernel
theorem dX3_dropOldest_20 : decode cX3_dropOldest 20 = .ok (.iconst 1, 1) := by decide +kernel
theorem dX3_dropOldest_21 : decode cX3_dropOldest 21 = .ok (.isub, 1) := by decide +kernel
theorem dX3_dropOldest_22 : decode cX3_dropOldest 22 = .ok (.aload_n 0, 1) := by decide +kernel
theorem dX3_dropOldest_23 : decode cX3_dropOldest 23 = .ok (.getfield 19, 3) := by decide +kernel
theorem dX3_dropOldest_26 : decode cX3_dropOldest 26 = .ok (.iload_n 2, 1) := by decide +kernel
theorem dX3_dropOldest_27 : decode cX3_dropOldest 27 = .ok (.aaload, 1) := by decide +kernel
theorem dX3_dropOldest_28 : decode cX3_dropOldest 28 = .ok (.aastore, 1) := by decide +kernel
theorem dX3_dropOldest_29 : decode cX3_dropOldest 29 = .ok (.iinc 2 1, 3) := by decide +kernel
theorem dX3_dropOldest_32 : decode cX3_dropOldest 32 = .ok (.goto (-23), 3) := by decide +kernel
theorem dX3_dropOldest_35 : decode cX3_dropOldest 35 = .ok (.aload_n 0, 1) := by decide +kernel
theorem dX3_dropOldest_36 : decode cX3_dropOldest 36 = .ok (.getfield 19, 3) := by decide +kernel
theorem dX3_dropOldest_39 : decode cX3_dropOldest 39 = .ok (.bipush 7, 2) := by decide +kernel
theorem dX3_dropOldest_41 : decode cX3_dropOldest 41 = .ok (.aload_n 1, 1) := by decide +kernel
theorem dX3_dropOldest_42 : decode cX3_dropOldest 42 = .ok (.aastore, 1) := by decide +kernel
theorem dX3_dropOldest_43 : decode cX3_dropOldest 43 = .ok (.aload_n 0, 1) := by decide +kernel
theorem dX3_dropOldest_44 : decode cX3_dropOldest 44 = .ok (.bipush 7, 2) := by decide +kernel
theorem dX3_dropOldest_46 : decode cX3_dropOldest 46 = .ok (.putfield 23, 3) := by decide +kernel
theorem dX3_dropOldest_49 : decode cX3_dropOldest 49 = .ok (.return_, 1) := by decide +kernel
theorem dX3_sentBefore_0 : decode cX3_sentBefore 0 = .ok (.aload_n 0, 1) := by decide +kernel
theorem dX3_sentBefore_1 : decode cX3_sentBefore 1 = .ok (.getfield 16, 3) := by decide +kernel
theorem dX3_sentBefore_4 : decode cX3_sentBefore 4 = .ok (.aload_n 0, 1) := by decide +kernel
theorem dX3_sentBefore_5 : decode cX3_sentBefore 5 = .ok (.getfield 10, 3) := by decide +kernel
theorem dX3_sentBefore_8 : decode cX3_sentBefore 8 = .ok (.invokevirtual 221, 3) := by decide +kernel
theorem dX3_sentBefore_11 : decode cX3_sentBefore 11 = .ok (.iload_n 2, 1) := by decide +kernel
theorem dX3_sentBefore_12 : decode cX3_sentBefore 12 = .ok (.istore_n 3, 1) := by decide +kernel
theorem dX3_sentBefore_13 : decode cX3_sentBefore 13 = .ok (.iconst 0, 1) := by decide +kernel
theorem dX3_sentBefore_14 : decode cX3_sentBefore 14 = .ok (.istore 4, 2) := by decide +kernel
theorem dX3_sentBefore_16 : decode cX3_sentBefore 16 = .ok (.iload 4, 2) := by decide +kernel
theorem dX3_sentBefore_18 : decode cX3_sentBefore 18 = .ok (.bipush 48, 2) := by decide +kernel
theorem dX3_sentBefore_20 : decode cX3_sentBefore 20 = .ok (.if_icmp .ge 53, 3) := by decide +kernel
theorem dX3_sentBefore_23 : decode cX3_sentBefore 23 = .ok (.aload_n 0, 1) := by decide +kernel
theorem dX3_sentBefore_24 : decode cX3_sentBefore 24 = .ok (.getfield 16, 3) := by decide +kernel
theorem dX3_sentBefore_27 : decode cX3_sentBefore 27 = .ok (.invokevirtual 144, 3) := by decide +kernel
theorem dX3_sentBefore_30 : decode cX3_sentBefore 30 = .ok (.istore 5, 2) := by decide +kernel
theorem dX3_sentBefore_32 : decode cX3_sentBefore 32 = .ok (.iload 5, 2) := by decide +kernel
theorem dX3_sentBefore_34 : decode cX3_sentBefore 34 = .ok (.bipush (-9), 2) := by decide +kernel
theorem dX3_sentBefore_36 : decode cX3_sentBefore 36 = .ok (.if_icmp .ne 6, 3) := by decide +kernel
theorem dX3_sentBefore_39 : decode cX3_sentBefore 39 = .ok (.bipush (-9), 2) := by decide +kernel
theorem dX3_sentBefore_41 : decode cX3_sentBefore 41 = .ok (.ireturn, 1) := by decide +kernel
theorem dX3_sentBefore_42 : decode cX3_sentBefore 42 = .ok (.iload 5, 2) := by decide +kernel
theorem dX3_sentBefore_44 : decode cX3_sentBefore 44 = .ok (.iload_n 1, 1) := by decide +kernel
theorem dX3_sentBefore_45 : decode cX3_sentBefore 45 = .ok (.if_icmp .ne 13, 3) := by decide +kernel
theorem dX3_sentBefore_48 : decode cX3_sentBefore 48 = .ok (.iload_n 3, 1) := by decide +kernel
theorem dX3_sentBefore_49 : decode cX3_sentBefore 49 = .ok (.ifCond .ne 6, 3) := by decide +kernel
theorem dX3_sentBefore_52 : decode cX3_sentBefore 52 = .ok (.iload 4, 2) := by decide +kernel
theorem dX3_sentBefore_54 : decode cX3_sentBefore 54 = .ok (.ireturn, 1) := by decide +kernel
theorem dX3_sentBefore_55 : decode cX3_sentBefore 55 = .ok (.iinc 3 (-1), 3) := by decide +kernel
theorem dX3_sentBefore_58 : decode cX3_sentBefore 58 = .ok (.aload_n 0, 1) := by decide +kernel
theorem dX3_sentBefore_59 : decode cX3_sentBefore 59 = .ok (.getfield 16, 3) := by decide +kernel
theorem dX3_sentBefore_62 : decode cX3_sentBefore 62 = .ok (.iload 5, 2) := by decide +kernel
theorem dX3_sentBefore_64 : decode cX3_sentBefore 64 = .ok (.invokevirtual 150, 3) := by decide +kernel
theorem dX3_sentBefore_67 : decode cX3_sentBefore 67 = .ok (.iinc 4 1, 3) := by decide +kernel
theorem dX3_sentBefore_70 : decode cX3_sentBefore 70 = .ok (.goto (-54), 3) := by decide +kernel
theorem dX3_sentBefore_73 : decode cX3_sentBefore 73 = .ok (.bipush (-9), 2) := by decide +kernel
theorem dX3_sentBefore_75 : decode cX3_sentBefore 75 = .ok (.ireturn, 1) := by decide +kernel
set_option maxRecDepth 20000 in
theorem ggX3_open_X3_isStream : GoodIn wsX3_open wsX3_isStream := goodIn_r _ [6] (by decide +kernel) (by decide +kernel)
set_option maxRecDepth 20000 in
theorem gX3_open_X3_isStream : GoodIn wsX3_open (va_wsS RX3 38 yX3_isStream wsX3_isStream) := goodIn_app (goodIn_of _ (by decide +kernel)) ggX3_open_X3_isStream
set_option maxRecDepth 20000 in
theorem ggX3_open_X3_isWithin : GoodIn wsX3_open wsX3_isWithin := goodIn_r _ [9] (by decide +kernel) (by decide +kernel)
set_option maxRecDepth 20000 in
theorem gX3_open_X3_isWithin : GoodIn wsX3_open (va_wsS RX3 42 yX3_isWithin wsX3_isWithin) := goodIn_app (goodIn_of _ (by decide +kernel)) ggX3_open_X3_isWithin
set_option maxRecDepth 20000 in
theorem ggX3_open_X2_isOpen : GoodIn wsX3_open wsX2_isOpen := goodIn_r _ [14, 15, 16, 5, 17, 82, 83, 84, 85, 86, 87, 88, 89, 90, 91] (by decide +kernel) (by decide +kernel)
set_option maxRecDepth 20000 in
theorem gX3_open_X2_isOpen : GoodIn wsX3_open (wsV RX3 46 RX2 yX2_isOpen wsX2_isOpen) := goodIn_app (goodIn_of _ (by decide +kernel)) ggX3_open_X2_isOpen
set_option maxRecDepth 20000 in
theorem ggX3_open_X3_record : GoodIn wsX3_open wsX3_record := goodIn_r _ [21, 22, 23, 1, 24, 25, 26, 5, 27, 28, 29, 30, 13, 31, 15, 32, 33, 34, 35, 36, 37, 38, 39, 40, 41, 42, 43, 44, 45, 46, 47, 48, 49, 50, 51, 52, 53, 54, 55, 56, 57, 58, 59, 60, 61, 75, 76, 77, 78, 79, 80, 81, 82, 83, 84, 85, 86, 87, 88, 89, 90, 91, 92, 93, 94, 95, 96, 97, 98] (by decide +kernel) (by decide +kernel)
set_option maxRecDepth 20000 in
theorem gX3_open_X3_record : GoodIn wsX3_open (wsV RX3 49 RX3 yX3_record wsX3_record) := goodIn_app (goodIn_of _ (by decide +kernel)) ggX3_open_X3_record
set_option maxRecDepth 20000 in
theorem ggX3_open_X2_openStream : GoodIn wsX3_open wsX2_openStream := goodIn_r _ [65, 15, 32, 33, 4, 5, 6, 66, 67, 82, 83, 84, 85, 86, 87, 88, 89, 90, 91] (by decide +kernel) (by decide +kernel)
set_option maxRecDepth 20000 in
theorem gX3_open_X2_openStream : GoodIn wsX3_open (wsV RX3 52 RX2 yX2_openStream wsX2_openStream) := goodIn_app (goodIn_of _ (by decide +kernel)) ggX3_open_X2_openStream
set_option maxRecDepth 20000 in
theorem ggX3_open_J6_bitCount_0f7a4 : GoodIn wsX3_open wsJ6_bitCount_0f7a4 := goodIn_r _ [71, 72, 73, 74] (by decide +kernel) (by decide +kernel)
set_option maxRecDepth 20000 in
theorem gX3_open_J6_bitCount_0f7a4 : GoodIn wsX3_open (va_wsS RX3 59 yJ6_bitCount_0f7a4 wsJ6_bitCount_0f7a4) := goodIn_app (goodIn_of _ (by decide +kernel)) ggX3_open_J6_bitCount_0f7a4
set_option maxRecDepth 20000 in
theorem ggX3_close_X3_isStream : GoodIn wsX3_close wsX3_isStream := goodIn_r _ [8] (by decide +kernel) (by decide +kernel)
set_option maxRecDepth 20000 in
theorem gX3_close_X3_isStream : GoodIn wsX3_close (va_wsS RX3 38 yX3_isStream wsX3_isStream) := goodIn_app (goodIn_of _ (by decide +kernel)) ggX3_close_X3_isStream
set_option maxRecDepth 20000 in
theorem ggX3_close_X2_isOpen : GoodIn wsX3_close wsX2_isOpen := goodIn_r _ [13, 14, 15, 7, 16, 74, 75, 76, 77, 78, 79, 80, 81, 82, 83] (by decide +kernel) (by decide +kernel)
set_option maxRecDepth 20000 in
theorem gX3_close_X2_isOpen : GoodIn wsX3_close (wsV RX3 46 RX2 yX2_isOpen wsX2_isOpen) := goodIn_app (goodIn_of _ (by decide +kernel)) ggX3_close_X2_isOpen
set_option maxRecDepth 20000 in
theorem ggX3_close_X3_record : GoodIn wsX3_close wsX3_record := goodIn_r _ [20, 21, 22, 1, 23, 24, 25, 7, 26, 27, 28, 29, 12, 30, 14, 31, 32, 33, 34, 35, 36, 37, 38, 39, 40, 41, 42, 43, 44, 45, 46, 47, 48, 49, 50, 51, 52, 53, 54, 55, 56, 57, 58, 59, 60, 67, 68, 69, 70, 71, 72, 73, 74, 75, 76, 77, 78, 79, 80, 81, 82, 83, 84, 85, 86, 87, 88, 89, 90] (by decide +kernel) (by decide +kernel)
set_option maxRecDepth 20000 in
theorem gX3_close_X3_record : GoodIn wsX3_close (wsV RX3 49 RX3 yX3_record wsX3_record) := goodIn_app (goodIn_of _ (by decide +kernel)) ggX3_close_X3_record
set_option maxRecDepth 20000 in
theorem ggX3_close_X2_closeStream : GoodIn wsX3_close wsX2_closeStream := goodIn_r _ [64, 14, 65, 7, 66, 74, 75, 76, 77, 78, 79, 80, 81, 82, 83] (by decide +kernel) (by decide +kernel)
set_option maxRecDepth 20000 in
theorem gX3_close_X2_closeStream : GoodIn wsX3_close (wsV RX3 74 RX2 yX2_closeStream wsX2_closeStream) := goodIn_app (goodIn_of _ (by decide +kernel)) ggX3_close_X2_closeStream
set_option maxRecDepth 20000 in
theorem ggX3_setWeight_X3_isStream : GoodIn wsX3_setWeight wsX3_isStream := goodIn_r _ [6] (by decide +kernel) (by decide +kernel)
set_option maxRecDepth 20000 in
theorem gX3_setWeight_X3_isStream : GoodIn wsX3_setWeight (va_wsS RX3 38 yX3_isStream wsX3_isStream) := goodIn_app (goodIn_of _ (by decide +kernel)) ggX3_setWeight_X3_isStream
set_option maxRecDepth 20000 in
theorem ggX3_setWeight_X3_isWithin : GoodIn wsX3_setWeight wsX3_isWithin := goodIn_r _ [9] (by decide +kernel) (by decide +kernel)
set_option maxRecDepth 20000 in
theorem gX3_setWeight_X3_isWithin : GoodIn wsX3_setWeight (va_wsS RX3 42 yX3_isWithin wsX3_isWithin) := goodIn_app (goodIn_of _ (by decide +kernel)) ggX3_setWeight_X3_isWithin
set_option maxRecDepth 20000 in
theorem ggX3_setWeight_X2_isOpen : GoodIn wsX3_setWeight wsX2_isOpen := goodIn_r _ [14, 15, 16, 5, 17, 69, 70, 71, 72, 73, 74, 75, 76, 77, 78] (by decide +kernel) (by decide +kernel)
set_option maxRecDepth 20000 in
theorem gX3_setWeight_X2_isOpen : GoodIn wsX3_setWeight (wsV RX3 46 RX2 yX2_isOpen wsX2_isOpen) := goodIn_app (goodIn_of _ (by decide +kernel)) ggX3_setWeight_X2_isOpen
set_option maxRecDepth 20000 in
theorem ggX3_setWeight_X3_record : GoodIn wsX3_setWeight wsX3_record := goodIn_r _ [21, 22, 23, 1, 24, 25, 26, 5, 27, 28, 29, 30, 13, 31, 15, 32, 33, 34, 35, 36, 37, 38, 39, 40, 41, 42, 43, 44, 45, 46, 47, 48, 49, 50, 51, 52, 53, 54, 55, 56, 57, 58, 59, 60, 61, 62, 63, 64, 65, 66, 67, 68, 69, 70, 71, 72, 73, 74, 75, 76, 77, 78, 79, 80, 81, 82, 83, 84, 85] (by decide +kernel) (by decide +kernel)
set_option maxRecDepth 20000 in
theorem gX3_setWeight_X3_record : GoodIn wsX3_setWeight (wsV RX3 49 RX3 yX3_record wsX3_record) := goodIn_app (goodIn_of _ (by decide +kernel)) ggX3_setWeight_X3_record
set_option maxRecDepth 20000 in
theorem ggX3_push_X3_isStream : GoodIn wsX3_push wsX3_isStream := goodIn_r _ [6] (by decide +kernel) (by decide +kernel)
set_option maxRecDepth 20000 in
theorem gX3_push_X3_isStream : GoodIn wsX3_push (va_wsS RX3 38 yX3_isStream wsX3_isStream) := goodIn_app (goodIn_of _ (by decide +kernel)) ggX3_push_X3_isStream
set_option maxRecDepth 20000 in
theorem ggX3_push_X3_isWithin : GoodIn wsX3_push wsX3_isWithin := goodIn_r _ [9] (by decide +kernel) (by decide +kernel)
set_option maxRecDepth 20000 in
theorem gX3_push_X3_isWithin : GoodIn wsX3_push (va_wsS RX3 42 yX3_isWithin wsX3_isWithin) := goodIn_app (goodIn_of _ (by decide +kernel)) ggX3_push_X3_isWithin
set_option maxRecDepth 20000 in
theorem ggX3_push_X2_isOpen : GoodIn wsX3_push wsX2_isOpen := goodIn_r _ [14, 15, 16, 5, 17, 86, 87, 88, 89, 90, 91, 92, 93, 94, 95] (by decide +kernel) (by decide +kernel)
set_option maxRecDepth 20000 in
theorem gX3_push_X2_isOpen : GoodIn wsX3_push (wsV RX3 46 RX2 yX2_isOpen wsX2_isOpen) := goodIn_app (goodIn_of _ (by decide +kernel)) ggX3_push_X2_isOpen
set_option maxRecDepth 20000 in
theorem ggX3_push_X0_isFull : GoodIn wsX3_push wsX0_isFull := goodIn_r _ [22, 23, 24, 96, 97, 98, 99, 100] (by decide +kernel) (by decide +kernel)
set_option maxRecDepth 20000 in
theorem gX3_push_X0_isFull : GoodIn wsX3_push (wsV RX3 85 RX0 yX0_isFull wsX0_isFull) := goodIn_app (goodIn_of _ (by decide +kernel)) ggX3_push_X0_isFull
set_option maxRecDepth 20000 in
theorem ggX3_push_X3_record : GoodIn wsX3_push wsX3_record := goodIn_r _ [28, 29, 30, 1, 31, 32, 33, 5, 34, 35, 36, 37, 13, 38, 15, 39, 40, 41, 42, 43, 44, 45, 46, 47, 48, 49, 50, 21, 51, 23, 24, 52, 53, 54, 55, 56, 57, 58, 59, 60, 61, 62, 63, 64, 65, 79, 80, 81, 82, 83, 84, 85, 86, 87, 88, 89, 90, 91, 92, 93, 94, 95, 96, 97, 98, 99, 100, 101, 102] (by decide +kernel) (by decide +kernel)
set_option maxRecDepth 20000 in
theorem gX3_push_X3_record : GoodIn wsX3_push (wsV RX3 49 RX3 yX3_record wsX3_record) := goodIn_app (goodIn_of _ (by decide +kernel)) ggX3_push_X3_record
set_option maxRecDepth 20000 in
theorem ggX3_push_X2_takeFrame : GoodIn wsX3_push wsX2_takeFrame := goodIn_r _ [69, 45, 41, 4, 5, 6, 70, 71, 72, 13, 73, 43, 74, 75, 76, 21, 77, 24, 23, 56, 57, 58, 78, 19, 20, 22, 86, 87, 88, 89, 90, 91, 92, 93, 94, 95, 96, 97, 98, 99, 100] (by decide +kernel) (by decide +kernel)
set_option maxRecDepth 20000 in
theorem gX3_push_X2_takeFrame : GoodIn wsX3_push (wsV RX3 89 RX2 yX2_takeFrame wsX2_takeFrame) := goodIn_app (goodIn_of _ (by decide +kernel)) ggX3_push_X2_takeFrame
set_option maxRecDepth 20000 in
theorem ggX3_edge_X3_areTwoStreams : GoodIn wsX3_edge wsX3_areTwoStreams := goodIn_r _ [6, 7, 8, 5, 9] (by decide +kernel) (by decide +kernel)
set_option maxRecDepth 20000 in
theorem gX3_edge_X3_areTwoStreams : GoodIn wsX3_edge (va_wsS RX3 93 yX3_areTwoStreams wsX3_areTwoStreams) := goodIn_app (goodIn_of _ (by decide +kernel)) ggX3_edge_X3_areTwoStreams
set_option maxRecDepth 20000 in
theorem ggX3_edge_X3_isWithin : GoodIn wsX3_edge wsX3_isWithin := goodIn_r _ [12] (by decide +kernel) (by decide +kernel)
set_option maxRecDepth 20000 in
theorem gX3_edge_X3_isWithin : GoodIn wsX3_edge (va_wsS RX3 42 yX3_isWithin wsX3_isWithin) := goodIn_app (goodIn_of _ (by decide +kernel)) ggX3_edge_X3_isWithin
set_option maxRecDepth 20000 in
theorem ggX3_edge_X1_precedes : GoodIn wsX3_edge wsX1_precedes := goodIn_r _ [17, 18, 8, 5, 9, 19, 20, 96, 97] (by decide +kernel) (by decide +kernel)
set_option maxRecDepth 20000 in
theorem gX3_edge_X1_precedes : GoodIn wsX3_edge (wsV RX3 101 RX1 yX1_precedes wsX1_precedes) := goodIn_app (goodIn_of _ (by decide +kernel)) ggX3_edge_X1_precedes
set_option maxRecDepth 20000 in
theorem ggX3_edge_X3_record : GoodIn wsX3_edge wsX3_record := goodIn_r _ [24, 25, 26, 1, 27, 28, 29, 5, 30, 31, 32, 33, 34, 35, 36, 37, 38, 39, 40, 41, 42, 43, 44, 45, 46, 47, 48, 49, 50, 51, 52, 53, 54, 55, 56, 57, 58, 59, 60, 61, 62, 16, 63, 64, 18, 79, 80, 81, 82, 83, 84, 85, 86, 87, 88, 89, 90, 91, 92, 93, 94, 95, 98, 99, 100, 101, 102, 96, 97] (by decide +kernel) (by decide +kernel)
set_option maxRecDepth 20000 in
theorem gX3_edge_X3_record : GoodIn wsX3_edge (wsV RX3 49 RX3 yX3_record wsX3_record) := goodIn_app (goodIn_of _ (by decide +kernel)) ggX3_edge_X3_record
set_option maxRecDepth 20000 in
theorem ggX3_edge_X1_hasEdge : GoodIn wsX3_edge wsX1_hasEdge := goodIn_r _ [68, 64, 8, 5, 9, 19, 20, 96, 97] (by decide +kernel) (by decide +kernel)
set_option maxRecDepth 20000 in
theorem gX3_edge_X1_hasEdge : GoodIn wsX3_edge (wsV RX3 106 RX1 yX1_hasEdge wsX1_hasEdge) := goodIn_app (goodIn_of _ (by decide +kernel)) ggX3_edge_X1_hasEdge
set_option maxRecDepth 20000 in
theorem ggX3_edge_X1_putEdge : GoodIn wsX3_edge wsX1_putEdge := goodIn_r _ [72, 64, 4, 5, 6, 7, 8, 9, 73, 74, 75, 76, 77, 16, 78, 18, 19, 20, 96, 97] (by decide +kernel) (by decide +kernel)
set_option maxRecDepth 20000 in
theorem gX3_edge_X1_putEdge : GoodIn wsX3_edge (wsV RX3 109 RX1 yX1_putEdge wsX1_putEdge) := goodIn_app (goodIn_of _ (by decide +kernel)) ggX3_edge_X1_putEdge
set_option maxRecDepth 20000 in
theorem ggX3_commit_X3_record : GoodIn wsX3_commit wsX3_record := goodIn_r _ [7, 8, 9, 1, 10, 11, 12, 6, 13, 14, 15, 16, 17, 18, 19, 20, 21, 22, 23, 24, 25, 26, 27, 28, 29, 30, 31, 32, 33, 34, 35, 36, 37, 38, 39, 40, 41, 42, 43, 44, 45, 46, 47, 48, 49, 58, 59, 60, 61, 62, 63, 64, 65, 66, 67, 68, 69, 70, 71, 72, 73, 74, 75, 76, 77, 78, 79, 80, 81] (by decide +kernel) (by decide +kernel)
set_option maxRecDepth 20000 in
theorem gX3_commit_X3_record : GoodIn wsX3_commit (wsV RX3 49 RX3 yX3_record wsX3_record) := goodIn_app (goodIn_of _ (by decide +kernel)) ggX3_commit_X3_record
set_option maxRecDepth 20000 in
theorem ggX3_commit_X2_beginEpoch : GoodIn wsX3_commit wsX2_beginEpoch := goodIn_r _ [53, 24, 25, 23, 43, 44, 45, 46, 47, 48, 49, 65, 66, 67, 68, 69, 70, 71, 72, 73, 74, 80, 81] (by decide +kernel) (by decide +kernel)
set_option maxRecDepth 20000 in
theorem gX3_commit_X2_beginEpoch : GoodIn wsX3_commit (wsV RX3 116 RX2 yX2_beginEpoch wsX2_beginEpoch) := goodIn_app (goodIn_of _ (by decide +kernel)) ggX3_commit_X2_beginEpoch
set_option maxRecDepth 20000 in
theorem ggX3_commit_X2_currentEpoch : GoodIn wsX3_commit wsX2_currentEpoch := goodIn_r _ [57, 24, 65, 66, 67, 68, 69, 70, 71, 72, 73, 74] (by decide +kernel) (by decide +kernel)
set_option maxRecDepth 20000 in
theorem gX3_commit_X2_currentEpoch : GoodIn wsX3_commit (wsV RX3 119 RX2 yX2_currentEpoch wsX2_currentEpoch) := goodIn_app (goodIn_of _ (by decide +kernel)) ggX3_commit_X2_currentEpoch
set_option maxRecDepth 20000 in
theorem ggX3_revert_X3_isEpoch : GoodIn wsX3_revert wsX3_isEpoch := goodIn_r _ [7, 1, 8, 71, 72, 73, 74, 75, 76, 77, 78, 79, 80, 81, 82, 83, 84, 85, 86, 87] (by decide +kernel) (by decide +kernel)
set_option maxRecDepth 20000 in
theorem gX3_revert_X3_isEpoch : GoodIn wsX3_revert (wsV RX3 123 RX3 yX3_isEpoch wsX3_isEpoch) := goodIn_app (goodIn_of _ (by decide +kernel)) ggX3_revert_X3_isEpoch
set_option maxRecDepth 20000 in
theorem ggX3_revert_X3_record : GoodIn wsX3_revert wsX3_record := goodIn_r _ [12, 13, 14, 1, 15, 16, 17, 6, 18, 19, 20, 21, 22, 23, 24, 25, 26, 27, 28, 29, 30, 31, 32, 33, 34, 35, 36, 37, 38, 39, 40, 41, 42, 43, 44, 45, 46, 47, 48, 49, 50, 51, 52, 53, 54, 71, 72, 73, 74, 75, 76, 77, 78, 79, 80, 81, 82, 83, 84, 85, 86, 87, 88, 89, 90, 91, 92, 93, 94] (by decide +kernel) (by decide +kernel)
set_option maxRecDepth 20000 in
theorem gX3_revert_X3_record : GoodIn wsX3_revert (wsV RX3 49 RX3 yX3_record wsX3_record) := goodIn_app (goodIn_of _ (by decide +kernel)) ggX3_revert_X3_record
set_option maxRecDepth 20000 in
theorem ggX3_revert_X2_orderOf : GoodIn wsX3_revert wsX2_orderOf := goodIn_r _ [58, 29, 30, 28, 78, 79, 80, 81, 82, 83, 84, 85, 86, 87] (by decide +kernel) (by decide +kernel)
set_option maxRecDepth 20000 in
theorem gX3_revert_X2_orderOf : GoodIn wsX3_revert (wsV RX3 126 RX2 yX2_orderOf wsX2_orderOf) := goodIn_app (goodIn_of _ (by decide +kernel)) ggX3_revert_X2_orderOf
set_option maxRecDepth 20000 in
theorem ggX3_revert_X1_copyFrom : GoodIn wsX3_revert wsX1_copyFrom := goodIn_r _ [52, 53, 54, 93, 94] (by decide +kernel) (by decide +kernel)
set_option maxRecDepth 20000 in
theorem gX3_revert_X1_copyFrom : GoodIn wsX3_revert (wsV RX3 130 RX1 yX1_copyFrom wsX1_copyFrom) := goodIn_app (goodIn_of _ (by decide +kernel)) ggX3_revert_X1_copyFrom
set_option maxRecDepth 20000 in
theorem ggX3_revert_X1_edgeCount : GoodIn wsX3_revert wsX1_edgeCount := goodIn_r _ [63, 53, 64, 65, 66, 67, 68, 69, 70, 93, 94] (by decide +kernel) (by decide +kernel)
set_option maxRecDepth 20000 in
theorem gX3_revert_X1_edgeCount : GoodIn wsX3_revert (wsV RX3 134 RX1 yX1_edgeCount wsX1_edgeCount) := goodIn_app (goodIn_of _ (by decide +kernel)) ggX3_revert_X1_edgeCount
set_option maxRecDepth 20000 in
theorem ggX3_witness_X3_areTwoStreams : GoodIn wsX3_witness wsX3_areTwoStreams := goodIn_r _ [6, 7, 8, 5, 9] (by decide +kernel) (by decide +kernel)
set_option maxRecDepth 20000 in
theorem gX3_witness_X3_areTwoStreams : GoodIn wsX3_witness (va_wsS RX3 93 yX3_areTwoStreams wsX3_areTwoStreams) := goodIn_app (goodIn_of _ (by decide +kernel)) ggX3_witness_X3_areTwoStreams
set_option maxRecDepth 20000 in
theorem ggX3_witness_X1_distance : GoodIn wsX3_witness wsX1_distance := goodIn_r _ [14, 15, 5, 16, 17, 18, 19, 20, 21, 13, 22, 23, 54, 55] (by decide +kernel) (by decide +kernel)
set_option maxRecDepth 20000 in
theorem gX3_witness_X1_distance : GoodIn wsX3_witness (wsV RX3 137 RX1 yX1_distance wsX1_distance) := goodIn_app (goodIn_of _ (by decide +kernel)) ggX3_witness_X1_distance
set_option maxRecDepth 20000 in
theorem ggX3_witness_X1_streamOfWalk : GoodIn wsX3_witness wsX1_streamOfWalk := goodIn_r _ [27, 28, 11, 12, 13, 14, 15, 5, 16, 17, 18, 19, 20, 21, 22, 23, 29, 30, 31, 32, 33, 34, 35, 36, 8, 9, 54, 55] (by decide +kernel) (by decide +kernel)
set_option maxRecDepth 20000 in
theorem gX3_witness_X1_streamOfWalk : GoodIn wsX3_witness (wsV RX3 140 RX1 yX1_streamOfWalk wsX1_streamOfWalk) := goodIn_app (goodIn_of _ (by decide +kernel)) ggX3_witness_X1_streamOfWalk
set_option maxRecDepth 20000 in
theorem ggX3_send_X2_nextStream : GoodIn wsX3_send wsX2_nextStream := goodIn_r _ [7, 8, 9, 10, 6, 11, 12, 13, 14, 15, 16, 17, 18, 19, 20, 21, 22, 23, 24, 25, 26, 27, 28, 29, 30, 31, 32, 33, 34, 35, 36, 37, 38, 39, 40, 41, 42, 43, 44, 45, 46, 47, 48, 49, 50, 51, 52, 53, 54, 55, 56, 124, 125, 126, 127, 128, 129, 130, 131, 132, 133, 134, 135, 136, 137, 138, 139, 140] (by decide +kernel) (by decide +kernel)
set_option maxRecDepth 20000 in
theorem gX3_send_X2_nextStream : GoodIn wsX3_send (wsV RX3 144 RX2 yX2_nextStream wsX2_nextStream) := goodIn_app (goodIn_of _ (by decide +kernel)) ggX3_send_X2_nextStream
set_option maxRecDepth 20000 in
theorem ggX3_send_X3_record : GoodIn wsX3_send wsX3_record := goodIn_r _ [60, 61, 62, 1, 63, 64, 65, 15, 66, 67, 68, 69, 6, 70, 71, 56, 55, 12, 38, 36, 37, 72, 73, 74, 75, 76, 77, 24, 78, 31, 79, 80, 81, 82, 83, 84, 85, 26, 86, 87, 88, 42, 89, 90, 44, 117, 118, 119, 120, 121, 122, 123, 124, 125, 126, 127, 128, 129, 130, 131, 132, 133, 134, 135, 136, 137, 138, 139, 140] (by decide +kernel) (by decide +kernel)
set_option maxRecDepth 20000 in
theorem gX3_send_X3_record : GoodIn wsX3_send (wsV RX3 49 RX3 yX3_record wsX3_record) := goodIn_app (goodIn_of _ (by decide +kernel)) ggX3_send_X3_record
set_option maxRecDepth 20000 in
theorem ggX3_send_X0_numberAt : GoodIn wsX3_send wsX0_numberAt := goodIn_r _ [94, 79, 27, 28, 29, 24, 30, 31, 134, 135, 136, 137, 138] (by decide +kernel) (by decide +kernel)
set_option maxRecDepth 20000 in
theorem gX3_send_X0_numberAt : GoodIn wsX3_send (wsV RX3 147 RX0 yX0_numberAt wsX0_numberAt) := goodIn_app (goodIn_of _ (by decide +kernel)) ggX3_send_X0_numberAt
set_option maxRecDepth 20000 in
theorem ggX3_send_X2_sendFirst : GoodIn wsX3_send wsX2_sendFirst := goodIn_r _ [98, 12, 13, 74, 55, 73, 14, 15, 16, 99, 100, 101, 24, 102, 85, 27, 28, 29, 30, 31, 103, 104, 105, 106, 79, 107, 108, 109, 110, 84, 26, 111, 92, 93, 94, 21, 22, 23, 25, 112, 113, 114, 115, 116, 124, 125, 126, 127, 128, 129, 130, 131, 132, 133, 134, 135, 136, 137, 138] (by decide +kernel) (by decide +kernel)
set_option maxRecDepth 20000 in
theorem gX3_send_X2_sendFirst : GoodIn wsX3_send (wsV RX3 150 RX2 yX2_sendFirst wsX2_sendFirst) := goodIn_app (goodIn_of _ (by decide +kernel)) ggX3_send_X2_sendFirst
set_option maxRecDepth 20000 in
theorem ggX3_sendSome_X3_isWithin : GoodIn wsX3_sendSome wsX3_isWithin := goodIn_r _ [6] (by decide +kernel) (by decide +kernel)
set_option maxRecDepth 20000 in
theorem gX3_sendSome_X3_isWithin : GoodIn wsX3_sendSome (va_wsS RX3 42 yX3_isWithin wsX3_isWithin) := goodIn_app (goodIn_of _ (by decide +kernel)) ggX3_sendSome_X3_isWithin
set_option maxRecDepth 20000 in
theorem ggX3_sendSome_X3_record : GoodIn wsX3_sendSome wsX3_record := goodIn_r _ [10, 11, 12, 1, 13, 14, 15, 5, 16, 17, 18, 19, 20, 21, 22, 23, 24, 25, 26, 27, 28, 29, 30, 31, 32, 33, 34, 35, 36, 37, 38, 39, 40, 41, 42, 43, 44, 45, 46, 47, 48, 49, 50, 51, 52, 120, 121, 122, 123, 124, 125, 126, 127, 128, 129, 130, 131, 132, 133, 134, 135, 136, 137, 138, 139, 140, 141, 142, 143] (by decide +kernel) (by decide +kernel)
set_option maxRecDepth 20000 in
theorem gX3_sendSome_X3_record : GoodIn wsX3_sendSome (wsV RX3 49 RX3 yX3_record wsX3_record) := goodIn_app (goodIn_of _ (by decide +kernel)) ggX3_sendSome_X3_record
set_option maxRecDepth 20000 in
theorem ggX3_sendSome_X2_nextStream : GoodIn wsX3_sendSome wsX2_nextStream := goodIn_r _ [56, 57, 58, 59, 20, 60, 25, 61, 62, 5, 63, 64, 65, 66, 67, 68, 69, 70, 35, 71, 45, 72, 73, 74, 75, 37, 76, 77, 78, 79, 27, 28, 26, 80, 81, 82, 49, 83, 52, 84, 85, 86, 87, 88, 89, 90, 91, 92, 93, 24, 23, 127, 128, 129, 130, 131, 132, 133, 134, 135, 136, 137, 138, 139, 140, 141, 142, 143] (by decide +kernel) (by decide +kernel)
set_option maxRecDepth 20000 in
theorem gX3_sendSome_X2_nextStream : GoodIn wsX3_sendSome (wsV RX3 144 RX2 yX2_nextStream wsX2_nextStream) := goodIn_app (goodIn_of _ (by decide +kernel)) ggX3_sendSome_X2_nextStream
set_option maxRecDepth 20000 in
theorem ggX3_sendSome_X0_sizeAt : GoodIn wsX3_sendSome wsX0_sizeAt := goodIn_r _ [97, 44, 72, 73, 74, 35, 75, 37, 137, 138, 139, 140, 141] (by decide +kernel) (by decide +kernel)
set_option maxRecDepth 20000 in
theorem gX3_sendSome_X0_sizeAt : GoodIn wsX3_sendSome (wsV RX3 153 RX0 yX0_sizeAt wsX0_sizeAt) := goodIn_app (goodIn_of _ (by decide +kernel)) ggX3_sendSome_X0_sizeAt
set_option maxRecDepth 20000 in
theorem ggX3_sendSome_X2_sendFirst : GoodIn wsX3_sendSome wsX2_sendFirst := goodIn_r _ [101, 25, 61, 31, 24, 30, 62, 5, 63, 102, 95, 96, 35, 97, 44, 72, 73, 74, 75, 37, 103, 104, 105, 106, 38, 107, 108, 109, 110, 43, 45, 111, 112, 113, 114, 68, 69, 70, 71, 115, 116, 117, 118, 119, 127, 128, 129, 130, 131, 132, 133, 134, 135, 136, 137, 138, 139, 140, 141] (by decide +kernel) (by decide +kernel)
set_option maxRecDepth 20000 in
theorem gX3_sendSome_X2_sendFirst : GoodIn wsX3_sendSome (wsV RX3 150 RX2 yX2_sendFirst wsX2_sendFirst) := goodIn_app (goodIn_of _ (by decide +kernel)) ggX3_sendSome_X2_sendFirst

set_option maxRecDepth 20000 in
theorem ggX3_told_X3_isWithin : GoodIn wsX3_told wsX3_isWithin := goodIn_r _ [12] (by decide +kernel) (by decide +kernel)
set_option maxRecDepth 20000 in
theorem gX3_told_X3_isWithin : GoodIn wsX3_told (va_wsS RX3 42 yX3_isWithin wsX3_isWithin) := goodIn_app (goodIn_of _ (by decide +kernel)) ggX3_told_X3_isWithin
set_option maxRecDepth 20000 in
theorem ggX3_told_J6_bitCount_0f7a4 : GoodIn wsX3_told wsJ6_bitCount_0f7a4 := goodIn_r _ [16, 17, 18, 19] (by decide +kernel) (by decide +kernel)
set_option maxRecDepth 20000 in
theorem gX3_told_J6_bitCount_0f7a4 : GoodIn wsX3_told (va_wsS RX3 59 yJ6_bitCount_0f7a4 wsJ6_bitCount_0f7a4) := goodIn_app (goodIn_of _ (by decide +kernel)) ggX3_told_J6_bitCount_0f7a4
set_option maxRecDepth 20000 in
theorem ggX3_told_X2_waitingCount : GoodIn wsX3_told wsX2_waitingCount := goodIn_r _ [24, 25, 26, 112, 113, 114, 115, 116, 117, 118, 119, 120, 121, 122, 123, 124, 125, 126] (by decide +kernel) (by decide +kernel)
set_option maxRecDepth 20000 in
theorem gX3_told_X2_waitingCount : GoodIn wsX3_told (wsV RX3 156 RX2 yX2_waitingCount wsX2_waitingCount) := goodIn_app (goodIn_of _ (by decide +kernel)) ggX3_told_X2_waitingCount
set_option maxRecDepth 20000 in
theorem ggX3_told_X2_waitingSize : GoodIn wsX3_told wsX2_waitingSize := goodIn_r _ [30, 25, 31, 32, 33, 34, 35, 36, 37, 112, 113, 114, 115, 116, 117, 118, 119, 120, 121, 122, 123, 124, 125, 126] (by decide +kernel) (by decide +kernel)
set_option maxRecDepth 20000 in
theorem gX3_told_X2_waitingSize : GoodIn wsX3_told (wsV RX3 165 RX2 yX2_waitingSize wsX2_waitingSize) := goodIn_app (goodIn_of _ (by decide +kernel)) ggX3_told_X2_waitingSize
set_option maxRecDepth 20000 in
theorem ggX3_told_X2_currentEpoch : GoodIn wsX3_told wsX2_currentEpoch := goodIn_r _ [41, 42, 112, 113, 114, 115, 116, 117, 118, 119, 120, 121] (by decide +kernel) (by decide +kernel)
set_option maxRecDepth 20000 in
theorem gX3_told_X2_currentEpoch : GoodIn wsX3_told (wsV RX3 119 RX2 yX2_currentEpoch wsX2_currentEpoch) := goodIn_app (goodIn_of _ (by decide +kernel)) ggX3_told_X2_currentEpoch
set_option maxRecDepth 20000 in
theorem ggX3_told_X1_edgeCount : GoodIn wsX3_told wsX1_edgeCount := goodIn_r _ [47, 48, 49, 14, 15, 16, 17, 18, 19, 127, 128] (by decide +kernel) (by decide +kernel)
set_option maxRecDepth 20000 in
theorem gX3_told_X1_edgeCount : GoodIn wsX3_told (wsV RX3 134 RX1 yX1_edgeCount wsX1_edgeCount) := goodIn_app (goodIn_of _ (by decide +kernel)) ggX3_told_X1_edgeCount
set_option maxRecDepth 20000 in
theorem ggX3_told_X2_candidateCount : GoodIn wsX3_told wsX2_candidateCount := goodIn_r _ [53, 54, 55, 56, 23, 57, 25, 26, 58, 11, 59, 60, 61, 62, 63, 64, 65, 66, 34, 67, 68, 69, 70, 71, 72, 36, 73, 74, 75, 76, 42, 77, 78, 79, 80, 81, 46, 82, 83, 84, 85, 86, 87, 88, 89, 112, 113, 114, 115, 116, 117, 118, 119, 120, 121, 122, 123, 124, 125, 126, 127, 128] (by decide +kernel) (by decide +kernel)
set_option maxRecDepth 20000 in
theorem gX3_told_X2_candidateCount : GoodIn wsX3_told (wsV RX3 168 RX2 yX2_candidateCount wsX2_candidateCount) := goodIn_app (goodIn_of _ (by decide +kernel)) ggX3_told_X2_candidateCount
set_option maxRecDepth 20000 in
theorem ggX3_told_X2_nextStream : GoodIn wsX3_told wsX2_nextStream := goodIn_r _ [93, 54, 55, 56, 23, 57, 25, 26, 58, 11, 59, 60, 61, 62, 63, 64, 65, 66, 34, 67, 68, 69, 70, 71, 72, 36, 73, 74, 75, 76, 42, 77, 78, 79, 80, 81, 46, 82, 83, 84, 85, 86, 87, 88, 89, 94, 95, 96, 97, 98, 99, 112, 113, 114, 115, 116, 117, 118, 119, 120, 121, 122, 123, 124, 125, 126, 127, 128] (by decide +kernel) (by decide +kernel)
set_option maxRecDepth 20000 in
theorem gX3_told_X2_nextStream : GoodIn wsX3_told (wsV RX3 144 RX2 yX2_nextStream wsX2_nextStream) := goodIn_app (goodIn_of _ (by decide +kernel)) ggX3_told_X2_nextStream
set_option maxRecDepth 20000 in
theorem ggX3_told_X2_orderOf : GoodIn wsX3_told wsX2_orderOf := goodIn_r _ [76, 42, 77, 78, 112, 113, 114, 115, 116, 117, 118, 119, 120, 121] (by decide +kernel) (by decide +kernel)
set_option maxRecDepth 20000 in
theorem gX3_told_X2_orderOf : GoodIn wsX3_told (wsV RX3 126 RX2 yX2_orderOf wsX2_orderOf) := goodIn_app (goodIn_of _ (by decide +kernel)) ggX3_told_X2_orderOf
set_option maxRecDepth 20000 in
theorem ggX3_told_X1_hasSameEdges : GoodIn wsX3_told wsX1_hasSameEdges := goodIn_r _ [104, 48, 127, 128] (by decide +kernel) (by decide +kernel)
set_option maxRecDepth 20000 in
theorem gX3_told_X1_hasSameEdges : GoodIn wsX3_told (wsV RX3 175 RX1 yX1_hasSameEdges wsX1_hasSameEdges) := goodIn_app (goodIn_of _ (by decide +kernel)) ggX3_told_X1_hasSameEdges
set_option maxRecDepth 20000 in
theorem ggX3_stream_X3_isStream : GoodIn wsX3_stream wsX3_isStream := goodIn_r _ [9] (by decide +kernel) (by decide +kernel)
set_option maxRecDepth 20000 in
theorem gX3_stream_X3_isStream : GoodIn wsX3_stream (va_wsS RX3 38 yX3_isStream wsX3_isStream) := goodIn_app (goodIn_of _ (by decide +kernel)) ggX3_stream_X3_isStream
set_option maxRecDepth 20000 in
theorem ggX3_stream_X3_isWithin : GoodIn wsX3_stream wsX3_isWithin := goodIn_r _ [12] (by decide +kernel) (by decide +kernel)
set_option maxRecDepth 20000 in
theorem gX3_stream_X3_isWithin : GoodIn wsX3_stream (va_wsS RX3 42 yX3_isWithin wsX3_isWithin) := goodIn_app (goodIn_of _ (by decide +kernel)) ggX3_stream_X3_isWithin
set_option maxRecDepth 20000 in
theorem ggX3_stream_X2_isOpen : GoodIn wsX3_stream wsX2_isOpen := goodIn_r _ [17, 18, 19, 8, 20, 135, 136, 137, 138, 139, 140, 141, 142, 143, 144] (by decide +kernel) (by decide +kernel)
set_option maxRecDepth 20000 in
theorem gX3_stream_X2_isOpen : GoodIn wsX3_stream (wsV RX3 46 RX2 yX2_isOpen wsX2_isOpen) := goodIn_app (goodIn_of _ (by decide +kernel)) ggX3_stream_X2_isOpen
set_option maxRecDepth 20000 in
theorem ggX3_stream_X0_sizeOfAll : GoodIn wsX3_stream wsX0_sizeOfAll := goodIn_r _ [25, 26, 27, 145, 146, 147, 148, 149] (by decide +kernel) (by decide +kernel)
set_option maxRecDepth 20000 in
theorem gX3_stream_X0_sizeOfAll : GoodIn wsX3_stream (wsV RX3 179 RX0 yX0_sizeOfAll wsX0_sizeOfAll) := goodIn_app (goodIn_of _ (by decide +kernel)) ggX3_stream_X0_sizeOfAll
set_option maxRecDepth 20000 in
theorem ggX3_stream_X2_isCandidate : GoodIn wsX3_stream wsX2_isCandidate := goodIn_r _ [31, 32, 33, 7, 8, 9, 34, 35, 36, 16, 37, 38, 39, 40, 24, 41, 42, 43, 44, 45, 46, 26, 47, 48, 49, 50, 51, 52, 53, 54, 55, 56, 57, 58, 59, 19, 20, 60, 61, 62, 63, 135, 136, 137, 138, 139, 140, 141, 142, 143, 144, 145, 146, 147, 148, 149, 150, 151] (by decide +kernel) (by decide +kernel)
set_option maxRecDepth 20000 in
theorem gX3_stream_X2_isCandidate : GoodIn wsX3_stream (wsV RX3 182 RX2 yX2_isCandidate wsX2_isCandidate) := goodIn_app (goodIn_of _ (by decide +kernel)) ggX3_stream_X2_isCandidate
set_option maxRecDepth 20000 in
theorem ggX3_stream_X2_blockersOfFirst : GoodIn wsX3_stream wsX2_blockersOfFirst := goodIn_r _ [37, 32, 33, 7, 8, 9, 38, 39, 40, 24, 41, 42, 43, 44, 45, 46, 26, 47, 48, 49, 16, 50, 51, 52, 53, 54, 55, 56, 57, 58, 59, 19, 20, 60, 61, 62, 63, 135, 136, 137, 138, 139, 140, 141, 142, 143, 144, 145, 146, 147, 148, 149, 150, 151] (by decide +kernel) (by decide +kernel)
set_option maxRecDepth 20000 in
theorem gX3_stream_X2_blockersOfFirst : GoodIn wsX3_stream (wsV RX3 185 RX2 yX2_blockersOfFirst wsX2_blockersOfFirst) := goodIn_app (goodIn_of _ (by decide +kernel)) ggX3_stream_X2_blockersOfFirst
set_option maxRecDepth 20000 in
theorem ggX3_stream_X3_sentBefore : GoodIn wsX3_stream wsX3_sentBefore := goodIn_r _ [68, 69, 1, 70, 71, 72, 16, 73, 18, 74, 75, 32, 53, 51, 52, 76, 77, 78, 79, 80, 81, 24, 82, 26, 83, 84, 85, 86, 87, 88, 27, 42, 89, 90, 91, 57, 92, 93, 59, 94, 95, 96, 97, 98, 29, 30, 31, 33, 7, 8, 9, 34, 35, 36, 37, 38, 39, 40, 41, 43, 44, 45, 46, 47, 48, 49, 50, 54, 55, 56, 58, 19, 20, 60, 61, 62, 63, 99, 100, 101, 102, 103, 104, 105, 106, 107, 108, 109, 110, 111, 112, 113, 114, 115, 116, 117, 118, 119, 120, 121, 122, 123, 124, 125, 126, 127, 128, 129, 130, 131, 132, 133, 134, 135, 136, 137, 138, 139, 140, 141, 142, 143, 144, 145, 146, 147, 148, 149, 150, 151] (by decide +kernel) (by decide +kernel)
set_option maxRecDepth 20000 in
theorem gX3_stream_X3_sentBefore : GoodIn wsX3_stream (wsV RX3 188 RX3 yX3_sentBefore wsX3_sentBefore) := goodIn_app (goodIn_of _ (by decide +kernel)) ggX3_stream_X3_sentBefore
set_option maxRecDepth 20000 in
theorem ggX3_frame_X3_isStream : GoodIn wsX3_frame wsX3_isStream := goodIn_r _ [7] (by decide +kernel) (by decide +kernel)
set_option maxRecDepth 20000 in
theorem gX3_frame_X3_isStream : GoodIn wsX3_frame (va_wsS RX3 38 yX3_isStream wsX3_isStream) := goodIn_app (goodIn_of _ (by decide +kernel)) ggX3_frame_X3_isStream
set_option maxRecDepth 20000 in
theorem ggX3_frame_X3_isWithin : GoodIn wsX3_frame wsX3_isWithin := goodIn_r _ [10] (by decide +kernel) (by decide +kernel)
set_option maxRecDepth 20000 in
theorem gX3_frame_X3_isWithin : GoodIn wsX3_frame (va_wsS RX3 42 yX3_isWithin wsX3_isWithin) := goodIn_app (goodIn_of _ (by decide +kernel)) ggX3_frame_X3_isWithin
set_option maxRecDepth 20000 in
theorem ggX3_frame_X0_numberAt : GoodIn wsX3_frame wsX0_numberAt := goodIn_r _ [15, 16, 17, 18, 19, 14, 20, 21, 136, 137, 138, 139, 140] (by decide +kernel) (by decide +kernel)
set_option maxRecDepth 20000 in
theorem gX3_frame_X0_numberAt : GoodIn wsX3_frame (wsV RX3 147 RX0 yX0_numberAt wsX0_numberAt) := goodIn_app (goodIn_of _ (by decide +kernel)) ggX3_frame_X0_numberAt
set_option maxRecDepth 20000 in
theorem ggX3_frame_X0_sizeAt : GoodIn wsX3_frame wsX0_sizeAt := goodIn_r _ [25, 26, 17, 18, 19, 14, 20, 21, 136, 137, 138, 139, 140] (by decide +kernel) (by decide +kernel)
set_option maxRecDepth 20000 in
theorem gX3_frame_X0_sizeAt : GoodIn wsX3_frame (wsV RX3 153 RX0 yX0_sizeAt wsX0_sizeAt) := goodIn_app (goodIn_of _ (by decide +kernel)) ggX3_frame_X0_sizeAt
set_option maxRecDepth 20000 in
theorem ggX3_frame_X0_epochAt : GoodIn wsX3_frame wsX0_epochAt := goodIn_r _ [30, 31, 17, 18, 19, 14, 20, 21, 136, 137, 138, 139, 140] (by decide +kernel) (by decide +kernel)
set_option maxRecDepth 20000 in
theorem gX3_frame_X0_epochAt : GoodIn wsX3_frame (wsV RX3 191 RX0 yX0_epochAt wsX0_epochAt) := goodIn_app (goodIn_of _ (by decide +kernel)) ggX3_frame_X0_epochAt
set_option maxRecDepth 20000 in
theorem ggX3_frame_X3_sentBefore : GoodIn wsX3_frame wsX3_sentBefore := goodIn_r _ [35, 36, 1, 37, 38, 39, 40, 41, 42, 43, 44, 45, 46, 47, 48, 49, 50, 51, 52, 53, 54, 14, 55, 21, 16, 56, 57, 58, 59, 60, 26, 31, 61, 62, 63, 64, 65, 66, 67, 68, 69, 70, 71, 72, 73, 74, 75, 76, 5, 6, 7, 77, 78, 79, 80, 81, 28, 29, 30, 17, 18, 19, 20, 82, 83, 84, 85, 86, 87, 88, 89, 90, 91, 92, 93, 94, 95, 96, 97, 98, 99, 100, 101, 102, 103, 104, 23, 24, 25, 105, 106, 107, 108, 109, 110, 111, 112, 113, 12, 13, 15, 114, 115, 116, 117, 118, 119, 120, 121, 122, 123, 124, 125, 126, 127, 128, 129, 130, 131, 132, 133, 134, 135, 136, 137, 138, 139, 140, 141, 142] (by decide +kernel) (by decide +kernel)
set_option maxRecDepth 20000 in
theorem gX3_frame_X3_sentBefore : GoodIn wsX3_frame (wsV RX3 188 RX3 yX3_sentBefore wsX3_sentBefore) := goodIn_app (goodIn_of _ (by decide +kernel)) ggX3_frame_X3_sentBefore
set_option maxRecDepth 20000 in
theorem ggX3_log_X3_isWithin : GoodIn wsX3_log wsX3_isWithin := goodIn_r _ [7] (by decide +kernel) (by decide +kernel)
set_option maxRecDepth 20000 in
theorem gX3_log_X3_isWithin : GoodIn wsX3_log (va_wsS RX3 42 yX3_isWithin wsX3_isWithin) := goodIn_app (goodIn_of _ (by decide +kernel)) ggX3_log_X3_isWithin
set_option maxRecDepth 20000 in
theorem ggX3_log_X0_numberAt : GoodIn wsX3_log wsX0_numberAt := goodIn_r _ [12, 13, 14, 15, 16, 11, 17, 18, 51, 52, 53, 54, 55] (by decide +kernel) (by decide +kernel)
set_option maxRecDepth 20000 in
theorem gX3_log_X0_numberAt : GoodIn wsX3_log (wsV RX3 147 RX0 yX0_numberAt wsX0_numberAt) := goodIn_app (goodIn_of _ (by decide +kernel)) ggX3_log_X0_numberAt
set_option maxRecDepth 20000 in
theorem ggX3_log_X0_streamAt : GoodIn wsX3_log wsX0_streamAt := goodIn_r _ [22, 23, 14, 15, 16, 11, 17, 18, 51, 52, 53, 54, 55] (by decide +kernel) (by decide +kernel)
set_option maxRecDepth 20000 in
theorem gX3_log_X0_streamAt : GoodIn wsX3_log (wsV RX3 194 RX0 yX0_streamAt wsX0_streamAt) := goodIn_app (goodIn_of _ (by decide +kernel)) ggX3_log_X0_streamAt
set_option maxRecDepth 20000 in
theorem ggX3_log_X0_sizeAt : GoodIn wsX3_log wsX0_sizeAt := goodIn_r _ [27, 28, 14, 15, 16, 11, 17, 18, 51, 52, 53, 54, 55] (by decide +kernel) (by decide +kernel)
set_option maxRecDepth 20000 in
theorem gX3_log_X0_sizeAt : GoodIn wsX3_log (wsV RX3 153 RX0 yX0_sizeAt wsX0_sizeAt) := goodIn_app (goodIn_of _ (by decide +kernel)) ggX3_log_X0_sizeAt
set_option maxRecDepth 20000 in
theorem ggX3_log_X0_epochAt : GoodIn wsX3_log wsX0_epochAt := goodIn_r _ [32, 33, 14, 15, 16, 11, 17, 18, 51, 52, 53, 54, 55] (by decide +kernel) (by decide +kernel)
set_option maxRecDepth 20000 in
theorem gX3_log_X0_epochAt : GoodIn wsX3_log (wsV RX3 191 RX0 yX0_epochAt wsX0_epochAt) := goodIn_app (goodIn_of _ (by decide +kernel)) ggX3_log_X0_epochAt
set_option maxRecDepth 20000 in
theorem ggX3_relation_X3_isEpochOrDraft : GoodIn wsX3_relation wsX3_isEpochOrDraft := goodIn_r _ [6, 7, 8, 9, 5, 10, 1, 11, 39, 40, 41, 42, 43, 44, 45, 46, 47, 48, 49, 50, 51, 52, 53, 54, 55] (by decide +kernel) (by decide +kernel)
set_option maxRecDepth 20000 in
theorem gX3_relation_X3_isEpochOrDraft : GoodIn wsX3_relation (wsV RX3 197 RX3 yX3_isEpochOrDraft wsX3_isEpochOrDraft) := goodIn_app (goodIn_of _ (by decide +kernel)) ggX3_relation_X3_isEpochOrDraft
set_option maxRecDepth 20000 in
theorem ggX3_relation_X3_areTwoStreams : GoodIn wsX3_relation wsX3_areTwoStreams := goodIn_r _ [14, 15, 16, 5, 17] (by decide +kernel) (by decide +kernel)
set_option maxRecDepth 20000 in
theorem gX3_relation_X3_areTwoStreams : GoodIn wsX3_relation (va_wsS RX3 93 yX3_areTwoStreams wsX3_areTwoStreams) := goodIn_app (goodIn_of _ (by decide +kernel)) ggX3_relation_X3_areTwoStreams
set_option maxRecDepth 20000 in
theorem ggX3_relation_X2_orderOf : GoodIn wsX3_relation wsX2_orderOf := goodIn_r _ [22, 23, 24, 25, 46, 47, 48, 49, 50, 51, 52, 53, 54, 55] (by decide +kernel) (by decide +kernel)
set_option maxRecDepth 20000 in
theorem gX3_relation_X2_orderOf : GoodIn wsX3_relation (wsV RX3 126 RX2 yX2_orderOf wsX2_orderOf) := goodIn_app (goodIn_of _ (by decide +kernel)) ggX3_relation_X2_orderOf
set_option maxRecDepth 20000 in
theorem ggX3_relation_X1_precedes : GoodIn wsX3_relation wsX1_precedes := goodIn_r _ [30, 31, 16, 5, 17, 32, 33, 56, 57] (by decide +kernel) (by decide +kernel)
set_option maxRecDepth 20000 in
theorem gX3_relation_X1_precedes : GoodIn wsX3_relation (wsV RX3 101 RX1 yX1_precedes wsX1_precedes) := goodIn_app (goodIn_of _ (by decide +kernel)) ggX3_relation_X1_precedes
set_option maxRecDepth 20000 in
theorem ggX3_relation_X1_hasEdge : GoodIn wsX3_relation wsX1_hasEdge := goodIn_r _ [37, 38, 16, 5, 17, 32, 33, 56, 57] (by decide +kernel) (by decide +kernel)
set_option maxRecDepth 20000 in
theorem gX3_relation_X1_hasEdge : GoodIn wsX3_relation (wsV RX3 106 RX1 yX1_hasEdge wsX1_hasEdge) := goodIn_app (goodIn_of _ (by decide +kernel)) ggX3_relation_X1_hasEdge
set_option maxRecDepth 20000 in
theorem ggX3_order_X3_isEpochOrDraft : GoodIn wsX3_order wsX3_isEpochOrDraft := goodIn_r _ [7, 8, 9, 10, 6, 11, 1, 12, 72, 73, 74, 75, 76, 77, 78, 79, 80, 81, 82, 83, 84, 85, 86, 87, 88] (by decide +kernel) (by decide +kernel)
set_option maxRecDepth 20000 in
theorem gX3_order_X3_isEpochOrDraft : GoodIn wsX3_order (wsV RX3 197 RX3 yX3_isEpochOrDraft wsX3_isEpochOrDraft) := goodIn_app (goodIn_of _ (by decide +kernel)) ggX3_order_X3_isEpochOrDraft
set_option maxRecDepth 20000 in
theorem ggX3_order_X3_isWithin : GoodIn wsX3_order wsX3_isWithin := goodIn_r _ [15] (by decide +kernel) (by decide +kernel)
set_option maxRecDepth 20000 in
theorem gX3_order_X3_isWithin : GoodIn wsX3_order (va_wsS RX3 42 yX3_isWithin wsX3_isWithin) := goodIn_app (goodIn_of _ (by decide +kernel)) ggX3_order_X3_isWithin
set_option maxRecDepth 20000 in
theorem ggX3_order_X2_orderOf : GoodIn wsX3_order wsX2_orderOf := goodIn_r _ [20, 21, 22, 23, 79, 80, 81, 82, 83, 84, 85, 86, 87, 88] (by decide +kernel) (by decide +kernel)
set_option maxRecDepth 20000 in
theorem gX3_order_X2_orderOf : GoodIn wsX3_order (wsV RX3 126 RX2 yX2_orderOf wsX2_orderOf) := goodIn_app (goodIn_of _ (by decide +kernel)) ggX3_order_X2_orderOf
set_option maxRecDepth 20000 in
theorem ggX3_order_X1_pairsAmong : GoodIn wsX3_order wsX1_pairsAmong := goodIn_r _ [28, 29, 30, 6, 31, 32, 33, 34, 35, 36, 37, 38, 89, 90] (by decide +kernel) (by decide +kernel)
set_option maxRecDepth 20000 in
theorem gX3_order_X1_pairsAmong : GoodIn wsX3_order (wsV RX3 200 RX1 yX1_pairsAmong wsX1_pairsAmong) := goodIn_app (goodIn_of _ (by decide +kernel)) ggX3_order_X1_pairsAmong
set_option maxRecDepth 20000 in
theorem ggX3_order_X1_longestChainAmong : GoodIn wsX3_order wsX1_longestChainAmong := goodIn_r _ [42, 43, 44, 45, 27, 46, 29, 30, 6, 31, 89, 90] (by decide +kernel) (by decide +kernel)
set_option maxRecDepth 20000 in
theorem gX3_order_X1_longestChainAmong : GoodIn wsX3_order (wsV RX3 203 RX1 yX1_longestChainAmong wsX1_longestChainAmong) := goodIn_app (goodIn_of _ (by decide +kernel)) ggX3_order_X1_longestChainAmong
set_option maxRecDepth 20000 in
theorem ggX3_order_X1_widestChoiceAmong : GoodIn wsX3_order wsX1_widestChoiceAmong := goodIn_r _ [50, 32, 33, 34, 35, 36, 37, 38, 43, 44, 45, 27, 46, 29, 30, 6, 31, 89, 90] (by decide +kernel) (by decide +kernel)
set_option maxRecDepth 20000 in
theorem gX3_order_X1_widestChoiceAmong : GoodIn wsX3_order (wsV RX3 206 RX1 yX1_widestChoiceAmong wsX1_widestChoiceAmong) := goodIn_app (goodIn_of _ (by decide +kernel)) ggX3_order_X1_widestChoiceAmong
set_option maxRecDepth 20000 in
theorem ggX3_order_X1_firstOf : GoodIn wsX3_order wsX1_firstOf := goodIn_r _ [46, 29, 30, 6, 31, 89, 90] (by decide +kernel) (by decide +kernel)
set_option maxRecDepth 20000 in
theorem gX3_order_X1_firstOf : GoodIn wsX3_order (wsV RX3 209 RX1 yX1_firstOf wsX1_firstOf) := goodIn_app (goodIn_of _ (by decide +kernel)) ggX3_order_X1_firstOf
set_option maxRecDepth 20000 in
theorem ggX3_order_J6_bitCount_0f7a4 : GoodIn wsX3_order wsJ6_bitCount_0f7a4 := goodIn_r _ [35, 36, 37, 38] (by decide +kernel) (by decide +kernel)
set_option maxRecDepth 20000 in
theorem gX3_order_J6_bitCount_0f7a4 : GoodIn wsX3_order (va_wsS RX3 59 yJ6_bitCount_0f7a4 wsJ6_bitCount_0f7a4) := goodIn_app (goodIn_of _ (by decide +kernel)) ggX3_order_J6_bitCount_0f7a4
set_option maxRecDepth 20000 in
theorem ggX3_order_X1_needlessEdges : GoodIn wsX3_order wsX1_needlessEdges := goodIn_r _ [56, 57, 58, 59, 27, 60, 61, 62, 6, 63, 30, 31, 64, 65, 66, 67, 68, 69, 70, 71, 29, 89, 90] (by decide +kernel) (by decide +kernel)
set_option maxRecDepth 20000 in
theorem gX3_order_X1_needlessEdges : GoodIn wsX3_order (wsV RX3 212 RX1 yX1_needlessEdges wsX1_needlessEdges) := goodIn_app (goodIn_of _ (by decide +kernel)) ggX3_order_X1_needlessEdges
set_option maxRecDepth 20000 in
theorem ggX3_lists_X3_isEpochOrDraft : GoodIn wsX3_lists wsX3_isEpochOrDraft := goodIn_r _ [9, 10, 11, 12, 8, 13, 2, 14, 37, 38, 39, 40, 41, 42, 43, 44, 45, 46, 47, 48, 49, 50, 51, 52, 53] (by decide +kernel) (by decide +kernel)
set_option maxRecDepth 20000 in
theorem gX3_lists_X3_isEpochOrDraft : GoodIn wsX3_lists (wsV RX3 197 RX3 yX3_isEpochOrDraft wsX3_isEpochOrDraft) := goodIn_app (goodIn_of _ (by decide +kernel)) ggX3_lists_X3_isEpochOrDraft
set_option maxRecDepth 20000 in
theorem ggX3_lists_X2_orderOf : GoodIn wsX3_lists wsX2_orderOf := goodIn_r _ [19, 20, 21, 22, 44, 45, 46, 47, 48, 49, 50, 51, 52, 53] (by decide +kernel) (by decide +kernel)
set_option maxRecDepth 20000 in
theorem gX3_lists_X2_orderOf : GoodIn wsX3_lists (wsV RX3 126 RX2 yX2_orderOf wsX2_orderOf) := goodIn_app (goodIn_of _ (by decide +kernel)) ggX3_lists_X2_orderOf
set_option maxRecDepth 20000 in
theorem ggX3_lists_X1_countLists : GoodIn wsX3_lists wsX1_countLists := goodIn_r _ [27, 28, 29, 30, 26, 31, 32, 33, 8, 34, 35, 36, 54, 55] (by decide +kernel) (by decide +kernel)
set_option maxRecDepth 20000 in
theorem gX3_lists_X1_countLists : GoodIn wsX3_lists (wsV RX3 217 RX1 yX1_countLists wsX1_countLists) := goodIn_app (goodIn_of _ (by decide +kernel)) ggX3_lists_X1_countLists
set_option maxRecDepth 20000 in
theorem ggX3_keep_X3_isWithin : GoodIn wsX3_keep wsX3_isWithin := goodIn_r _ [7] (by decide +kernel) (by decide +kernel)
set_option maxRecDepth 20000 in
theorem gX3_keep_X3_isWithin : GoodIn wsX3_keep (va_wsS RX3 42 yX3_isWithin wsX3_isWithin) := goodIn_app (goodIn_of _ (by decide +kernel)) ggX3_keep_X3_isWithin
set_option maxRecDepth 20000 in
theorem ggX3_keep_X2_copyFrom : GoodIn wsX3_keep wsX2_copyFrom := goodIn_r _ [12, 13, 14, 15, 16, 17, 18, 19, 20, 21, 22, 23, 24, 25, 26, 27, 28, 29, 30, 31, 32, 33, 34, 35, 36, 37, 38, 39, 40, 41, 42, 43, 56, 57, 58, 59, 60, 61, 62, 63, 64, 65, 66, 67, 68, 69, 70, 71, 72] (by decide +kernel) (by decide +kernel)
set_option maxRecDepth 20000 in
theorem gX3_keep_X2_copyFrom : GoodIn wsX3_keep (wsV RX3 221 RX2 yX2_copyFrom wsX2_copyFrom) := goodIn_app (goodIn_of _ (by decide +kernel)) ggX3_keep_X2_copyFrom
set_option maxRecDepth 20000 in
theorem ggX3_keep_X2_waitingCount : GoodIn wsX3_keep wsX2_waitingCount := goodIn_r _ [47, 16, 48, 56, 57, 58, 59, 60, 61, 62, 63, 64, 65, 66, 67, 68, 69, 70] (by decide +kernel) (by decide +kernel)
set_option maxRecDepth 20000 in
theorem gX3_keep_X2_waitingCount : GoodIn wsX3_keep (wsV RX3 156 RX2 yX2_waitingCount wsX2_waitingCount) := goodIn_app (goodIn_of _ (by decide +kernel)) ggX3_keep_X2_waitingCount
set_option maxRecDepth 20000 in
theorem ggX3_back_X3_isWithin : GoodIn wsX3_back wsX3_isWithin := goodIn_r _ [7] (by decide +kernel) (by decide +kernel)
set_option maxRecDepth 20000 in
theorem gX3_back_X3_isWithin : GoodIn wsX3_back (va_wsS RX3 42 yX3_isWithin wsX3_isWithin) := goodIn_app (goodIn_of _ (by decide +kernel)) ggX3_back_X3_isWithin
set_option maxRecDepth 20000 in
theorem ggX3_back_X3_record : GoodIn wsX3_back wsX3_record := goodIn_r _ [11, 12, 13, 2, 14, 15, 16, 6, 17, 18, 19, 20, 21, 22, 23, 24, 25, 26, 27, 28, 29, 30, 31, 32, 33, 34, 35, 36, 37, 38, 39, 40, 41, 42, 43, 44, 45, 46, 47, 48, 49, 50, 51, 52, 53, 59, 60, 61, 62, 63, 64, 65, 66, 67, 68, 69, 70, 71, 72, 73, 74, 75, 76, 77, 78, 79, 80, 81, 82] (by decide +kernel) (by decide +kernel)
set_option maxRecDepth 20000 in
theorem gX3_back_X3_record : GoodIn wsX3_back (wsV RX3 49 RX3 yX3_record wsX3_record) := goodIn_app (goodIn_of _ (by decide +kernel)) ggX3_back_X3_record
set_option maxRecDepth 20000 in
theorem ggX3_back_X2_copyFrom : GoodIn wsX3_back wsX2_copyFrom := goodIn_r _ [22, 23, 24, 25, 26, 27, 28, 29, 30, 31, 32, 33, 34, 35, 36, 37, 38, 39, 40, 41, 42, 43, 44, 45, 46, 47, 48, 49, 50, 51, 52, 53, 66, 67, 68, 69, 70, 71, 72, 73, 74, 75, 76, 77, 78, 79, 80, 81, 82] (by decide +kernel) (by decide +kernel)
set_option maxRecDepth 20000 in
theorem gX3_back_X2_copyFrom : GoodIn wsX3_back (wsV RX3 221 RX2 yX2_copyFrom wsX2_copyFrom) := goodIn_app (goodIn_of _ (by decide +kernel)) ggX3_back_X2_copyFrom
set_option maxRecDepth 20000 in
theorem ggX3_back_X2_waitingCount : GoodIn wsX3_back wsX2_waitingCount := goodIn_r _ [57, 26, 58, 66, 67, 68, 69, 70, 71, 72, 73, 74, 75, 76, 77, 78, 79, 80] (by decide +kernel) (by decide +kernel)
set_option maxRecDepth 20000 in
theorem gX3_back_X2_waitingCount : GoodIn wsX3_back (wsV RX3 156 RX2 yX2_waitingCount wsX2_waitingCount) := goodIn_app (goodIn_of _ (by decide +kernel)) ggX3_back_X2_waitingCount

set_option maxRecDepth 20000 in
theorem ggX3_isEpochOrDraft_X3_isEpoch : GoodIn wsX3_isEpochOrDraft wsX3_isEpoch := goodIn_r _ [5, 6, 7, 8, 9, 10, 11, 12, 13, 14, 15, 16, 17, 18, 19, 20, 21, 22, 23, 24] (by decide +kernel) (by decide +kernel)
set_option maxRecDepth 20000 in
theorem gX3_isEpochOrDraft_X3_isEpoch : GoodIn wsX3_isEpochOrDraft (wsV RX3 123 RX3 yX3_isEpoch wsX3_isEpoch) := goodIn_app (goodIn_of _ (by decide +kernel)) ggX3_isEpochOrDraft_X3_isEpoch
set_option maxRecDepth 20000 in
theorem ggX3_record_X3_dropOldest : GoodIn wsX3_record wsX3_dropOldest := goodIn_r _ [8, 2, 1, 45, 46, 47, 48, 49, 50, 51] (by decide +kernel) (by decide +kernel)
set_option maxRecDepth 20000 in
theorem gX3_record_X3_dropOldest : GoodIn wsX3_record (wsV RX3 224 RX3 yX3_dropOldest wsX3_dropOldest) := goodIn_app (goodIn_of _ (by decide +kernel)) ggX3_record_X3_dropOldest
set_option maxRecDepth 20000 in
theorem ggX3_record_X2_copyFrom : GoodIn wsX3_record wsX2_copyFrom := goodIn_r _ [13, 14, 15, 16, 17, 18, 19, 20, 21, 22, 23, 24, 25, 26, 27, 28, 29, 30, 31, 32, 33, 34, 35, 36, 37, 38, 39, 40, 41, 42, 43, 44, 52, 53, 54, 55, 56, 57, 58, 59, 60, 61, 62, 63, 64, 65, 66, 67, 68] (by decide +kernel) (by decide +kernel)
set_option maxRecDepth 20000 in
theorem gX3_record_X2_copyFrom : GoodIn wsX3_record (wsV RX3 221 RX2 yX2_copyFrom wsX2_copyFrom) := goodIn_app (goodIn_of _ (by decide +kernel)) ggX3_record_X2_copyFrom

set_option maxRecDepth 20000 in
theorem ggX3_sentBefore_X2_copyFrom : GoodIn wsX3_sentBefore wsX2_copyFrom := goodIn_r _ [7, 8, 9, 10, 11, 12, 13, 14, 15, 16, 17, 18, 19, 20, 21, 22, 23, 24, 25, 26, 27, 28, 29, 30, 31, 32, 33, 34, 35, 36, 37, 38, 113, 114, 115, 116, 117, 118, 119, 120, 121, 122, 123, 124, 125, 126, 127, 128, 129] (by decide +kernel) (by decide +kernel)
set_option maxRecDepth 20000 in
theorem gX3_sentBefore_X2_copyFrom : GoodIn wsX3_sentBefore (wsV RX3 221 RX2 yX2_copyFrom wsX2_copyFrom) := goodIn_app (goodIn_of _ (by decide +kernel)) ggX3_sentBefore_X2_copyFrom
set_option maxRecDepth 20000 in
theorem ggX3_sentBefore_X2_nextStream : GoodIn wsX3_sentBefore wsX2_nextStream := goodIn_r _ [42, 43, 44, 45, 6, 46, 11, 47, 48, 49, 50, 51, 52, 53, 54, 55, 56, 57, 21, 58, 31, 59, 60, 61, 62, 23, 63, 64, 65, 66, 13, 14, 12, 67, 68, 69, 35, 70, 38, 71, 72, 73, 74, 75, 76, 77, 78, 79, 80, 10, 9, 113, 114, 115, 116, 117, 118, 119, 120, 121, 122, 123, 124, 125, 126, 127, 128, 129] (by decide +kernel) (by decide +kernel)
set_option maxRecDepth 20000 in
theorem gX3_sentBefore_X2_nextStream : GoodIn wsX3_sentBefore (wsV RX3 144 RX2 yX2_nextStream wsX2_nextStream) := goodIn_app (goodIn_of _ (by decide +kernel)) ggX3_sentBefore_X2_nextStream
set_option maxRecDepth 20000 in
theorem ggX3_sentBefore_X2_sendFirst : GoodIn wsX3_sentBefore wsX2_sendFirst := goodIn_r _ [84, 11, 47, 17, 10, 16, 48, 49, 50, 85, 86, 87, 21, 88, 30, 59, 60, 61, 62, 23, 89, 90, 91, 92, 24, 93, 94, 95, 96, 29, 31, 97, 98, 99, 100, 55, 56, 57, 58, 101, 102, 103, 104, 105, 113, 114, 115, 116, 117, 118, 119, 120, 121, 122, 123, 124, 125, 126, 127] (by decide +kernel) (by decide +kernel)
set_option maxRecDepth 20000 in
theorem gX3_sentBefore_X2_sendFirst : GoodIn wsX3_sentBefore (wsV RX3 150 RX2 yX2_sendFirst wsX2_sendFirst) := goodIn_app (goodIn_of _ (by decide +kernel)) ggX3_sentBefore_X2_sendFirst
