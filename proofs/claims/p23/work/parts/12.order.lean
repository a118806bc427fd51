theorem dX1_copyFrom_0 : decode cX1_copyFrom 0 = .ok (.iconst 0, 1) := by decide +kernel
theorem dX1_copyFrom_1 : decode cX1_copyFrom 1 = .ok (.istore_n 2, 1) := by decide +kernel
theorem dX1_copyFrom_2 : decode cX1_copyFrom 2 = .ok (.iload_n 2, 1) := by decide +kernel
theorem dX1_copyFrom_3 : decode cX1_copyFrom 3 = .ok (.bipush 8, 2) := by decide +kernel
theorem dX1_copyFrom_5 : decode cX1_copyFrom 5 = .ok (.if_icmp .ge 33, 3) := by decide +kernel
theorem dX1_copyFrom_8 : decode cX1_copyFrom 8 = .ok (.aload_n 0, 1) := by decide +kernel
theorem dX1_copyFrom_9 : decode cX1_copyFrom 9 = .ok (.getfield 9, 3) := by decide +kernel
theorem dX1_copyFrom_12 : decode cX1_copyFrom 12 = .ok (.iload_n 2, 1) := by decide +kernel
theorem dX1_copyFrom_13 : decode cX1_copyFrom 13 = .ok (.aload_n 1, 1) := by decide +kernel
theorem dX1_copyFrom_14 : decode cX1_copyFrom 14 = .ok (.getfield 9, 3) := by decide +kernel
theorem dX1_copyFrom_17 : decode cX1_copyFrom 17 = .ok (.iload_n 2, 1) := by decide +kernel
theorem dX1_copyFrom_18 : decode cX1_copyFrom 18 = .ok (.iaload, 1) := by decide +kernel
theorem dX1_copyFrom_19 : decode cX1_copyFrom 19 = .ok (.iastore, 1) := by decide +kernel
theorem dX1_copyFrom_20 : decode cX1_copyFrom 20 = .ok (.aload_n 0, 1) := by decide +kernel
theorem dX1_copyFrom_21 : decode cX1_copyFrom 21 = .ok (.getfield 15, 3) := by decide +kernel
theorem dX1_copyFrom_24 : decode cX1_copyFrom 24 = .ok (.iload_n 2, 1) := by decide +kernel
theorem dX1_copyFrom_25 : decode cX1_copyFrom 25 = .ok (.aload_n 1, 1) := by decide +kernel
theorem dX1_copyFrom_26 : decode cX1_copyFrom 26 = .ok (.getfield 15, 3) := by decide +kernel
theorem dX1_copyFrom_29 : decode cX1_copyFrom 29 = .ok (.iload_n 2, 1) := by decide +kernel
theorem dX1_copyFrom_30 : decode cX1_copyFrom 30 = .ok (.iaload, 1) := by decide +kernel
theorem dX1_copyFrom_31 : decode cX1_copyFrom 31 = .ok (.iastore, 1) := by decide +kernel
theorem dX1_copyFrom_32 : decode cX1_copyFrom 32 = .ok (.iinc 2 1, 3) := by decide +kernel
theorem dX1_copyFrom_35 : decode cX1_copyFrom 35 = .ok (.goto (-33), 3) := by decide +kernel
theorem dX1_copyFrom_38 : decode cX1_copyFrom 38 = .ok (.return_, 1) := by decide +kernel
theorem dX1_hasEdge_0 : decode cX1_hasEdge 0 = .ok (.iload_n 1, 1) := by decide +kernel
theorem dX1_hasEdge_1 : decode cX1_hasEdge 1 = .ok (.invokestatic 18, 3) := by decide +kernel
theorem dX1_hasEdge_4 : decode cX1_hasEdge 4 = .ok (.ifCond .eq 20, 3) := by decide +kernel
theorem dX1_hasEdge_7 : decode cX1_hasEdge 7 = .ok (.aload_n 0, 1) := by decide +kernel
theorem dX1_hasEdge_8 : decode cX1_hasEdge 8 = .ok (.getfield 9, 3) := by decide +kernel
theorem dX1_hasEdge_11 : decode cX1_hasEdge 11 = .ok (.iload_n 1, 1) := by decide +kernel
theorem dX1_hasEdge_12 : decode cX1_hasEdge 12 = .ok (.iaload, 1) := by decide +kernel
theorem dX1_hasEdge_13 : decode cX1_hasEdge 13 = .ok (.iload_n 2, 1) := by decide +kernel
theorem dX1_hasEdge_14 : decode cX1_hasEdge 14 = .ok (.invokestatic 22, 3) := by decide +kernel
theorem dX1_hasEdge_17 : decode cX1_hasEdge 17 = .ok (.ifCond .eq 7, 3) := by decide +kernel
theorem dX1_hasEdge_20 : decode cX1_hasEdge 20 = .ok (.iconst 1, 1) := by decide +kernel
theorem dX1_hasEdge_21 : decode cX1_hasEdge 21 = .ok (.goto 4, 3) := by decide +kernel
theorem dX1_hasEdge_24 : decode cX1_hasEdge 24 = .ok (.iconst 0, 1) := by decide +kernel
theorem dX1_hasEdge_25 : decode cX1_hasEdge 25 = .ok (.ireturn, 1) := by decide +kernel
theorem dX1_precedes_0 : decode cX1_precedes 0 = .ok (.iload_n 1, 1) := by decide +kernel
theorem dX1_precedes_1 : decode cX1_precedes 1 = .ok (.invokestatic 18, 3) := by decide +kernel
theorem dX1_precedes_4 : decode cX1_precedes 4 = .ok (.ifCond .eq 20, 3) := by decide +kernel
theorem dX1_precedes_7 : decode cX1_precedes 7 = .ok (.aload_n 0, 1) := by decide +kernel
theorem dX1_precedes_8 : decode cX1_precedes 8 = .ok (.getfield 15, 3) := by decide +kernel
theorem dX1_precedes_11 : decode cX1_precedes 11 = .ok (.iload_n 1, 1) := by decide +kernel
theorem dX1_precedes_12 : decode cX1_precedes 12 = .ok (.iaload, 1) := by decide +kernel
theorem dX1_precedes_13 : decode cX1_precedes 13 = .ok (.iload_n 2, 1) := by decide +kernel
theorem dX1_precedes_14 : decode cX1_precedes 14 = .ok (.invokestatic 22, 3) := by decide +kernel
theorem dX1_precedes_17 : decode cX1_precedes 17 = .ok (.ifCond .eq 7, 3) := by decide +kernel
theorem dX1_precedes_20 : decode cX1_precedes 20 = .ok (.iconst 1, 1) := by decide +kernel
theorem dX1_precedes_21 : decode cX1_precedes 21 = .ok (.goto 4, 3) := by decide +kernel
theorem dX1_precedes_24 : decode cX1_precedes 24 = .ok (.iconst 0, 1) := by decide +kernel
theorem dX1_precedes_25 : decode cX1_precedes 25 = .ok (.ireturn, 1) := by decide +kernel
theorem dX1_putEdge_0 : decode cX1_putEdge 0 = .ok (.iload_n 1, 1) := by decide +kernel
theorem dX1_putEdge_1 : decode cX1_putEdge 1 = .ok (.iload_n 2, 1) := by decide +kernel
theorem dX1_putEdge_2 : decode cX1_putEdge 2 = .ok (.invokestatic 26, 3) := by decide +kernel
theorem dX1_putEdge_5 : decode cX1_putEdge 5 = .ok (.ifCond .ne 4, 3) := by decide +kernel
theorem dX1_putEdge_8 : decode cX1_putEdge 8 = .ok (.return_, 1) := by decide +kernel
theorem dX1_putEdge_9 : decode cX1_putEdge 9 = .ok (.aload_n 0, 1) := by decide +kernel
theorem dX1_putEdge_10 : decode cX1_putEdge 10 = .ok (.getfield 9, 3) := by decide +kernel
theorem dX1_putEdge_13 : decode cX1_putEdge 13 = .ok (.iload_n 1, 1) := by decide +kernel
theorem dX1_putEdge_14 : decode cX1_putEdge 14 = .ok (.iload_n 3, 1) := by decide +kernel
theorem dX1_putEdge_15 : decode cX1_putEdge 15 = .ok (.ifCond .eq 17, 3) := by decide +kernel
theorem dX1_putEdge_18 : decode cX1_putEdge 18 = .ok (.aload_n 0, 1) := by decide +kernel
theorem dX1_putEdge_19 : decode cX1_putEdge 19 = .ok (.getfield 9, 3) := by decide +kernel
theorem dX1_putEdge_22 : decode cX1_putEdge 22 = .ok (.iload_n 1, 1) := by decide +kernel
theorem dX1_putEdge_23 : decode cX1_putEdge 23 = .ok (.iaload, 1) := by decide +kernel
theorem dX1_putEdge_24 : decode cX1_putEdge 24 = .ok (.iload_n 2, 1) := by decide +kernel
theorem dX1_putEdge_25 : decode cX1_putEdge 25 = .ok (.invokestatic 29, 3) := by decide +kernel
theorem dX1_putEdge_28 : decode cX1_putEdge 28 = .ok (.ior, 1) := by decide +kernel
theorem dX1_putEdge_29 : decode cX1_putEdge 29 = .ok (.goto 16, 3) := by decide +kernel
theorem dX1_putEdge_32 : decode cX1_putEdge 32 = .ok (.aload_n 0, 1) := by decide +kernel
theorem dX1_putEdge_33 : decode cX1_putEdge 33 = .ok (.getfield 9, 3) := by decide +kernel
theorem dX1_putEdge_36 : decode cX1_putEdge 36 = .ok (.iload_n 1, 1) := by decide +kernel
theorem dX1_putEdge_37 : decode cX1_putEdge 37 = .ok (.iaload, 1) := by decide +kernel
theorem dX1_putEdge_38 : decode cX1_putEdge 38 = .ok (.iload_n 2, 1) := by decide +kernel
theorem dX1_putEdge_39 : decode cX1_putEdge 39 = .ok (.invokestatic 29, 3) := by decide +kernel
theorem dX1_putEdge_42 : decode cX1_putEdge 42 = .ok (.iconst (-1), 1) := by decide +kernel
theorem dX1_putEdge_43 : decode cX1_putEdge 43 = .ok (.ixor, 1) := by decide +kernel
theorem dX1_putEdge_44 : decode cX1_putEdge 44 = .ok (.iand, 1) := by decide +kernel
theorem dX1_putEdge_45 : decode cX1_putEdge 45 = .ok (.iastore, 1) := by decide +kernel
theorem dX1_putEdge_46 : decode cX1_putEdge 46 = .ok (.aload_n 0, 1) := by decide +kernel
theorem dX1_putEdge_47 : decode cX1_putEdge 47 = .ok (.invokevirtual 33, 3) := by decide +kernel
theorem dX1_putEdge_50 : decode cX1_putEdge 50 = .ok (.return_, 1) := by decide +kernel
theorem dX1_findPreceded_0 : decode cX1_findPreceded 0 = .ok (.iconst 0, 1) := by decide +kernel
theorem dX1_findPreceded_1 : decode cX1_findPreceded 1 = .ok (.istore_n 1, 1) := by decide +kernel
theorem dX1_findPreceded_2 : decode cX1_findPreceded 2 = .ok (.iload_n 1, 1) := by decide +kernel
theorem dX1_findPreceded_3 : decode cX1_findPreceded 3 = .ok (.bipush 8, 2) := by decide +kernel
theorem dX1_findPreceded_5 : decode cX1_findPreceded 5 = .ok (.if_icmp .ge 21, 3) := by decide +kernel
theorem dX1_findPreceded_8 : decode cX1_findPreceded 8 = .ok (.aload_n 0, 1) := by decide +kernel
theorem dX1_findPreceded_9 : decode cX1_findPreceded 9 = .ok (.getfield 15, 3) := by decide +kernel
theorem dX1_findPreceded_12 : decode cX1_findPreceded 12 = .ok (.iload_n 1, 1) := by decide +kernel
theorem dX1_findPreceded_13 : decode cX1_findPreceded 13 = .ok (.aload_n 0, 1) := by decide +kernel
theorem dX1_findPreceded_14 : decode cX1_findPreceded 14 = .ok (.getfield 9, 3) := by decide +kernel
theorem dX1_findPreceded_17 : decode cX1_findPreceded 17 = .ok (.iload_n 1, 1) := by decide +kernel
theorem dX1_findPreceded_18 : decode cX1_findPreceded 18 = .ok (.iaload, 1) := by decide +kernel
theorem dX1_findPreceded_19 : decode cX1_findPreceded 19 = .ok (.iastore, 1) := by decide +kernel
theorem dX1_findPreceded_20 : decode cX1_findPreceded 20 = .ok (.iinc 1 1, 3) := by decide +kernel
theorem dX1_findPreceded_23 : decode cX1_findPreceded 23 = .ok (.goto (-21), 3) := by decide +kernel
theorem dX1_findPreceded_26 : decode cX1_findPreceded 26 = .ok (.iconst 0, 1) := by decide +kernel
theorem dX1_findPreceded_27 : decode cX1_findPreceded 27 = .ok (.istore_n 1, 1) := by decide +kernel
theorem dX1_findPreceded_28 : decode cX1_findPreceded 28 = .ok (.iload_n 1, 1) := by decide +kernel
theorem dX1_findPreceded_29 : decode cX1_findPreceded 29 = .ok (.bipush 8, 2) := by decide +kernel
theorem dX1_findPreceded_31 : decode cX1_findPreceded 31 = .ok (.if_icmp .ge 51, 3) := by decide +kernel
theorem dX1_findPreceded_34 : decode cX1_findPreceded 34 = .ok (.iconst 0, 1) := by decide +kernel
theorem dX1_findPreceded_35 : decode cX1_findPreceded 35 = .ok (.istore_n 2, 1) := by decide +kernel
theorem dX1_findPreceded_36 : decode cX1_findPreceded 36 = .ok (.iload_n 2, 1) := by decide +kernel
theorem dX1_findPreceded_37 : decode cX1_findPreceded 37 = .ok (.bipush 8, 2) := by decide +kernel
theorem dX1_findPreceded_39 : decode cX1_findPreceded 39 = .ok (.if_icmp .ge 37, 3) := by decide +kernel
theorem dX1_findPreceded_42 : decode cX1_findPreceded 42 = .ok (.aload_n 0, 1) := by decide +kernel
theorem dX1_findPreceded_43 : decode cX1_findPreceded 43 = .ok (.getfield 15, 3) := by decide +kernel
theorem dX1_findPreceded_46 : decode cX1_findPreceded 46 = .ok (.iload_n 2, 1) := by decide +kernel
theorem dX1_findPreceded_47 : decode cX1_findPreceded 47 = .ok (.iaload, 1) := by decide +kernel
theorem dX1_findPreceded_48 : decode cX1_findPreceded 48 = .ok (.iload_n 1, 1) := by decide +kernel
theorem dX1_findPreceded_49 : decode cX1_findPreceded 49 = .ok (.invokestatic 22, 3) := by decide +kernel
theorem dX1_findPreceded_52 : decode cX1_findPreceded 52 = .ok (.ifCond .eq 18, 3) := by decide +kernel
theorem dX1_findPreceded_55 : decode cX1_findPreceded 55 = .ok (.aload_n 0, 1) := by decide +kernel
theorem dX1_findPreceded_56 : decode cX1_findPreceded 56 = .ok (.getfield 15, 3) := by decide +kernel
theorem dX1_findPreceded_59 : decode cX1_findPreceded 59 = .ok (.iload_n 2, 1) := by decide +kernel
theorem dX1_findPreceded_60 : decode cX1_findPreceded 60 = .ok (.dup2, 1) := by decide +kernel
theorem dX1_findPreceded_61 : decode cX1_findPreceded 61 = .ok (.iaload, 1) := by decide +kernel
theorem dX1_findPreceded_62 : decode cX1_findPreceded 62 = .ok (.aload_n 0, 1) := by decide +kernel
theorem dX1_findPreceded_63 : decode cX1_findPreceded 63 = .ok (.getfield 15, 3) := by decide +kernel
theorem dX1_findPreceded_66 : decode cX1_findPreceded 66 = .ok (.iload_n 1, 1) := by decide +kernel
theorem dX1_findPreceded_67 : decode cX1_findPreceded 67 = .ok (.iaload, 1) := by decide +kernel
theorem dX1_findPreceded_68 : decode cX1_findPreceded 68 = .ok (.ior, 1) := by decide +kernel
theorem dX1_findPreceded_69 : decode cX1_findPreceded 69 = .ok (.iastore, 1) := by decide +kernel
theorem dX1_findPreceded_70 : decode cX1_findPreceded 70 = .ok (.iinc 2 1, 3) := by decide +kernel
theorem dX1_findPreceded_73 : decode cX1_findPreceded 73 = .ok (.goto (-37), 3) := by decide +kernel
theorem dX1_findPreceded_76 : decode cX1_findPreceded 76 = .ok (.iinc 1 1, 3) := by decide +kernel
theorem dX1_findPreceded_79 : decode cX1_findPreceded 79 = .ok (.goto (-51), 3) := by decide +kernel
theorem dX1_findPreceded_82 : decode cX1_findPreceded 82 = .ok (.return_, 1) := by decide +kernel
theorem dX1_edgeCount_0 : decode cX1_edgeCount 0 = .ok (.iconst 0, 1) := by decide +kernel
theorem dX1_edgeCount_1 : decode cX1_edgeCount 1 = .ok (.istore_n 1, 1) := by decide +kernel
theorem dX1_edgeCount_2 : decode cX1_edgeCount 2 = .ok (.iconst 0, 1) := by decide +kernel
theorem dX1_edgeCount_3 : decode cX1_edgeCount 3 = .ok (.istore_n 2, 1) := by decide +kernel
theorem dX1_edgeCount_4 : decode cX1_edgeCount 4 = .ok (.iload_n 2, 1) := by decide +kernel
theorem dX1_edgeCount_5 : decode cX1_edgeCount 5 = .ok (.bipush 8, 2) := by decide +kernel
theorem dX1_edgeCount_7 : decode cX1_edgeCount 7 = .ok (.if_icmp .ge 21, 3) := by decide +kernel
theorem dX1_edgeCount_10 : decode cX1_edgeCount 10 = .ok (.iload_n 1, 1) := by decide +kernel
theorem dX1_edgeCount_11 : decode cX1_edgeCount 11 = .ok (.aload_n 0, 1) := by decide +kernel
theorem dX1_edgeCount_12 : decode cX1_edgeCount 12 = .ok (.getfield 9, 3) := by decide +kernel
theorem dX1_edgeCount_15 : decode cX1_edgeCount 15 = .ok (.iload_n 2, 1) := by decide +kernel
theorem dX1_edgeCount_16 : decode cX1_edgeCount 16 = .ok (.iaload, 1) := by decide +kernel
theorem dX1_edgeCount_17 : decode cX1_edgeCount 17 = .ok (.invokestatic 36, 3) := by decide +kernel
theorem dX1_edgeCount_20 : decode cX1_edgeCount 20 = .ok (.iadd, 1) := by decide +kernel
theorem dX1_edgeCount_21 : decode cX1_edgeCount 21 = .ok (.istore_n 1, 1) := by decide +kernel
theorem dX1_edgeCount_22 : decode cX1_edgeCount 22 = .ok (.iinc 2 1, 3) := by decide +kernel
theorem dX1_edgeCount_25 : decode cX1_edgeCount 25 = .ok (.goto (-21), 3) := by decide +kernel
theorem dX1_edgeCount_28 : decode cX1_edgeCount 28 = .ok (.iload_n 1, 1) := by decide +kernel
theorem dX1_edgeCount_29 : decode cX1_edgeCount 29 = .ok (.ireturn, 1) := by decide +kernel
theorem dX1_hasSameEdges_0 : decode cX1_hasSameEdges 0 = .ok (.iconst 0, 1) := by decide +kernel
theorem dX1_hasSameEdges_1 : decode cX1_hasSameEdges 1 = .ok (.istore_n 2, 1) := by decide +kernel
theorem dX1_hasSameEdges_2 : decode cX1_hasSameEdges 2 = .ok (.iload_n 2, 1) := by decide +kernel
theorem dX1_hasSameEdges_3 : decode cX1_hasSameEdges 3 = .ok (.bipush 8, 2) := by decide +kernel
theorem dX1_hasSameEdges_5 : decode cX1_hasSameEdges 5 = .ok (.if_icmp .ge 26, 3) := by decide +kernel
theorem dX1_hasSameEdges_8 : decode cX1_hasSameEdges 8 = .ok (.aload_n 0, 1) := by decide +kernel
theorem dX1_hasSameEdges_9 : decode cX1_hasSameEdges 9 = .ok (.getfield 9, 3) := by decide +kernel
theorem dX1_hasSameEdges_12 : decode cX1_hasSameEdges 12 = .ok (.iload_n 2, 1) := by decide +kernel
theorem dX1_hasSameEdges_13 : decode cX1_hasSameEdges 13 = .ok (.iaload, 1) := by decide +kernel
theorem dX1_hasSameEdges_14 : decode cX1_hasSameEdges 14 = .ok (.aload_n 1, 1) := by decide +kernel
theorem dX1_hasSameEdges_15 : decode cX1_hasSameEdges 15 = .ok (.getfield 9, 3) := by decide +kernel
theorem dX1_hasSameEdges_18 : decode cX1_hasSameEdges 18 = .ok (.iload_n 2, 1) := by decide +kernel
theorem dX1_hasSameEdges_19 : decode cX1_hasSameEdges 19 = .ok (.iaload, 1) := by decide +kernel
theorem dX1_hasSameEdges_20 : decode cX1_hasSameEdges 20 = .ok (.if_icmp .eq 5, 3) := by decide +kernel
theorem dX1_hasSameEdges_23 : decode cX1_hasSameEdges 23 = .ok (.iconst 0, 1) := by decide +kernel
theorem dX1_hasSameEdges_24 : decode cX1_hasSameEdges 24 = .ok (.ireturn, 1) := by decide +kernel
theorem dX1_hasSameEdges_25 : decode cX1_hasSameEdges 25 = .ok (.iinc 2 1, 3) := by decide +kernel
theorem dX1_hasSameEdges_28 : decode cX1_hasSameEdges 28 = .ok (.goto (-26), 3) := by decide +kernel
theorem dX1_hasSameEdges_31 : decode cX1_hasSameEdges 31 = .ok (.iconst 1, 1) := by decide +kernel
theorem dX1_hasSameEdges_32 : decode cX1_hasSameEdges 32 = .ok (.ireturn, 1) := by decide +kernel
theorem dX1_distance_0 : decode cX1_distance 0 = .ok (.iload_n 1, 1) := by decide +kernel
theorem dX1_distance_1 : decode cX1_distance 1 = .ok (.invokestatic 29, 3) := by decide +kernel
theorem dX1_distance_4 : decode cX1_distance 4 = .ok (.istore_n 3, 1) := by decide +kernel
theorem dX1_distance_5 : decode cX1_distance 5 = .ok (.iconst 0, 1) := by decide +kernel
theorem dX1_distance_6 : decode cX1_distance 6 = .ok (.istore 4, 2) := by decide +kernel
theorem dX1_distance_8 : decode cX1_distance 8 = .ok (.iload 4, 2) := by decide +kernel
theorem dX1_distance_10 : decode cX1_distance 10 = .ok (.bipush 8, 2) := by decide +kernel
theorem dX1_distance_12 : decode cX1_distance 12 = .ok (.if_icmp .ge 28, 3) := by decide +kernel
theorem dX1_distance_15 : decode cX1_distance 15 = .ok (.iload_n 3, 1) := by decide +kernel
theorem dX1_distance_16 : decode cX1_distance 16 = .ok (.iload_n 2, 1) := by decide +kernel
theorem dX1_distance_17 : decode cX1_distance 17 = .ok (.invokestatic 22, 3) := by decide +kernel
theorem dX1_distance_20 : decode cX1_distance 20 = .ok (.ifCond .eq 6, 3) := by decide +kernel
theorem dX1_distance_23 : decode cX1_distance 23 = .ok (.iload 4, 2) := by decide +kernel
theorem dX1_distance_25 : decode cX1_distance 25 = .ok (.ireturn, 1) := by decide +kernel
theorem dX1_distance_26 : decode cX1_distance 26 = .ok (.iload_n 3, 1) := by decide +kernel
theorem dX1_distance_27 : decode cX1_distance 27 = .ok (.aload_n 0, 1) := by decide +kernel
theorem dX1_distance_28 : decode cX1_distance 28 = .ok (.iload_n 3, 1) := by decide +kernel
theorem dX1_distance_29 : decode cX1_distance 29 = .ok (.invokevirtual 41, 3) := by decide +kernel
theorem dX1_distance_32 : decode cX1_distance 32 = .ok (.ior, 1) := by decide +kernel
theorem dX1_distance_33 : decode cX1_distance 33 = .ok (.istore_n 3, 1) := by decide +kernel
theorem dX1_distance_34 : decode cX1_distance 34 = .ok (.iinc 4 1, 3) := by decide +kernel
theorem dX1_distance_37 : decode cX1_distance 37 = .ok (.goto (-29), 3) := by decide +kernel
theorem dX1_distance_40 : decode cX1_distance 40 = .ok (.bipush (-9), 2) := by decide +kernel
theorem dX1_distance_42 : decode cX1_distance 42 = .ok (.ireturn, 1) := by decide +kernel
theorem dX1_nextOfAll_0 : decode cX1_nextOfAll 0 = .ok (.iconst 0, 1) := by decide +kernel
theorem dX1_nextOfAll_1 : decode cX1_nextOfAll 1 = .ok (.istore_n 2, 1) := by decide +kernel
theorem dX1_nextOfAll_2 : decode cX1_nextOfAll 2 = .ok (.iconst 0, 1) := by decide +kernel
theorem dX1_nextOfAll_3 : decode cX1_nextOfAll 3 = .ok (.istore_n 3, 1) := by decide +kernel
theorem dX1_nextOfAll_4 : decode cX1_nextOfAll 4 = .ok (.iload_n 3, 1) := by decide +kernel
theorem dX1_nextOfAll_5 : decode cX1_nextOfAll 5 = .ok (.bipush 8, 2) := by decide +kernel
theorem dX1_nextOfAll_7 : decode cX1_nextOfAll 7 = .ok (.if_icmp .ge 26, 3) := by decide +kernel
theorem dX1_nextOfAll_10 : decode cX1_nextOfAll 10 = .ok (.iload_n 1, 1) := by decide +kernel
theorem dX1_nextOfAll_11 : decode cX1_nextOfAll 11 = .ok (.iload_n 3, 1) := by decide +kernel
theorem dX1_nextOfAll_12 : decode cX1_nextOfAll 12 = .ok (.invokestatic 22, 3) := by decide +kernel
theorem dX1_nextOfAll_15 : decode cX1_nextOfAll 15 = .ok (.ifCond .eq 12, 3) := by decide +kernel
theorem dX1_nextOfAll_18 : decode cX1_nextOfAll 18 = .ok (.iload_n 2, 1) := by decide +kernel
theorem dX1_nextOfAll_19 : decode cX1_nextOfAll 19 = .ok (.aload_n 0, 1) := by decide +kernel
theorem dX1_nextOfAll_20 : decode cX1_nextOfAll 20 = .ok (.getfield 9, 3) := by decide +kernel
theorem dX1_nextOfAll_23 : decode cX1_nextOfAll 23 = .ok (.iload_n 3, 1) := by decide +kernel
theorem dX1_nextOfAll_24 : decode cX1_nextOfAll 24 = .ok (.iaload, 1) := by decide +kernel
theorem dX1_nextOfAll_25 : decode cX1_nextOfAll 25 = .ok (.ior, 1) := by decide +kernel
theorem dX1_nextOfAll_26 : decode cX1_nextOfAll 26 = .ok (.istore_n 2, 1) := by decide +kernel
theorem dX1_nextOfAll_27 : decode cX1_nextOfAll 27 = .ok (.iinc 3 1, 3) := by decide +kernel
theorem dX1_nextOfAll_30 : decode cX1_nextOfAll 30 = .ok (.goto (-26), 3) := by decide +kernel
theorem dX1_nextOfAll_33 : decode cX1_nextOfAll 33 = .ok (.iload_n 2, 1) := by decide +kernel
theorem dX1_nextOfAll_34 : decode cX1_nextOfAll 34 = .ok (.ireturn, 1) := by decide +kernel
theorem dX1_streamOfWalk_0 : decode cX1_streamOfWalk 0 = .ok (.iload_n 1, 1) := by decide +kernel
theorem dX1_streamOfWalk_1 : decode cX1_streamOfWalk 1 = .ok (.istore 4, 2) := by decide +kernel
theorem dX1_streamOfWalk_3 : decode cX1_streamOfWalk 3 = .ok (.aload_n 0, 1) := by decide +kernel
theorem dX1_streamOfWalk_4 : decode cX1_streamOfWalk 4 = .ok (.iload_n 1, 1) := by decide +kernel
theorem dX1_streamOfWalk_5 : decode cX1_streamOfWalk 5 = .ok (.iload_n 2, 1) := by decide +kernel
theorem dX1_streamOfWalk_6 : decode cX1_streamOfWalk 6 = .ok (.invokevirtual 44, 3) := by decide +kernel
theorem dX1_streamOfWalk_9 : decode cX1_streamOfWalk 9 = .ok (.istore 5, 2) := by decide +kernel
theorem dX1_streamOfWalk_11 : decode cX1_streamOfWalk 11 = .ok (.iconst 0, 1) := by decide +kernel
theorem dX1_streamOfWalk_12 : decode cX1_streamOfWalk 12 = .ok (.istore 6, 2) := by decide +kernel
theorem dX1_streamOfWalk_14 : decode cX1_streamOfWalk 14 = .ok (.iload 6, 2) := by decide +kernel
theorem dX1_streamOfWalk_16 : decode cX1_streamOfWalk 16 = .ok (.iload_n 3, 1) := by decide +kernel
theorem dX1_streamOfWalk_17 : decode cX1_streamOfWalk 17 = .ok (.if_icmp .ge 30, 3) := by decide +kernel
theorem dX1_streamOfWalk_20 : decode cX1_streamOfWalk 20 = .ok (.iload 6, 2) := by decide +kernel
theorem dX1_streamOfWalk_22 : decode cX1_streamOfWalk 22 = .ok (.bipush 8, 2) := by decide +kernel
theorem dX1_streamOfWalk_24 : decode cX1_streamOfWalk 24 = .ok (.if_icmp .ge 23, 3) := by decide +kernel
theorem dX1_streamOfWalk_27 : decode cX1_streamOfWalk 27 = .ok (.iinc 5 (-1), 3) := by decide +kernel
theorem dX1_streamOfWalk_30 : decode cX1_streamOfWalk 30 = .ok (.aload_n 0, 1) := by decide +kernel
theorem dX1_streamOfWalk_31 : decode cX1_streamOfWalk 31 = .ok (.iload 4, 2) := by decide +kernel
theorem dX1_streamOfWalk_33 : decode cX1_streamOfWalk 33 = .ok (.iload_n 2, 1) := by decide +kernel
theorem dX1_streamOfWalk_34 : decode cX1_streamOfWalk 34 = .ok (.iload 5, 2) := by decide +kernel
theorem dX1_streamOfWalk_36 : decode cX1_streamOfWalk 36 = .ok (.invokevirtual 48, 3) := by decide +kernel
theorem dX1_streamOfWalk_39 : decode cX1_streamOfWalk 39 = .ok (.istore 4, 2) := by decide +kernel
theorem dX1_streamOfWalk_41 : decode cX1_streamOfWalk 41 = .ok (.iinc 6 1, 3) := by decide +kernel
theorem dX1_streamOfWalk_44 : decode cX1_streamOfWalk 44 = .ok (.goto (-30), 3) := by decide +kernel
theorem dX1_streamOfWalk_47 : decode cX1_streamOfWalk 47 = .ok (.iload 4, 2) := by decide +kernel
theorem dX1_streamOfWalk_49 : decode cX1_streamOfWalk 49 = .ok (.ireturn, 1) := by decide +kernel
theorem dX1_lowestNextAt_0 : decode cX1_lowestNextAt 0 = .ok (.iconst 0, 1) := by decide +kernel
theorem dX1_lowestNextAt_1 : decode cX1_lowestNextAt 1 = .ok (.istore 4, 2) := by decide +kernel
theorem dX1_lowestNextAt_3 : decode cX1_lowestNextAt 3 = .ok (.iload 4, 2) := by decide +kernel
theorem dX1_lowestNextAt_5 : decode cX1_lowestNextAt 5 = .ok (.bipush 8, 2) := by decide +kernel
theorem dX1_lowestNextAt_7 : decode cX1_lowestNextAt 7 = .ok (.if_icmp .ge 33, 3) := by decide +kernel
theorem dX1_lowestNextAt_10 : decode cX1_lowestNextAt 10 = .ok (.aload_n 0, 1) := by decide +kernel
theorem dX1_lowestNextAt_11 : decode cX1_lowestNextAt 11 = .ok (.iload_n 1, 1) := by decide +kernel
theorem dX1_lowestNextAt_12 : decode cX1_lowestNextAt 12 = .ok (.iload 4, 2) := by decide +kernel
theorem dX1_lowestNextAt_14 : decode cX1_lowestNextAt 14 = .ok (.invokevirtual 52, 3) := by decide +kernel
theorem dX1_lowestNextAt_17 : decode cX1_lowestNextAt 17 = .ok (.ifCond .eq 17, 3) := by decide +kernel
theorem dX1_lowestNextAt_20 : decode cX1_lowestNextAt 20 = .ok (.aload_n 0, 1) := by decide +kernel
theorem dX1_lowestNextAt_21 : decode cX1_lowestNextAt 21 = .ok (.iload 4, 2) := by decide +kernel
theorem dX1_lowestNextAt_23 : decode cX1_lowestNextAt 23 = .ok (.iload_n 2, 1) := by decide +kernel
theorem dX1_lowestNextAt_24 : decode cX1_lowestNextAt 24 = .ok (.invokevirtual 44, 3) := by decide +kernel
theorem dX1_lowestNextAt_27 : decode cX1_lowestNextAt 27 = .ok (.iload_n 3, 1) := by decide +kernel
theorem dX1_lowestNextAt_28 : decode cX1_lowestNextAt 28 = .ok (.if_icmp .ne 6, 3) := by decide +kernel
theorem dX1_lowestNextAt_31 : decode cX1_lowestNextAt 31 = .ok (.iload 4, 2) := by decide +kernel
theorem dX1_lowestNextAt_33 : decode cX1_lowestNextAt 33 = .ok (.ireturn, 1) := by decide +kernel
theorem dX1_lowestNextAt_34 : decode cX1_lowestNextAt 34 = .ok (.iinc 4 1, 3) := by decide +kernel
theorem dX1_lowestNextAt_37 : decode cX1_lowestNextAt 37 = .ok (.goto (-34), 3) := by decide +kernel
theorem dX1_lowestNextAt_40 : decode cX1_lowestNextAt 40 = .ok (.bipush (-9), 2) := by decide +kernel
theorem dX1_lowestNextAt_42 : decode cX1_lowestNextAt 42 = .ok (.ireturn, 1) := by decide +kernel
theorem dX1_pairsAmong_0 : decode cX1_pairsAmong 0 = .ok (.iconst 0, 1) := by decide +kernel
theorem dX1_pairsAmong_1 : decode cX1_pairsAmong 1 = .ok (.istore_n 2, 1) := by decide +kernel
theorem dX1_pairsAmong_2 : decode cX1_pairsAmong 2 = .ok (.iconst 0, 1) := by decide +kernel
theorem dX1_pairsAmong_3 : decode cX1_pairsAmong 3 = .ok (.istore_n 3, 1) := by decide +kernel
theorem dX1_pairsAmong_4 : decode cX1_pairsAmong 4 = .ok (.iload_n 3, 1) := by decide +kernel
theorem dX1_pairsAmong_5 : decode cX1_pairsAmong 5 = .ok (.bipush 8, 2) := by decide +kernel
theorem dX1_pairsAmong_7 : decode cX1_pairsAmong 7 = .ok (.if_icmp .ge 31, 3) := by decide +kernel
theorem dX1_pairsAmong_10 : decode cX1_pairsAmong 10 = .ok (.iload_n 1, 1) := by decide +kernel
theorem dX1_pairsAmong_11 : decode cX1_pairsAmong 11 = .ok (.iload_n 3, 1) := by decide +kernel
theorem dX1_pairsAmong_12 : decode cX1_pairsAmong 12 = .ok (.invokestatic 22, 3) := by decide +kernel
theorem dX1_pairsAmong_15 : decode cX1_pairsAmong 15 = .ok (.ifCond .eq 17, 3) := by decide +kernel
theorem dX1_pairsAmong_18 : decode cX1_pairsAmong 18 = .ok (.iload_n 2, 1) := by decide +kernel
theorem dX1_pairsAmong_19 : decode cX1_pairsAmong 19 = .ok (.aload_n 0, 1) := by decide +kernel
theorem dX1_pairsAmong_20 : decode cX1_pairsAmong 20 = .ok (.getfield 15, 3) := by decide +kernel
theorem dX1_pairsAmong_23 : decode cX1_pairsAmong 23 = .ok (.iload_n 3, 1) := by decide +kernel
theorem dX1_pairsAmong_24 : decode cX1_pairsAmong 24 = .ok (.iaload, 1) := by decide +kernel
theorem dX1_pairsAmong_25 : decode cX1_pairsAmong 25 = .ok (.iload_n 1, 1) := by decide +kernel
theorem dX1_pairsAmong_26 : decode cX1_pairsAmong 26 = .ok (.iand, 1) := by decide +kernel
theorem dX1_pairsAmong_27 : decode cX1_pairsAmong 27 = .ok (.invokestatic 36, 3) := by decide +kernel
theorem dX1_pairsAmong_30 : decode cX1_pairsAmong 30 = .ok (.iadd, 1) := by decide +kernel
theorem dX1_pairsAmong_31 : decode cX1_pairsAmong 31 = .ok (.istore_n 2, 1) := by decide +kernel
theorem dX1_pairsAmong_32 : decode cX1_pairsAmong 32 = .ok (.iinc 3 1, 3) := by decide +kernel
theorem dX1_pairsAmong_35 : decode cX1_pairsAmong 35 = .ok (.goto (-31), 3) := by decide +kernel
theorem dX1_pairsAmong_38 : decode cX1_pairsAmong 38 = .ok (.iload_n 2, 1) := by decide +kernel
theorem dX1_pairsAmong_39 : decode cX1_pairsAmong 39 = .ok (.ireturn, 1) := by decide +kernel
theorem dX1_firstOf_0 : decode cX1_firstOf 0 = .ok (.iload_n 1, 1) := by decide +kernel
theorem dX1_firstOf_1 : decode cX1_firstOf 1 = .ok (.istore_n 2, 1) := by decide +kernel
theorem dX1_firstOf_2 : decode cX1_firstOf 2 = .ok (.iconst 0, 1) := by decide +kernel
theorem dX1_firstOf_3 : decode cX1_firstOf 3 = .ok (.istore_n 3, 1) := by decide +kernel
theorem dX1_firstOf_4 : decode cX1_firstOf 4 = .ok (.iload_n 3, 1) := by decide +kernel
theorem dX1_firstOf_5 : decode cX1_firstOf 5 = .ok (.bipush 8, 2) := by decide +kernel
theorem dX1_firstOf_7 : decode cX1_firstOf 7 = .ok (.if_icmp .ge 28, 3) := by decide +kernel
theorem dX1_firstOf_10 : decode cX1_firstOf 10 = .ok (.iload_n 1, 1) := by decide +kernel
theorem dX1_firstOf_11 : decode cX1_firstOf 11 = .ok (.iload_n 3, 1) := by decide +kernel
theorem dX1_firstOf_12 : decode cX1_firstOf 12 = .ok (.invokestatic 22, 3) := by decide +kernel
theorem dX1_firstOf_15 : decode cX1_firstOf 15 = .ok (.ifCond .eq 14, 3) := by decide +kernel
theorem dX1_firstOf_18 : decode cX1_firstOf 18 = .ok (.iload_n 2, 1) := by decide +kernel
theorem dX1_firstOf_19 : decode cX1_firstOf 19 = .ok (.aload_n 0, 1) := by decide +kernel
theorem dX1_firstOf_20 : decode cX1_firstOf 20 = .ok (.getfield 15, 3) := by decide +kernel
theorem dX1_firstOf_23 : decode cX1_firstOf 23 = .ok (.iload_n 3, 1) := by decide +kernel
theorem dX1_firstOf_24 : decode cX1_firstOf 24 = .ok (.iaload, 1) := by decide +kernel
theorem dX1_firstOf_25 : decode cX1_firstOf 25 = .ok (.iconst (-1), 1) := by decide +kernel
theorem dX1_firstOf_26 : decode cX1_firstOf 26 = .ok (.ixor, 1) := by decide +kernel
theorem dX1_firstOf_27 : decode cX1_firstOf 27 = .ok (.iand, 1) := by decide +kernel
theorem dX1_firstOf_28 : decode cX1_firstOf 28 = .ok (.istore_n 2, 1) := by decide +kernel
theorem dX1_firstOf_29 : decode cX1_firstOf 29 = .ok (.iinc 3 1, 3) := by decide +kernel
theorem dX1_firstOf_32 : decode cX1_firstOf 32 = .ok (.goto (-28), 3) := by decide +kernel
theorem dX1_firstOf_35 : decode cX1_firstOf 35 = .ok (.iload_n 2, 1) := by decide +kernel
theorem dX1_firstOf_36 : decode cX1_firstOf 36 = .ok (.ireturn, 1) := by decide +kernel
theorem dX1_longestChainAmong_0 : decode cX1_longestChainAmong 0 = .ok (.iload_n 1, 1) := by decide +kernel
theorem dX1_longestChainAmong_1 : decode cX1_longestChainAmong 1 = .ok (.istore_n 2, 1) := by decide +kernel
theorem dX1_longestChainAmong_2 : decode cX1_longestChainAmong 2 = .ok (.iconst 0, 1) := by decide +kernel
theorem dX1_longestChainAmong_3 : decode cX1_longestChainAmong 3 = .ok (.istore_n 3, 1) := by decide +kernel
theorem dX1_longestChainAmong_4 : decode cX1_longestChainAmong 4 = .ok (.iload_n 2, 1) := by decide +kernel
theorem dX1_longestChainAmong_5 : decode cX1_longestChainAmong 5 = .ok (.ifCond .eq 25, 3) := by decide +kernel
theorem dX1_longestChainAmong_8 : decode cX1_longestChainAmong 8 = .ok (.iload_n 3, 1) := by decide +kernel
theorem dX1_longestChainAmong_9 : decode cX1_longestChainAmong 9 = .ok (.bipush 8, 2) := by decide +kernel
theorem dX1_longestChainAmong_11 : decode cX1_longestChainAmong 11 = .ok (.if_icmp .ge 19, 3) := by decide +kernel
theorem dX1_longestChainAmong_14 : decode cX1_longestChainAmong 14 = .ok (.iload_n 2, 1) := by decide +kernel
theorem dX1_longestChainAmong_15 : decode cX1_longestChainAmong 15 = .ok (.aload_n 0, 1) := by decide +kernel
theorem dX1_longestChainAmong_16 : decode cX1_longestChainAmong 16 = .ok (.iload_n 2, 1) := by decide +kernel
theorem dX1_longestChainAmong_17 : decode cX1_longestChainAmong 17 = .ok (.invokevirtual 55, 3) := by decide +kernel
theorem dX1_longestChainAmong_20 : decode cX1_longestChainAmong 20 = .ok (.iconst (-1), 1) := by decide +kernel
theorem dX1_longestChainAmong_21 : decode cX1_longestChainAmong 21 = .ok (.ixor, 1) := by decide +kernel
theorem dX1_longestChainAmong_22 : decode cX1_longestChainAmong 22 = .ok (.iand, 1) := by decide +kernel
theorem dX1_longestChainAmong_23 : decode cX1_longestChainAmong 23 = .ok (.istore_n 2, 1) := by decide +kernel
theorem dX1_longestChainAmong_24 : decode cX1_longestChainAmong 24 = .ok (.iinc 3 1, 3) := by decide +kernel
theorem dX1_longestChainAmong_27 : decode cX1_longestChainAmong 27 = .ok (.goto (-23), 3) := by decide +kernel
theorem dX1_longestChainAmong_30 : decode cX1_longestChainAmong 30 = .ok (.iload_n 3, 1) := by decide +kernel
theorem dX1_longestChainAmong_31 : decode cX1_longestChainAmong 31 = .ok (.ireturn, 1) := by decide +kernel
theorem dX1_widestChoiceAmong_0 : decode cX1_widestChoiceAmong 0 = .ok (.iconst 0, 1) := by decide +kernel
theorem dX1_widestChoiceAmong_1 : decode cX1_widestChoiceAmong 1 = .ok (.istore_n 2, 1) := by decide +kernel
theorem dX1_widestChoiceAmong_2 : decode cX1_widestChoiceAmong 2 = .ok (.iconst 0, 1) := by decide +kernel
theorem dX1_widestChoiceAmong_3 : decode cX1_widestChoiceAmong 3 = .ok (.istore_n 3, 1) := by decide +kernel
theorem dX1_widestChoiceAmong_4 : decode cX1_widestChoiceAmong 4 = .ok (.iload_n 3, 1) := by decide +kernel
theorem dX1_widestChoiceAmong_5 : decode cX1_widestChoiceAmong 5 = .ok (.sipush 256, 3) := by decide +kernel
theorem dX1_widestChoiceAmong_8 : decode cX1_widestChoiceAmong 8 = .ok (.if_icmp .ge 41, 3) := by decide +kernel
theorem dX1_widestChoiceAmong_11 : decode cX1_widestChoiceAmong 11 = .ok (.iload_n 3, 1) := by decide +kernel
theorem dX1_widestChoiceAmong_12 : decode cX1_widestChoiceAmong 12 = .ok (.invokestatic 36, 3) := by decide +kernel
theorem dX1_widestChoiceAmong_15 : decode cX1_widestChoiceAmong 15 = .ok (.istore 4, 2) := by decide +kernel
theorem dX1_widestChoiceAmong_17 : decode cX1_widestChoiceAmong 17 = .ok (.iload_n 3, 1) := by decide +kernel
theorem dX1_widestChoiceAmong_18 : decode cX1_widestChoiceAmong 18 = .ok (.iload_n 1, 1) := by decide +kernel
theorem dX1_widestChoiceAmong_19 : decode cX1_widestChoiceAmong 19 = .ok (.iconst (-1), 1) := by decide +kernel
theorem dX1_widestChoiceAmong_20 : decode cX1_widestChoiceAmong 20 = .ok (.ixor, 1) := by decide +kernel
theorem dX1_widestChoiceAmong_21 : decode cX1_widestChoiceAmong 21 = .ok (.iand, 1) := by decide +kernel
theorem dX1_widestChoiceAmong_22 : decode cX1_widestChoiceAmong 22 = .ok (.ifCond .ne 21, 3) := by decide +kernel
theorem dX1_widestChoiceAmong_25 : decode cX1_widestChoiceAmong 25 = .ok (.iload 4, 2) := by decide +kernel
theorem dX1_widestChoiceAmong_27 : decode cX1_widestChoiceAmong 27 = .ok (.iload_n 2, 1) := by decide +kernel
theorem dX1_widestChoiceAmong_28 : decode cX1_widestChoiceAmong 28 = .ok (.if_icmp .le 15, 3) := by decide +kernel
theorem dX1_widestChoiceAmong_31 : decode cX1_widestChoiceAmong 31 = .ok (.aload_n 0, 1) := by decide +kernel
theorem dX1_widestChoiceAmong_32 : decode cX1_widestChoiceAmong 32 = .ok (.iload_n 3, 1) := by decide +kernel
theorem dX1_widestChoiceAmong_33 : decode cX1_widestChoiceAmong 33 = .ok (.invokevirtual 55, 3) := by decide +kernel
theorem dX1_widestChoiceAmong_36 : decode cX1_widestChoiceAmong 36 = .ok (.iload_n 3, 1) := by decide +kernel
theorem dX1_widestChoiceAmong_37 : decode cX1_widestChoiceAmong 37 = .ok (.if_icmp .ne 6, 3) := by decide +kernel
theorem dX1_widestChoiceAmong_40 : decode cX1_widestChoiceAmong 40 = .ok (.iload 4, 2) := by decide +kernel
theorem dX1_widestChoiceAmong_42 : decode cX1_widestChoiceAmong 42 = .ok (.istore_n 2, 1) := by decide +kernel
theorem dX1_widestChoiceAmong_43 : decode cX1_widestChoiceAmong 43 = .ok (.iinc 3 1, 3) := by decide +kernel
theorem dX1_widestChoiceAmong_46 : decode cX1_widestChoiceAmong 46 = .ok (.goto (-42), 3) := by decide +kernel
theorem dX1_widestChoiceAmong_49 : decode cX1_widestChoiceAmong 49 = .ok (.iload_n 2, 1) := by decide +kernel
theorem dX1_widestChoiceAmong_50 : decode cX1_widestChoiceAmong 50 = .ok (.ireturn, 1) := by decide +kernel
theorem dX1_needlessEdges_0 : decode cX1_needlessEdges 0 = .ok (.iconst 0, 1) := by decide +kernel
theorem dX1_needlessEdges_1 : decode cX1_needlessEdges 1 = .ok (.istore_n 1, 1) := by decide +kernel
theorem dX1_needlessEdges_2 : decode cX1_needlessEdges 2 = .ok (.iconst 0, 1) := by decide +kernel
theorem dX1_needlessEdges_3 : decode cX1_needlessEdges 3 = .ok (.istore_n 2, 1) := by decide +kernel
theorem dX1_needlessEdges_4 : decode cX1_needlessEdges 4 = .ok (.iload_n 2, 1) := by decide +kernel
theorem dX1_needlessEdges_5 : decode cX1_needlessEdges 5 = .ok (.bipush 8, 2) := by decide +kernel
theorem dX1_needlessEdges_7 : decode cX1_needlessEdges 7 = .ok (.if_icmp .ge 44, 3) := by decide +kernel
theorem dX1_needlessEdges_10 : decode cX1_needlessEdges 10 = .ok (.iconst 0, 1) := by decide +kernel
theorem dX1_needlessEdges_11 : decode cX1_needlessEdges 11 = .ok (.istore_n 3, 1) := by decide +kernel
theorem dX1_needlessEdges_12 : decode cX1_needlessEdges 12 = .ok (.iload_n 3, 1) := by decide +kernel
theorem dX1_needlessEdges_13 : decode cX1_needlessEdges 13 = .ok (.bipush 8, 2) := by decide +kernel
theorem dX1_needlessEdges_15 : decode cX1_needlessEdges 15 = .ok (.if_icmp .ge 30, 3) := by decide +kernel
theorem dX1_needlessEdges_18 : decode cX1_needlessEdges 18 = .ok (.aload_n 0, 1) := by decide +kernel
theorem dX1_needlessEdges_19 : decode cX1_needlessEdges 19 = .ok (.iload_n 2, 1) := by decide +kernel
theorem dX1_needlessEdges_20 : decode cX1_needlessEdges 20 = .ok (.iload_n 3, 1) := by decide +kernel
theorem dX1_needlessEdges_21 : decode cX1_needlessEdges 21 = .ok (.invokevirtual 52, 3) := by decide +kernel
theorem dX1_needlessEdges_24 : decode cX1_needlessEdges 24 = .ok (.ifCond .eq 15, 3) := by decide +kernel
theorem dX1_needlessEdges_27 : decode cX1_needlessEdges 27 = .ok (.aload_n 0, 1) := by decide +kernel
theorem dX1_needlessEdges_28 : decode cX1_needlessEdges 28 = .ok (.iload_n 2, 1) := by decide +kernel
theorem dX1_needlessEdges_29 : decode cX1_needlessEdges 29 = .ok (.iload_n 3, 1) := by decide +kernel
theorem dX1_needlessEdges_30 : decode cX1_needlessEdges 30 = .ok (.invokevirtual 58, 3) := by decide +kernel
theorem dX1_needlessEdges_33 : decode cX1_needlessEdges 33 = .ok (.ifCond .eq 6, 3) := by decide +kernel
theorem dX1_needlessEdges_36 : decode cX1_needlessEdges 36 = .ok (.iinc 1 1, 3) := by decide +kernel
theorem dX1_needlessEdges_39 : decode cX1_needlessEdges 39 = .ok (.iinc 3 1, 3) := by decide +kernel
theorem dX1_needlessEdges_42 : decode cX1_needlessEdges 42 = .ok (.goto (-30), 3) := by decide +kernel
theorem dX1_needlessEdges_45 : decode cX1_needlessEdges 45 = .ok (.iinc 2 1, 3) := by decide +kernel
theorem dX1_needlessEdges_48 : decode cX1_needlessEdges 48 = .ok (.goto (-44), 3) := by decide +kernel
theorem dX1_needlessEdges_51 : decode cX1_needlessEdges 51 = .ok (.iload_n 1, 1) := by decide +kernel
theorem dX1_needlessEdges_52 : decode cX1_needlessEdges 52 = .ok (.ireturn, 1) := by decide +kernel
theorem dX1_isPrecededByNextOf_0 : decode cX1_isPrecededByNextOf 0 = .ok (.iconst 0, 1) := by decide +kernel
theorem dX1_isPrecededByNextOf_1 : decode cX1_isPrecededByNextOf 1 = .ok (.istore_n 3, 1) := by decide +kernel
theorem dX1_isPrecededByNextOf_2 : decode cX1_isPrecededByNextOf 2 = .ok (.iload_n 3, 1) := by decide +kernel
theorem dX1_isPrecededByNextOf_3 : decode cX1_isPrecededByNextOf 3 = .ok (.bipush 8, 2) := by decide +kernel
theorem dX1_isPrecededByNextOf_5 : decode cX1_isPrecededByNextOf 5 = .ok (.if_icmp .ge 29, 3) := by decide +kernel
theorem dX1_isPrecededByNextOf_8 : decode cX1_isPrecededByNextOf 8 = .ok (.aload_n 0, 1) := by decide +kernel
theorem dX1_isPrecededByNextOf_9 : decode cX1_isPrecededByNextOf 9 = .ok (.iload_n 1, 1) := by decide +kernel
theorem dX1_isPrecededByNextOf_10 : decode cX1_isPrecededByNextOf 10 = .ok (.iload_n 3, 1) := by decide +kernel
theorem dX1_isPrecededByNextOf_11 : decode cX1_isPrecededByNextOf 11 = .ok (.invokevirtual 52, 3) := by decide +kernel
theorem dX1_isPrecededByNextOf_14 : decode cX1_isPrecededByNextOf 14 = .ok (.ifCond .eq 14, 3) := by decide +kernel
theorem dX1_isPrecededByNextOf_17 : decode cX1_isPrecededByNextOf 17 = .ok (.aload_n 0, 1) := by decide +kernel
theorem dX1_isPrecededByNextOf_18 : decode cX1_isPrecededByNextOf 18 = .ok (.iload_n 3, 1) := by decide +kernel
theorem dX1_isPrecededByNextOf_19 : decode cX1_isPrecededByNextOf 19 = .ok (.iload_n 2, 1) := by decide +kernel
theorem dX1_isPrecededByNextOf_20 : decode cX1_isPrecededByNextOf 20 = .ok (.invokevirtual 61, 3) := by decide +kernel
theorem dX1_isPrecededByNextOf_23 : decode cX1_isPrecededByNextOf 23 = .ok (.ifCond .eq 5, 3) := by decide +kernel
theorem dX1_isPrecededByNextOf_26 : decode cX1_isPrecededByNextOf 26 = .ok (.iconst 1, 1) := by decide +kernel
theorem dX1_isPrecededByNextOf_27 : decode cX1_isPrecededByNextOf 27 = .ok (.ireturn, 1) := by decide +kernel
theorem dX1_isPrecededByNextOf_28 : decode cX1_isPrecededByNextOf 28 = .ok (.iinc 3 1, 3) := by decide +kernel
theorem dX1_isPrecededByNextOf_31 : decode cX1_isPrecededByNextOf 31 = .ok (.goto (-29), 3) := by decide +kernel
theorem dX1_isPrecededByNextOf_34 : decode cX1_isPrecededByNextOf 34 = .ok (.iconst 0, 1) := by decide +kernel
theorem dX1_isPrecededByNextOf_35 : decode cX1_isPrecededByNextOf 35 = .ok (.ireturn, 1) := by decide +kernel
theorem dX1_countLists_0 : decode cX1_countLists 0 = .ok (.iload_n 1, 1) := by decide +kernel
theorem dX1_countLists_1 : decode cX1_countLists 1 = .ok (.ifCond .lt 9, 3) := by decide +kernel
theorem dX1_countLists_4 : decode cX1_countLists 4 = .ok (.iload_n 1, 1) := by decide +kernel
theorem dX1_countLists_5 : decode cX1_countLists 5 = .ok (.aload_n 2, 1) := by decide +kernel
theorem dX1_countLists_6 : decode cX1_countLists 6 = .ok (.arraylength, 1) := by decide +kernel
theorem dX1_countLists_7 : decode cX1_countLists 7 = .ok (.if_icmp .lt 5, 3) := by decide +kernel
theorem dX1_countLists_10 : decode cX1_countLists 10 = .ok (.lconst 0, 1) := by decide +kernel
theorem dX1_countLists_11 : decode cX1_countLists 11 = .ok (.lreturn, 1) := by decide +kernel
theorem dX1_countLists_12 : decode cX1_countLists 12 = .ok (.aload_n 2, 1) := by decide +kernel
theorem dX1_countLists_13 : decode cX1_countLists 13 = .ok (.iconst 0, 1) := by decide +kernel
theorem dX1_countLists_14 : decode cX1_countLists 14 = .ok (.lconst 1, 1) := by decide +kernel
theorem dX1_countLists_15 : decode cX1_countLists 15 = .ok (.lastore, 1) := by decide +kernel
theorem dX1_countLists_16 : decode cX1_countLists 16 = .ok (.iconst 1, 1) := by decide +kernel
theorem dX1_countLists_17 : decode cX1_countLists 17 = .ok (.istore_n 3, 1) := by decide +kernel
theorem dX1_countLists_18 : decode cX1_countLists 18 = .ok (.iload_n 3, 1) := by decide +kernel
theorem dX1_countLists_19 : decode cX1_countLists 19 = .ok (.iload_n 1, 1) := by decide +kernel
theorem dX1_countLists_20 : decode cX1_countLists 20 = .ok (.if_icmp .gt 30, 3) := by decide +kernel
theorem dX1_countLists_23 : decode cX1_countLists 23 = .ok (.aload_n 2, 1) := by decide +kernel
theorem dX1_countLists_24 : decode cX1_countLists 24 = .ok (.iload_n 3, 1) := by decide +kernel
theorem dX1_countLists_25 : decode cX1_countLists 25 = .ok (.iload_n 3, 1) := by decide +kernel
theorem dX1_countLists_26 : decode cX1_countLists 26 = .ok (.iload_n 1, 1) := by decide +kernel
theorem dX1_countLists_27 : decode cX1_countLists 27 = .ok (.iconst (-1), 1) := by decide +kernel
theorem dX1_countLists_28 : decode cX1_countLists 28 = .ok (.ixor, 1) := by decide +kernel
theorem dX1_countLists_29 : decode cX1_countLists 29 = .ok (.iand, 1) := by decide +kernel
theorem dX1_countLists_30 : decode cX1_countLists 30 = .ok (.ifCond .ne 12, 3) := by decide +kernel
theorem dX1_countLists_33 : decode cX1_countLists 33 = .ok (.aload_n 0, 1) := by decide +kernel
theorem dX1_countLists_34 : decode cX1_countLists 34 = .ok (.iload_n 3, 1) := by decide +kernel
theorem dX1_countLists_35 : decode cX1_countLists 35 = .ok (.aload_n 2, 1) := by decide +kernel
theorem dX1_countLists_36 : decode cX1_countLists 36 = .ok (.invokevirtual 64, 3) := by decide +kernel
theorem dX1_countLists_39 : decode cX1_countLists 39 = .ok (.goto 4, 3) := by decide +kernel
theorem dX1_countLists_42 : decode cX1_countLists 42 = .ok (.lconst 0, 1) := by decide +kernel
theorem dX1_countLists_43 : decode cX1_countLists 43 = .ok (.lastore, 1) := by decide +kernel
theorem dX1_countLists_44 : decode cX1_countLists 44 = .ok (.iinc 3 1, 3) := by decide +kernel
theorem dX1_countLists_47 : decode cX1_countLists 47 = .ok (.goto (-29), 3) := by decide +kernel
theorem dX1_countLists_50 : decode cX1_countLists 50 = .ok (.aload_n 2, 1) := by decide +kernel
theorem dX1_countLists_51 : decode cX1_countLists 51 = .ok (.iload_n 1, 1) := by decide +kernel
theorem dX1_countLists_52 : decode cX1_countLists 52 = .ok (.laload, 1) := by decide +kernel
theorem dX1_countLists_53 : decode cX1_countLists 53 = .ok (.lreturn, 1) := by decide +kernel
theorem dX1_listsByLast_0 : decode cX1_listsByLast 0 = .ok (.lconst 0, 1) := by decide +kernel
theorem dX1_listsByLast_1 : decode cX1_listsByLast 1 = .ok (.lstore_n 3, 1) := by decide +kernel
theorem dX1_listsByLast_2 : decode cX1_listsByLast 2 = .ok (.iconst 0, 1) := by decide +kernel
theorem dX1_listsByLast_3 : decode cX1_listsByLast 3 = .ok (.istore 5, 2) := by decide +kernel
theorem dX1_listsByLast_5 : decode cX1_listsByLast 5 = .ok (.iload 5, 2) := by decide +kernel
theorem dX1_listsByLast_7 : decode cX1_listsByLast 7 = .ok (.bipush 8, 2) := by decide +kernel
theorem dX1_listsByLast_9 : decode cX1_listsByLast 9 = .ok (.if_icmp .ge 44, 3) := by decide +kernel
theorem dX1_listsByLast_12 : decode cX1_listsByLast 12 = .ok (.iload_n 1, 1) := by decide +kernel
theorem dX1_listsByLast_13 : decode cX1_listsByLast 13 = .ok (.iload 5, 2) := by decide +kernel
theorem dX1_listsByLast_15 : decode cX1_listsByLast 15 = .ok (.invokestatic 22, 3) := by decide +kernel
theorem dX1_listsByLast_18 : decode cX1_listsByLast 18 = .ok (.ifCond .eq 29, 3) := by decide +kernel
theorem dX1_listsByLast_21 : decode cX1_listsByLast 21 = .ok (.aload_n 0, 1) := by decide +kernel
theorem dX1_listsByLast_22 : decode cX1_listsByLast 22 = .ok (.getfield 15, 3) := by decide +kernel
theorem dX1_listsByLast_25 : decode cX1_listsByLast 25 = .ok (.iload 5, 2) := by decide +kernel
theorem dX1_listsByLast_27 : decode cX1_listsByLast 27 = .ok (.iaload, 1) := by decide +kernel
theorem dX1_listsByLast_28 : decode cX1_listsByLast 28 = .ok (.iload_n 1, 1) := by decide +kernel
theorem dX1_listsByLast_29 : decode cX1_listsByLast 29 = .ok (.iand, 1) := by decide +kernel
theorem dX1_listsByLast_30 : decode cX1_listsByLast 30 = .ok (.ifCond .ne 17, 3) := by decide +kernel
theorem dX1_listsByLast_33 : decode cX1_listsByLast 33 = .ok (.lload_n 3, 1) := by decide +kernel
theorem dX1_listsByLast_34 : decode cX1_listsByLast 34 = .ok (.aload_n 2, 1) := by decide +kernel
theorem dX1_listsByLast_35 : decode cX1_listsByLast 35 = .ok (.iload_n 1, 1) := by decide +kernel
theorem dX1_listsByLast_36 : decode cX1_listsByLast 36 = .ok (.iload 5, 2) := by decide +kernel
theorem dX1_listsByLast_38 : decode cX1_listsByLast 38 = .ok (.invokestatic 29, 3) := by decide +kernel
theorem dX1_listsByLast_41 : decode cX1_listsByLast 41 = .ok (.iconst (-1), 1) := by decide +kernel
theorem dX1_listsByLast_42 : decode cX1_listsByLast 42 = .ok (.ixor, 1) := by decide +kernel
theorem dX1_listsByLast_43 : decode cX1_listsByLast 43 = .ok (.iand, 1) := by decide +kernel
theorem dX1_listsByLast_44 : decode cX1_listsByLast 44 = .ok (.laload, 1) := by decide +kernel
theorem dX1_listsByLast_45 : decode cX1_listsByLast 45 = .ok (.ladd, 1) := by decide +kernel
theorem dX1_listsByLast_46 : decode cX1_listsByLast 46 = .ok (.lstore_n 3, 1) := by decide +kernel
theorem dX1_listsByLast_47 : decode cX1_listsByLast 47 = .ok (.iinc 5 1, 3) := by decide +kernel
theorem dX1_listsByLast_50 : decode cX1_listsByLast 50 = .ok (.goto (-45), 3) := by decide +kernel
theorem dX1_listsByLast_53 : decode cX1_listsByLast 53 = .ok (.lload_n 3, 1) := by decide +kernel
theorem dX1_listsByLast_54 : decode cX1_listsByLast 54 = .ok (.lreturn, 1) := by decide +kernel

set_option maxRecDepth 20000 in
theorem ggX1_hasEdge_X3_isStream : GoodIn wsX1_hasEdge wsX3_isStream := goodIn_r _ [4] (by decide +kernel) (by decide +kernel)
set_option maxRecDepth 20000 in
theorem gX1_hasEdge_X3_isStream_n18 : GoodIn wsX1_hasEdge (wsX3_isStream) := ggX1_hasEdge_X3_isStream
set_option maxRecDepth 20000 in
theorem ggX1_hasEdge_X3_isIn : GoodIn wsX1_hasEdge wsX3_isIn := goodIn_r _ [6] (by decide +kernel) (by decide +kernel)
set_option maxRecDepth 20000 in
theorem gX1_hasEdge_X3_isIn_n22 : GoodIn wsX1_hasEdge (wsX3_isIn) := ggX1_hasEdge_X3_isIn
set_option maxRecDepth 20000 in
theorem ggX1_precedes_X3_isStream : GoodIn wsX1_precedes wsX3_isStream := goodIn_r _ [4] (by decide +kernel) (by decide +kernel)
set_option maxRecDepth 20000 in
theorem gX1_precedes_X3_isStream_n18 : GoodIn wsX1_precedes (wsX3_isStream) := ggX1_precedes_X3_isStream
set_option maxRecDepth 20000 in
theorem ggX1_precedes_X3_isIn : GoodIn wsX1_precedes wsX3_isIn := goodIn_r _ [6] (by decide +kernel) (by decide +kernel)
set_option maxRecDepth 20000 in
theorem gX1_precedes_X3_isIn_n22 : GoodIn wsX1_precedes (wsX3_isIn) := ggX1_precedes_X3_isIn
set_option maxRecDepth 20000 in
theorem ggX1_putEdge_X3_areTwoStreams : GoodIn wsX1_putEdge wsX3_areTwoStreams := goodIn_r _ [4, 5, 6, 3, 7] (by decide +kernel) (by decide +kernel)
set_option maxRecDepth 20000 in
theorem gX1_putEdge_X3_areTwoStreams_n26 : GoodIn wsX1_putEdge (wsX3_areTwoStreams) := ggX1_putEdge_X3_areTwoStreams
set_option maxRecDepth 20000 in
theorem ggX1_putEdge_X3_setOf : GoodIn wsX1_putEdge wsX3_setOf := goodIn_r _ [9] (by decide +kernel) (by decide +kernel)
set_option maxRecDepth 20000 in
theorem gX1_putEdge_X3_setOf_n29 : GoodIn wsX1_putEdge (wsX3_setOf) := ggX1_putEdge_X3_setOf
set_option maxRecDepth 20000 in
theorem ggX1_putEdge_X1_findPreceded : GoodIn wsX1_putEdge wsX1_findPreceded := goodIn_r _ [14, 15, 1, 16, 3, 17, 18, 19] (by decide +kernel) (by decide +kernel)
set_option maxRecDepth 20000 in
theorem gX1_putEdge_X1_findPreceded : GoodIn wsX1_putEdge (wsV RX1 33 RX1 yX1_findPreceded wsX1_findPreceded) := goodIn_app (goodIn_of _ (by decide +kernel)) ggX1_putEdge_X1_findPreceded
set_option maxRecDepth 20000 in
theorem ggX1_findPreceded_X3_isIn : GoodIn wsX1_findPreceded wsX3_isIn := goodIn_r _ [5] (by decide +kernel) (by decide +kernel)
set_option maxRecDepth 20000 in
theorem gX1_findPreceded_X3_isIn_n22 : GoodIn wsX1_findPreceded (wsX3_isIn) := ggX1_findPreceded_X3_isIn
set_option maxRecDepth 20000 in
theorem ggX1_edgeCount_J6_bitCount_0f7a4 : GoodIn wsX1_edgeCount wsJ6_bitCount_0f7a4 := goodIn_r _ [5, 6, 7, 8] (by decide +kernel) (by decide +kernel)
set_option maxRecDepth 20000 in
theorem gX1_edgeCount_J6_bitCount_0f7a4 : GoodIn wsX1_edgeCount (va_wsS RX1 36 yJ6_bitCount_0f7a4 wsJ6_bitCount_0f7a4) := goodIn_app (goodIn_of _ (by decide +kernel)) ggX1_edgeCount_J6_bitCount_0f7a4

set_option maxRecDepth 20000 in
theorem ggX1_distance_X3_setOf : GoodIn wsX1_distance wsX3_setOf := goodIn_r _ [3] (by decide +kernel) (by decide +kernel)
set_option maxRecDepth 20000 in
theorem gX1_distance_X3_setOf_n29 : GoodIn wsX1_distance (wsX3_setOf) := ggX1_distance_X3_setOf
set_option maxRecDepth 20000 in
theorem ggX1_distance_X3_isIn : GoodIn wsX1_distance wsX3_isIn := goodIn_r _ [5] (by decide +kernel) (by decide +kernel)
set_option maxRecDepth 20000 in
theorem gX1_distance_X3_isIn_n22 : GoodIn wsX1_distance (wsX3_isIn) := ggX1_distance_X3_isIn
set_option maxRecDepth 20000 in
theorem ggX1_distance_X1_nextOfAll : GoodIn wsX1_distance wsX1_nextOfAll := goodIn_r _ [10, 11, 4, 2, 5, 12, 13] (by decide +kernel) (by decide +kernel)
set_option maxRecDepth 20000 in
theorem gX1_distance_X1_nextOfAll : GoodIn wsX1_distance (wsV RX1 41 RX1 yX1_nextOfAll wsX1_nextOfAll) := goodIn_app (goodIn_of _ (by decide +kernel)) ggX1_distance_X1_nextOfAll
set_option maxRecDepth 20000 in
theorem ggX1_nextOfAll_X3_isIn : GoodIn wsX1_nextOfAll wsX3_isIn := goodIn_r _ [4] (by decide +kernel) (by decide +kernel)
set_option maxRecDepth 20000 in
theorem gX1_nextOfAll_X3_isIn_n22 : GoodIn wsX1_nextOfAll (wsX3_isIn) := ggX1_nextOfAll_X3_isIn
set_option maxRecDepth 20000 in
theorem ggX1_streamOfWalk_X1_distance : GoodIn wsX1_streamOfWalk wsX1_distance := goodIn_r _ [5, 6, 7, 8, 9, 10, 11, 12, 13, 4, 14, 15, 26, 27] (by decide +kernel) (by decide +kernel)
set_option maxRecDepth 20000 in
theorem gX1_streamOfWalk_X1_distance : GoodIn wsX1_streamOfWalk (wsV RX1 44 RX1 yX1_distance wsX1_distance) := goodIn_app (goodIn_of _ (by decide +kernel)) ggX1_streamOfWalk_X1_distance
set_option maxRecDepth 20000 in
theorem ggX1_streamOfWalk_X1_lowestNextAt : GoodIn wsX1_streamOfWalk wsX1_lowestNextAt := goodIn_r _ [19, 20, 21, 22, 4, 23, 15, 24, 7, 25, 9, 10, 1, 2, 3, 5, 6, 8, 11, 12, 13, 14, 26, 27] (by decide +kernel) (by decide +kernel)
set_option maxRecDepth 20000 in
theorem gX1_streamOfWalk_X1_lowestNextAt : GoodIn wsX1_streamOfWalk (wsV RX1 48 RX1 yX1_lowestNextAt wsX1_lowestNextAt) := goodIn_app (goodIn_of _ (by decide +kernel)) ggX1_streamOfWalk_X1_lowestNextAt
set_option maxRecDepth 20000 in
theorem ggX1_lowestNextAt_X1_hasEdge : GoodIn wsX1_lowestNextAt wsX1_hasEdge := goodIn_r _ [5, 6, 7, 8, 9, 10, 11, 22, 23] (by decide +kernel) (by decide +kernel)
set_option maxRecDepth 20000 in
theorem gX1_lowestNextAt_X1_hasEdge : GoodIn wsX1_lowestNextAt (wsV RX1 52 RX1 yX1_hasEdge wsX1_hasEdge) := goodIn_app (goodIn_of _ (by decide +kernel)) ggX1_lowestNextAt_X1_hasEdge
set_option maxRecDepth 20000 in
theorem ggX1_lowestNextAt_X1_distance : GoodIn wsX1_lowestNextAt wsX1_distance := goodIn_r _ [15, 16, 8, 17, 10, 11, 18, 19, 20, 4, 21, 6, 22, 23] (by decide +kernel) (by decide +kernel)
set_option maxRecDepth 20000 in
theorem gX1_lowestNextAt_X1_distance : GoodIn wsX1_lowestNextAt (wsV RX1 44 RX1 yX1_distance wsX1_distance) := goodIn_app (goodIn_of _ (by decide +kernel)) ggX1_lowestNextAt_X1_distance
set_option maxRecDepth 20000 in
theorem ggX1_pairsAmong_X3_isIn : GoodIn wsX1_pairsAmong wsX3_isIn := goodIn_r _ [4] (by decide +kernel) (by decide +kernel)
set_option maxRecDepth 20000 in
theorem gX1_pairsAmong_X3_isIn_n22 : GoodIn wsX1_pairsAmong (wsX3_isIn) := ggX1_pairsAmong_X3_isIn
set_option maxRecDepth 20000 in
theorem ggX1_pairsAmong_J6_bitCount_0f7a4 : GoodIn wsX1_pairsAmong wsJ6_bitCount_0f7a4 := goodIn_r _ [8, 9, 10, 11] (by decide +kernel) (by decide +kernel)
set_option maxRecDepth 20000 in
theorem gX1_pairsAmong_J6_bitCount_0f7a4 : GoodIn wsX1_pairsAmong (va_wsS RX1 36 yJ6_bitCount_0f7a4 wsJ6_bitCount_0f7a4) := goodIn_app (goodIn_of _ (by decide +kernel)) ggX1_pairsAmong_J6_bitCount_0f7a4
set_option maxRecDepth 20000 in
theorem ggX1_firstOf_X3_isIn : GoodIn wsX1_firstOf wsX3_isIn := goodIn_r _ [4] (by decide +kernel) (by decide +kernel)
set_option maxRecDepth 20000 in
theorem gX1_firstOf_X3_isIn_n22 : GoodIn wsX1_firstOf (wsX3_isIn) := ggX1_firstOf_X3_isIn
set_option maxRecDepth 20000 in
theorem ggX1_longestChainAmong_X1_firstOf : GoodIn wsX1_longestChainAmong wsX1_firstOf := goodIn_r _ [5, 6, 7, 8, 9, 10, 11] (by decide +kernel) (by decide +kernel)
set_option maxRecDepth 20000 in
theorem gX1_longestChainAmong_X1_firstOf : GoodIn wsX1_longestChainAmong (wsV RX1 55 RX1 yX1_firstOf wsX1_firstOf) := goodIn_app (goodIn_of _ (by decide +kernel)) ggX1_longestChainAmong_X1_firstOf
set_option maxRecDepth 20000 in
theorem ggX1_widestChoiceAmong_J6_bitCount_0f7a4 : GoodIn wsX1_widestChoiceAmong wsJ6_bitCount_0f7a4 := goodIn_r _ [4, 5, 6, 7] (by decide +kernel) (by decide +kernel)
set_option maxRecDepth 20000 in
theorem gX1_widestChoiceAmong_J6_bitCount_0f7a4 : GoodIn wsX1_widestChoiceAmong (va_wsS RX1 36 yJ6_bitCount_0f7a4 wsJ6_bitCount_0f7a4) := goodIn_app (goodIn_of _ (by decide +kernel)) ggX1_widestChoiceAmong_J6_bitCount_0f7a4
set_option maxRecDepth 20000 in
theorem ggX1_widestChoiceAmong_X1_firstOf : GoodIn wsX1_widestChoiceAmong wsX1_firstOf := goodIn_r _ [12, 13, 14, 15, 16, 17, 18] (by decide +kernel) (by decide +kernel)
set_option maxRecDepth 20000 in
theorem gX1_widestChoiceAmong_X1_firstOf : GoodIn wsX1_widestChoiceAmong (wsV RX1 55 RX1 yX1_firstOf wsX1_firstOf) := goodIn_app (goodIn_of _ (by decide +kernel)) ggX1_widestChoiceAmong_X1_firstOf
set_option maxRecDepth 20000 in
theorem ggX1_needlessEdges_X1_hasEdge : GoodIn wsX1_needlessEdges wsX1_hasEdge := goodIn_r _ [5, 6, 7, 8, 9, 10, 11, 21, 22] (by decide +kernel) (by decide +kernel)
set_option maxRecDepth 20000 in
theorem gX1_needlessEdges_X1_hasEdge : GoodIn wsX1_needlessEdges (wsV RX1 52 RX1 yX1_hasEdge wsX1_hasEdge) := goodIn_app (goodIn_of _ (by decide +kernel)) ggX1_needlessEdges_X1_hasEdge
set_option maxRecDepth 20000 in
theorem ggX1_needlessEdges_X1_isPrecededByNextOf : GoodIn wsX1_needlessEdges wsX1_isPrecededByNextOf := goodIn_r _ [15, 1, 2, 3, 4, 5, 6, 7, 8, 9, 10, 11, 16, 17, 18, 19, 20, 21, 22] (by decide +kernel) (by decide +kernel)
set_option maxRecDepth 20000 in
theorem gX1_needlessEdges_X1_isPrecededByNextOf : GoodIn wsX1_needlessEdges (wsV RX1 58 RX1 yX1_isPrecededByNextOf wsX1_isPrecededByNextOf) := goodIn_app (goodIn_of _ (by decide +kernel)) ggX1_needlessEdges_X1_isPrecededByNextOf
set_option maxRecDepth 20000 in
theorem ggX1_isPrecededByNextOf_X1_hasEdge : GoodIn wsX1_isPrecededByNextOf wsX1_hasEdge := goodIn_r _ [5, 6, 7, 8, 9, 10, 11, 17, 18] (by decide +kernel) (by decide +kernel)
set_option maxRecDepth 20000 in
theorem gX1_isPrecededByNextOf_X1_hasEdge : GoodIn wsX1_isPrecededByNextOf (wsV RX1 52 RX1 yX1_hasEdge wsX1_hasEdge) := goodIn_app (goodIn_of _ (by decide +kernel)) ggX1_isPrecededByNextOf_X1_hasEdge
set_option maxRecDepth 20000 in
theorem ggX1_isPrecededByNextOf_X1_precedes : GoodIn wsX1_isPrecededByNextOf wsX1_precedes := goodIn_r _ [15, 16, 7, 8, 9, 10, 11, 17, 18] (by decide +kernel) (by decide +kernel)
set_option maxRecDepth 20000 in
theorem gX1_isPrecededByNextOf_X1_precedes : GoodIn wsX1_isPrecededByNextOf (wsV RX1 61 RX1 yX1_precedes wsX1_precedes) := goodIn_app (goodIn_of _ (by decide +kernel)) ggX1_isPrecededByNextOf_X1_precedes
set_option maxRecDepth 20000 in
theorem ggX1_countLists_X1_listsByLast : GoodIn wsX1_countLists wsX1_listsByLast := goodIn_r _ [5, 6, 7, 8, 9, 10, 11, 12, 13] (by decide +kernel) (by decide +kernel)
set_option maxRecDepth 20000 in
theorem gX1_countLists_X1_listsByLast : GoodIn wsX1_countLists (wsV RX1 64 RX1 yX1_listsByLast wsX1_listsByLast) := goodIn_app (goodIn_of _ (by decide +kernel)) ggX1_countLists_X1_listsByLast
set_option maxRecDepth 20000 in
theorem ggX1_listsByLast_X3_isIn : GoodIn wsX1_listsByLast wsX3_isIn := goodIn_r _ [4] (by decide +kernel) (by decide +kernel)
set_option maxRecDepth 20000 in
theorem gX1_listsByLast_X3_isIn_n22 : GoodIn wsX1_listsByLast (wsX3_isIn) := ggX1_listsByLast_X3_isIn
set_option maxRecDepth 20000 in
theorem ggX1_listsByLast_X3_setOf : GoodIn wsX1_listsByLast wsX3_setOf := goodIn_r _ [6] (by decide +kernel) (by decide +kernel)
set_option maxRecDepth 20000 in
theorem gX1_listsByLast_X3_setOf_n29 : GoodIn wsX1_listsByLast (wsX3_setOf) := ggX1_listsByLast_X3_setOf
theorem kX1_copyFrom_f9 : Cond.fieldLink RX1 9 "StreamMultiplexer$Order" "next" "[I" ∈ wsX1_copyFrom := List.mem_of_getElem? (i := 1) rfl
theorem uX1_copyFrom_X1 : ∀ w ∈ wsX10, w ∈ wsX1_copyFrom := fun w h => List.mem_cons_of_mem _ (List.mem_append_right _ h)
theorem kX1_copyFrom_f15 : Cond.fieldLink RX1 15 "StreamMultiplexer$Order" "preceded" "[I" ∈ wsX1_copyFrom := List.mem_of_getElem? (i := 2) rfl
theorem kX1_hasEdge_f9 : Cond.fieldLink RX1 9 "StreamMultiplexer$Order" "next" "[I" ∈ wsX1_hasEdge := List.mem_of_getElem? (i := 1) rfl
theorem uX1_hasEdge_X1 : ∀ w ∈ wsX10, w ∈ wsX1_hasEdge := fun w h => List.mem_cons_of_mem _ (List.mem_append_right _ h)
theorem kX1_precedes_f15 : Cond.fieldLink RX1 15 "StreamMultiplexer$Order" "preceded" "[I" ∈ wsX1_precedes := List.mem_of_getElem? (i := 1) rfl
theorem uX1_precedes_X1 : ∀ w ∈ wsX10, w ∈ wsX1_precedes := fun w h => List.mem_cons_of_mem _ (List.mem_append_right _ h)
theorem kX1_findPreceded_f15 : Cond.fieldLink RX1 15 "StreamMultiplexer$Order" "preceded" "[I" ∈ wsX1_findPreceded := List.mem_of_getElem? (i := 1) rfl
theorem uX1_findPreceded_X1 : ∀ w ∈ wsX10, w ∈ wsX1_findPreceded := fun w h => List.mem_cons_of_mem _ (List.mem_append_right _ h)
theorem kX1_findPreceded_f9 : Cond.fieldLink RX1 9 "StreamMultiplexer$Order" "next" "[I" ∈ wsX1_findPreceded := List.mem_of_getElem? (i := 2) rfl
theorem kX1_putEdge_f9 : Cond.fieldLink RX1 9 "StreamMultiplexer$Order" "next" "[I" ∈ wsX1_putEdge := List.mem_of_getElem? (i := 1) rfl
theorem uX1_putEdge_X1 : ∀ w ∈ wsX10, w ∈ wsX1_putEdge := fun w h => List.mem_cons_of_mem _ (List.mem_append_right _ h)
theorem kX1_edgeCount_f9 : Cond.fieldLink RX1 9 "StreamMultiplexer$Order" "next" "[I" ∈ wsX1_edgeCount := List.mem_of_getElem? (i := 1) rfl
theorem uX1_edgeCount_X1 : ∀ w ∈ wsX10, w ∈ wsX1_edgeCount := fun w h => List.mem_cons_of_mem _ (List.mem_append_right _ h)
theorem kX1_hasSameEdges_f9 : Cond.fieldLink RX1 9 "StreamMultiplexer$Order" "next" "[I" ∈ wsX1_hasSameEdges := List.mem_of_getElem? (i := 1) rfl
theorem uX1_hasSameEdges_X1 : ∀ w ∈ wsX10, w ∈ wsX1_hasSameEdges := fun w h => List.mem_cons_of_mem _ (List.mem_append_right _ h)
theorem kX1_nextOfAll_f9 : Cond.fieldLink RX1 9 "StreamMultiplexer$Order" "next" "[I" ∈ wsX1_nextOfAll := List.mem_of_getElem? (i := 1) rfl
theorem uX1_nextOfAll_X1 : ∀ w ∈ wsX10, w ∈ wsX1_nextOfAll := fun w h => List.mem_cons_of_mem _ (List.mem_append_right _ h)
theorem kX1_pairsAmong_f15 : Cond.fieldLink RX1 15 "StreamMultiplexer$Order" "preceded" "[I" ∈ wsX1_pairsAmong := List.mem_of_getElem? (i := 1) rfl
theorem uX1_pairsAmong_X1 : ∀ w ∈ wsX10, w ∈ wsX1_pairsAmong := fun w h => List.mem_cons_of_mem _ (List.mem_append_right _ h)
theorem kX1_firstOf_f15 : Cond.fieldLink RX1 15 "StreamMultiplexer$Order" "preceded" "[I" ∈ wsX1_firstOf := List.mem_of_getElem? (i := 1) rfl
theorem uX1_firstOf_X1 : ∀ w ∈ wsX10, w ∈ wsX1_firstOf := fun w h => List.mem_cons_of_mem _ (List.mem_append_right _ h)
theorem kX1_listsByLast_f15 : Cond.fieldLink RX1 15 "StreamMultiplexer$Order" "preceded" "[I" ∈ wsX1_listsByLast := List.mem_of_getElem? (i := 1) rfl
theorem uX1_listsByLast_X1 : ∀ w ∈ wsX10, w ∈ wsX1_listsByLast := fun w h => List.mem_cons_of_mem _ (List.mem_append_right _ h)
def fX1_copyFrom (I : hm_I) (a b : Nat) : hm_I :=
  (lp 8 (fun i2 x2 => hm_put (hm_put x2 (a + 1) i2 (x2 (b + 1) i2)) (a + 2) i2 (x2 (b + 2) i2)) I)
set_option maxHeartbeats 4000000 in
set_option maxRecDepth 100000 in
theorem ctX1_copyFrom {l : Launch} {D : va_G} {T : Nat → ClassId} {L : List Nat} {A : Nat → Prop} {Sh : hm_S} {I : hm_I} {J : hm_J} {a b : Nat} (hO : IsO L Sh a) (hG : IsO L Sh b) (hab : a + 3 ≤ b ∨ b + 3 ≤ a) :
    Ct l yX1_copyFrom wsX1_copyFrom { frames := 0, cells := 0, slots := 0, locals := 0 } 0 0 D T A [.ref a, .ref b] (hm D T L A Sh I J) none (hm D T L A Sh (fX1_copyFrom I a b) J) := by
  refine Ct.ofW (cc := cX1_copyFrom) (maxL := 3) (ret := none) (by decide) rfl (Nat.le_of_ble_eq_true rfl) ?_
  intro p_ e_ s_ m_ args_ below_ meth_ c_ ls R Qq hR hQ C0 hr hlk hname hM hl
  have hx := C0.1.1
  have hb := C0.1.2.1
  have hS : va_S A s_.heap s_.heap [] := va_S.rf
  have hl : lv_has ls 3 [(0, .ref a), (1, .ref b)] := hl
  refine lv_iconst (v := nI 0) hx hb dX1_copyFrom_0 (by decide) ?_
  refine lv_istore_n (lv' := [(2, .int (nI 0)), (0, .ref a), (1, .ref b)]) hx hb dX1_copyFrom_1 rfl hl (by decide) rfl (fun ls hl => ?_)
  refine lp_loop (σ := hm_I) (fun i2 x2 => ∀ (H : Heap) (locs : List Loc) (ls : Array Slot), hm D T L A Sh x2 J H → va_S A s_.heap H locs → lv_has ls 3 [(0, .ref a), (1, .ref b), (2, .int (nI i2))] → W p_ l e_ R s_ m_ args_ below_ meth_ c_ H locs 0 0 Qq (F0 m_ 2 ls [])) 8 (fun i2 x2 => hm_put (hm_put x2 (a + 1) i2 (x2 (b + 1) i2)) (a + 2) i2 (x2 (b + 2) i2)) I (fun _ _ => True) trivial (fun _ _ _ _ => trivial) (fun i2 x2 hi1 hv2 k3 H locs ls hM hS hl => ?_) (fun hv2 H locs ls hM hS hl => ?_) _ _ _ hM hS (lv_sub hl [1, 2, 0] rfl)
  · have stp4 : ∀ yy_ : hm_I, yy_ = (hm_put (hm_put x2 (a + 1) i2 (x2 (b + 1) i2)) (a + 2) i2 (x2 (b + 2) i2)) → ∀ (H : Heap) (locs : List Loc) (ls : Array Slot), hm D T L A Sh yy_ J H → va_S A s_.heap H locs → lv_has ls 3 [(0, .ref a), (1, .ref b), (2, .int (nI (i2 + 1)))] → W p_ l e_ R s_ m_ args_ below_ meth_ c_ H locs 0 0 Qq (F0 m_ 2 ls []) := fun yy_ ey => by rw [ey]; exact k3
    refine lv_iload_n hx hb dX1_copyFrom_2 rfl (lv_at hl 2 rfl) ?_
    refine lv_bipush (v := nI 8) hx hb dX1_copyFrom_3 (by decide) ?_
    refine mr_geN (x := i2) (y := 8) (tgt := 38) C0 dX1_copyFrom_5 (by decide) (by omega) (by omega) (fun c5 => absurd c5 (by omega)) (fun c5 => ?_)
    refine lv_aload_n hx hb dX1_copyFrom_8 rfl (lv_at hl 0 rfl) ?_
    refine mr_getr (r := a + 1) (TT := TX1) (N := 2) C0 uX1_copyFrom_X1 hM hO.1.1 hO.1.2 rfl 0 (by decide) rfl kX1_copyFrom_f9 rfl dX1_copyFrom_9 ?_
    refine lv_iload_n hx hb dX1_copyFrom_12 rfl (lv_at hl 2 rfl) ?_
    refine lv_aload_n hx hb dX1_copyFrom_13 rfl (lv_at hl 1 rfl) ?_
    refine mr_getr (r := b + 1) (TT := TX1) (N := 2) C0 uX1_copyFrom_X1 hM hG.1.1 hG.1.2 rfl 0 (by decide) rfl kX1_copyFrom_f9 rfl dX1_copyFrom_14 ?_
    refine lv_iload_n hx hb dX1_copyFrom_17 rfl (lv_at hl 2 rfl) ?_
    refine mr_ialdN (v := x2 (b + 1) i2) C0 hM hG.2.1.1 hG.2.1.2 (by decide) (by omega) rfl dX1_copyFrom_18 ?_
    refine mr_iastN C0 hM hS hO.2.1.1 hO.2.1.2 (by decide) (by omega) dX1_copyFrom_19 (fun H locs hM hS => ?_)
    refine lv_aload_n hx hb dX1_copyFrom_20 rfl (lv_at hl 0 rfl) ?_
    refine mr_getr (r := a + 2) (TT := TX1) (N := 2) C0 uX1_copyFrom_X1 hM hO.1.1 hO.1.2 rfl 1 (by decide) rfl kX1_copyFrom_f15 rfl dX1_copyFrom_21 ?_
    refine lv_iload_n hx hb dX1_copyFrom_24 rfl (lv_at hl 2 rfl) ?_
    refine lv_aload_n hx hb dX1_copyFrom_25 rfl (lv_at hl 1 rfl) ?_
    refine mr_getr (r := b + 2) (TT := TX1) (N := 2) C0 uX1_copyFrom_X1 hM hG.1.1 hG.1.2 rfl 1 (by decide) rfl kX1_copyFrom_f15 rfl dX1_copyFrom_26 ?_
    refine lv_iload_n hx hb dX1_copyFrom_29 rfl (lv_at hl 2 rfl) ?_
    refine mr_ialdN (v := x2 (b + 2) i2) C0 hM hG.2.2.1 hG.2.2.2 (by decide) (by omega) (hm_put_get (by omega)) dX1_copyFrom_30 ?_
    refine mr_iastN C0 hM hS hO.2.2.1 hO.2.2.2 (by decide) (by omega) dX1_copyFrom_31 (fun H locs hM hS => ?_)
    refine lv_iinc (v := nI (i2 + 1)) (lv' := [(2, .int (nI (i2 + 1))), (0, .ref a), (1, .ref b)]) hx hb dX1_copyFrom_32 hl (k := 2) rfl (nI_1 _) (by decide) rfl (fun ls hl => ?_)
    refine lv_goto (tgt := 2) hx hb dX1_copyFrom_35 (by decide) ?_
    exact stp4 (hm_put (hm_put x2 (a + 1) i2 (x2 (b + 1) i2)) (a + 2) i2 (x2 (b + 2) i2)) rfl H locs ls hM hS (lv_sub hl [1, 2, 0] rfl)
  · skip
    refine lv_iload_n hx hb dX1_copyFrom_2 rfl (lv_at hl 2 rfl) ?_
    refine lv_bipush (v := nI 8) hx hb dX1_copyFrom_3 (by decide) ?_
    refine mr_geN (x := 8) (y := 8) (tgt := 38) C0 dX1_copyFrom_5 (by decide) (by decide) (by decide) (fun _ => ?_) (fun c6 => absurd c6 (by decide))
    have eF : (lp 8 (fun i2 x2 => hm_put (hm_put x2 (a + 1) i2 (x2 (b + 1) i2)) (a + 2) i2 (x2 (b + 2) i2)) I) = fX1_copyFrom I a b := rfl
    exact mr_vret C0 hr hlk hQ hS rfl (by rw [← eF]; exact hM) (Nat.le_refl _) (Nat.le_refl _) dX1_copyFrom_38
theorem fX1_copyFrom_ne {I : hm_I} {a b x0 : Nat} (h : x0 < a ∨ a + 3 ≤ x0) : fX1_copyFrom I a b x0 = I x0 := by
  unfold fX1_copyFrom
  exact lp_inv (fun _ (x : hm_I) => x x0 = I x0) rfl (fun i x _ hx => by rw [hm_put_ne _ _ _ _ (by omega), hm_put_ne _ _ _ _ (by omega)]; exact hx)
def fX1_hasEdge_t (I : hm_I) (a x y : Nat) : Bool :=
  if fX3_isIn (I (a + 1) x) (nI y) = true then true else false
set_option maxHeartbeats 4000000 in
set_option maxRecDepth 100000 in
theorem ctX1_hasEdge_t {l : Launch} {D : va_G} {T : Nat → ClassId} {L : List Nat} {A : Nat → Prop} {Sh : hm_S} {I : hm_I} {J : hm_J} {a : Nat} (hO : IsO L Sh a) {x y : Nat} (hx0 : x < 8) :
    Ct l yX1_hasEdge wsX1_hasEdge { frames := 1, cells := 0, slots := 0, locals := 21 } 0 0 D T A [.ref a, .int (nI x), .int (nI y)] (hm D T L A Sh I J) (some (.int (bI (fX1_hasEdge_t I a x y)))) (hm D T L A Sh I J) := by
  refine Ct.ofW (cc := cX1_hasEdge) (maxL := 3) (ret := (some .boolean)) (by decide) rfl (Nat.le_of_ble_eq_true rfl) ?_
  intro p_ e_ s_ m_ args_ below_ meth_ c_ ls R Qq hR hQ C0 hr hlk hname hM hl
  have hx := C0.1.1
  have hb := C0.1.2.1
  have hS : va_S A s_.heap s_.heap [] := va_S.rf
  have hl : lv_has ls 3 [(0, .ref a), (1, .int (nI x)), (2, .int (nI y))] := hl
  refine lv_iload_n hx hb dX1_hasEdge_0 rfl (lv_at hl 1 rfl) ?_
  refine mr_callSN (As := [.int (nI x)]) C0 (ctX3_isStream_t (I := I) (J := J) (s0 := x) (by omega)) (va_cnB (own := RX1) (index := 18) 1 C0.1.2.2.2.2 ggX1_hasEdge_X3_isStream rfl rfl rfl C0.2.2.1 (C0.1.2.2.2.2 _ (List.mem_of_getElem? (i := 3) rfl)) (by decide +kernel) (by rw [hR]; exact ⟨Nat.le_of_ble_eq_true rfl, Nat.le_of_ble_eq_true rfl⟩)) (C0.1.2.2.2.2 _ (List.mem_of_getElem? (i := 2) rfl)) hM hS rfl rfl rfl hl.1 (Nat.le_of_ble_eq_true rfl) dX1_hasEdge_1 (by rw [hR]; exact ⟨Nat.zero_le _, Nat.zero_le _⟩) (fun H locs hM hS => ?_)
  refine mr_eqB (tgt := 24) C0 dX1_hasEdge_4 (by decide) (fun c1 => absurd c1 (by decide)) (fun _ => ?_)
  refine lv_aload_n hx hb dX1_hasEdge_7 rfl (lv_at hl 0 rfl) ?_
  refine mr_getr (r := a + 1) (TT := TX1) (N := 2) C0 uX1_hasEdge_X1 hM hO.1.1 hO.1.2 rfl 0 (by decide) rfl kX1_hasEdge_f9 rfl dX1_hasEdge_8 ?_
  refine lv_iload_n hx hb dX1_hasEdge_11 rfl (lv_at hl 1 rfl) ?_
  refine mr_ialdN (v := I (a + 1) x) C0 hM hO.2.1.1 hO.2.1.2 (by decide) (by omega) rfl dX1_hasEdge_12 ?_
  refine lv_iload_n hx hb dX1_hasEdge_13 rfl (lv_at hl 2 rfl) ?_
  refine mr_callSN (As := [.int (I (a + 1) x), .int (nI y)]) C0 (ctX3_isIn (I := I) (J := J) (u0 := (I (a + 1) x)) (s0 := (nI y)) ) (va_cnB (own := RX1) (index := 22) 2 C0.1.2.2.2.2 ggX1_hasEdge_X3_isIn rfl rfl rfl C0.2.2.2.1 (C0.1.2.2.2.2 _ (List.mem_of_getElem? (i := 3) rfl)) (by decide +kernel) (by rw [hR]; exact ⟨Nat.le_of_ble_eq_true rfl, Nat.le_of_ble_eq_true rfl⟩)) (C0.1.2.2.2.2 _ (List.mem_of_getElem? (i := 5) rfl)) hM hS rfl rfl rfl hl.1 (Nat.le_of_ble_eq_true rfl) dX1_hasEdge_14 (by rw [hR]; exact ⟨Nat.zero_le _, Nat.zero_le _⟩) (fun H locs hM hS => ?_)
  refine mr_eqB (tgt := 24) C0 dX1_hasEdge_17 (by decide) (fun c2 => ?_) (fun c2 => ?_)
  · skip
    refine lv_iconst (v := nI 0) hx hb dX1_hasEdge_24 (by decide) ?_
    refine mr_top (y := bI false) (by decide) ?_
    have eF : false = fX1_hasEdge_t I a x y := by unfold fX1_hasEdge_t; rw [if_neg (Bool.eq_false_iff.mp c2)]
    exact mr_zret (b := false) C0 hr hlk hQ hS (by rw [← eF]) hM (Nat.le_refl _) (Nat.le_refl _) dX1_hasEdge_25
  · skip
    refine lv_iconst (v := nI 1) hx hb dX1_hasEdge_20 (by decide) ?_
    refine lv_goto (tgt := 25) hx hb dX1_hasEdge_21 (by decide) ?_
    refine mr_top (y := bI true) (by decide) ?_
    have eF : true = fX1_hasEdge_t I a x y := by unfold fX1_hasEdge_t; rw [if_pos c2]
    exact mr_zret (b := true) C0 hr hlk hQ hS (by rw [← eF]) hM (Nat.le_refl _) (Nat.le_refl _) dX1_hasEdge_25
def fX1_precedes_t (I : hm_I) (a x y : Nat) : Bool :=
  if fX3_isIn (I (a + 2) x) (nI y) = true then true else false
set_option maxHeartbeats 4000000 in
set_option maxRecDepth 100000 in
theorem ctX1_precedes_t {l : Launch} {D : va_G} {T : Nat → ClassId} {L : List Nat} {A : Nat → Prop} {Sh : hm_S} {I : hm_I} {J : hm_J} {a : Nat} (hO : IsO L Sh a) {x y : Nat} (hx0 : x < 8) :
    Ct l yX1_precedes wsX1_precedes { frames := 1, cells := 0, slots := 0, locals := 21 } 0 0 D T A [.ref a, .int (nI x), .int (nI y)] (hm D T L A Sh I J) (some (.int (bI (fX1_precedes_t I a x y)))) (hm D T L A Sh I J) := by
  refine Ct.ofW (cc := cX1_precedes) (maxL := 3) (ret := (some .boolean)) (by decide) rfl (Nat.le_of_ble_eq_true rfl) ?_
  intro p_ e_ s_ m_ args_ below_ meth_ c_ ls R Qq hR hQ C0 hr hlk hname hM hl
  have hx := C0.1.1
  have hb := C0.1.2.1
  have hS : va_S A s_.heap s_.heap [] := va_S.rf
  have hl : lv_has ls 3 [(0, .ref a), (1, .int (nI x)), (2, .int (nI y))] := hl
  refine lv_iload_n hx hb dX1_precedes_0 rfl (lv_at hl 1 rfl) ?_
  refine mr_callSN (As := [.int (nI x)]) C0 (ctX3_isStream_t (I := I) (J := J) (s0 := x) (by omega)) (va_cnB (own := RX1) (index := 18) 1 C0.1.2.2.2.2 ggX1_precedes_X3_isStream rfl rfl rfl C0.2.2.1 (C0.1.2.2.2.2 _ (List.mem_of_getElem? (i := 3) rfl)) (by decide +kernel) (by rw [hR]; exact ⟨Nat.le_of_ble_eq_true rfl, Nat.le_of_ble_eq_true rfl⟩)) (C0.1.2.2.2.2 _ (List.mem_of_getElem? (i := 2) rfl)) hM hS rfl rfl rfl hl.1 (Nat.le_of_ble_eq_true rfl) dX1_precedes_1 (by rw [hR]; exact ⟨Nat.zero_le _, Nat.zero_le _⟩) (fun H locs hM hS => ?_)
  refine mr_eqB (tgt := 24) C0 dX1_precedes_4 (by decide) (fun c1 => absurd c1 (by decide)) (fun _ => ?_)
  refine lv_aload_n hx hb dX1_precedes_7 rfl (lv_at hl 0 rfl) ?_
  refine mr_getr (r := a + 2) (TT := TX1) (N := 2) C0 uX1_precedes_X1 hM hO.1.1 hO.1.2 rfl 1 (by decide) rfl kX1_precedes_f15 rfl dX1_precedes_8 ?_
  refine lv_iload_n hx hb dX1_precedes_11 rfl (lv_at hl 1 rfl) ?_
  refine mr_ialdN (v := I (a + 2) x) C0 hM hO.2.2.1 hO.2.2.2 (by decide) (by omega) rfl dX1_precedes_12 ?_
  refine lv_iload_n hx hb dX1_precedes_13 rfl (lv_at hl 2 rfl) ?_
  refine mr_callSN (As := [.int (I (a + 2) x), .int (nI y)]) C0 (ctX3_isIn (I := I) (J := J) (u0 := (I (a + 2) x)) (s0 := (nI y)) ) (va_cnB (own := RX1) (index := 22) 2 C0.1.2.2.2.2 ggX1_precedes_X3_isIn rfl rfl rfl C0.2.2.2.1 (C0.1.2.2.2.2 _ (List.mem_of_getElem? (i := 3) rfl)) (by decide +kernel) (by rw [hR]; exact ⟨Nat.le_of_ble_eq_true rfl, Nat.le_of_ble_eq_true rfl⟩)) (C0.1.2.2.2.2 _ (List.mem_of_getElem? (i := 5) rfl)) hM hS rfl rfl rfl hl.1 (Nat.le_of_ble_eq_true rfl) dX1_precedes_14 (by rw [hR]; exact ⟨Nat.zero_le _, Nat.zero_le _⟩) (fun H locs hM hS => ?_)
  refine mr_eqB (tgt := 24) C0 dX1_precedes_17 (by decide) (fun c2 => ?_) (fun c2 => ?_)
  · skip
    refine lv_iconst (v := nI 0) hx hb dX1_precedes_24 (by decide) ?_
    refine mr_top (y := bI false) (by decide) ?_
    have eF : false = fX1_precedes_t I a x y := by unfold fX1_precedes_t; rw [if_neg (Bool.eq_false_iff.mp c2)]
    exact mr_zret (b := false) C0 hr hlk hQ hS (by rw [← eF]) hM (Nat.le_refl _) (Nat.le_refl _) dX1_precedes_25
  · skip
    refine lv_iconst (v := nI 1) hx hb dX1_precedes_20 (by decide) ?_
    refine lv_goto (tgt := 25) hx hb dX1_precedes_21 (by decide) ?_
    refine mr_top (y := bI true) (by decide) ?_
    have eF : true = fX1_precedes_t I a x y := by unfold fX1_precedes_t; rw [if_pos c2]
    exact mr_zret (b := true) C0 hr hlk hQ hS (by rw [← eF]) hM (Nat.le_refl _) (Nat.le_refl _) dX1_precedes_25
set_option maxHeartbeats 4000000 in
set_option maxRecDepth 100000 in
theorem ctX1_hasEdge_f {l : Launch} {D : va_G} {T : Nat → ClassId} {L : List Nat} {A : Nat → Prop} {Sh : hm_S} {I : hm_I} {J : hm_J} {a : Nat} (hO : IsO L Sh a) {x : Int32} {y : Nat} (hx0 : fX3_isStream x = false) :
    Ct l yX1_hasEdge wsX1_hasEdge { frames := 1, cells := 0, slots := 0, locals := 21 } 0 0 D T A [.ref a, .int x, .int (nI y)] (hm D T L A Sh I J) (some (.int (bI false))) (hm D T L A Sh I J) := by
  refine Ct.ofW (cc := cX1_hasEdge) (maxL := 3) (ret := (some .boolean)) (by decide) rfl (Nat.le_of_ble_eq_true rfl) ?_
  intro p_ e_ s_ m_ args_ below_ meth_ c_ ls R Qq hR hQ C0 hr hlk hname hM hl
  have hx := C0.1.1
  have hb := C0.1.2.1
  have hS : va_S A s_.heap s_.heap [] := va_S.rf
  have hl : lv_has ls 3 [(0, .ref a), (1, .int x), (2, .int (nI y))] := hl
  refine lv_iload_n hx hb dX1_hasEdge_0 rfl (lv_at hl 1 rfl) ?_
  refine mr_callSN (As := [.int x]) C0 (ctX3_isStream (I := I) (J := J) (s0 := x) ) (va_cnB (own := RX1) (index := 18) 1 C0.1.2.2.2.2 ggX1_hasEdge_X3_isStream rfl rfl rfl C0.2.2.1 (C0.1.2.2.2.2 _ (List.mem_of_getElem? (i := 3) rfl)) (by decide +kernel) (by rw [hR]; exact ⟨Nat.le_of_ble_eq_true rfl, Nat.le_of_ble_eq_true rfl⟩)) (C0.1.2.2.2.2 _ (List.mem_of_getElem? (i := 2) rfl)) hM hS rfl rfl rfl hl.1 (Nat.le_of_ble_eq_true rfl) dX1_hasEdge_1 (by rw [hR]; exact ⟨Nat.zero_le _, Nat.zero_le _⟩) (fun H locs hM hS => ?_)
  refine mr_eqB (tgt := 24) C0 dX1_hasEdge_4 (by decide) (fun c1 => ?_) (fun c1 => absurd c1 (by rw [hx0]; decide))
  refine lv_iconst (v := nI 0) hx hb dX1_hasEdge_24 (by decide) ?_
  refine mr_top (y := bI false) (by decide) ?_
  skip
  exact mr_zret (b := false) C0 hr hlk hQ hS rfl hM (Nat.le_refl _) (Nat.le_refl _) dX1_hasEdge_25
def fX1_hasEdge_z (I : hm_I) (a : Nat) (x : Int32) (y : Nat) : Bool := if fX3_isStream x = true then fX1_hasEdge_t I a x.toNatClampNeg y else false
theorem ctX1_hasEdge_z {l : Launch} {D : va_G} {T : Nat → ClassId} {L : List Nat} {A : Nat → Prop} {Sh : hm_S} {I : hm_I} {J : hm_J} {a : Nat} (hO : IsO L Sh a) {x : Int32} {y : Nat} :
    Ct l yX1_hasEdge wsX1_hasEdge { frames := 1, cells := 0, slots := 0, locals := 21 } 0 0 D T A [.ref a, .int x, .int (nI y)] (hm D T L A Sh I J) (some (.int (bI (fX1_hasEdge_z I a x y)))) (hm D T L A Sh I J) := by
  by_cases h : fX3_isStream x = true
  · obtain ⟨k, hk, rfl⟩ := isStream_nat h
    unfold fX1_hasEdge_z
    rw [if_pos h, nI_clamp (by omega)]
    exact ctX1_hasEdge_t hO hk
  · unfold fX1_hasEdge_z
    rw [if_neg h]
    exact ctX1_hasEdge_f hO (Bool.eq_false_iff.mpr h)
def fX1_findPreceded (I : hm_I) (a : Nat) : hm_I :=
  (lp 8 (fun i28 x28 => (lp 8 (fun i36 x36 => if fX3_isIn (x36 (a + 2) i36) (nI i28) = true then hm_put x36 (a + 2) i36 ((x36 (a + 2) i36) ||| (x36 (a + 2) i28)) else x36) x28)) (lp 8 (fun i2 x2 => hm_put x2 (a + 2) i2 (x2 (a + 1) i2)) I))
set_option maxHeartbeats 4000000 in
set_option maxRecDepth 100000 in
theorem ctX1_findPreceded {l : Launch} {D : va_G} {T : Nat → ClassId} {L : List Nat} {A : Nat → Prop} {Sh : hm_S} {I : hm_I} {J : hm_J} {a : Nat} (hO : IsO L Sh a) :
    Ct l yX1_findPreceded wsX1_findPreceded { frames := 1, cells := 0, slots := 0, locals := 21 } 0 0 D T A [.ref a] (hm D T L A Sh I J) none (hm D T L A Sh (fX1_findPreceded I a) J) := by
  refine Ct.ofW (cc := cX1_findPreceded) (maxL := 3) (ret := none) (by decide) rfl (Nat.le_of_ble_eq_true rfl) ?_
  intro p_ e_ s_ m_ args_ below_ meth_ c_ ls R Qq hR hQ C0 hr hlk hname hM hl
  have hx := C0.1.1
  have hb := C0.1.2.1
  have hS : va_S A s_.heap s_.heap [] := va_S.rf
  have hl : lv_has ls 3 [(0, .ref a)] := hl
  refine lv_iconst (v := nI 0) hx hb dX1_findPreceded_0 (by decide) ?_
  refine lv_istore_n (lv' := [(1, .int (nI 0)), (0, .ref a)]) hx hb dX1_findPreceded_1 rfl hl (by decide) rfl (fun ls hl => ?_)
  refine lp_loop (σ := hm_I) (fun i2 x2 => ∀ (H : Heap) (locs : List Loc) (ls : Array Slot), hm D T L A Sh x2 J H → va_S A s_.heap H locs → lv_has ls 3 [(0, .ref a), (1, .int (nI i2))] → W p_ l e_ R s_ m_ args_ below_ meth_ c_ H locs 0 0 Qq (F0 m_ 2 ls [])) 8 (fun i2 x2 => hm_put x2 (a + 2) i2 (x2 (a + 1) i2)) I (fun _ _ => True) trivial (fun _ _ _ _ => trivial) (fun i2 x2 hi1 hv2 k3 H locs ls hM hS hl => ?_) (fun hv2 H locs ls hM hS hl => ?_) _ _ _ hM hS (lv_sub hl [1, 0] rfl)
  · have stp4 : ∀ yy_ : hm_I, yy_ = (hm_put x2 (a + 2) i2 (x2 (a + 1) i2)) → ∀ (H : Heap) (locs : List Loc) (ls : Array Slot), hm D T L A Sh yy_ J H → va_S A s_.heap H locs → lv_has ls 3 [(0, .ref a), (1, .int (nI (i2 + 1)))] → W p_ l e_ R s_ m_ args_ below_ meth_ c_ H locs 0 0 Qq (F0 m_ 2 ls []) := fun yy_ ey => by rw [ey]; exact k3
    refine lv_iload_n hx hb dX1_findPreceded_2 rfl (lv_at hl 1 rfl) ?_
    refine lv_bipush (v := nI 8) hx hb dX1_findPreceded_3 (by decide) ?_
    refine mr_geN (x := i2) (y := 8) (tgt := 26) C0 dX1_findPreceded_5 (by decide) (by omega) (by omega) (fun c5 => absurd c5 (by omega)) (fun c5 => ?_)
    refine lv_aload_n hx hb dX1_findPreceded_8 rfl (lv_at hl 0 rfl) ?_
    refine mr_getr (r := a + 2) (TT := TX1) (N := 2) C0 uX1_findPreceded_X1 hM hO.1.1 hO.1.2 rfl 1 (by decide) rfl kX1_findPreceded_f15 rfl dX1_findPreceded_9 ?_
    refine lv_iload_n hx hb dX1_findPreceded_12 rfl (lv_at hl 1 rfl) ?_
    refine lv_aload_n hx hb dX1_findPreceded_13 rfl (lv_at hl 0 rfl) ?_
    refine mr_getr (r := a + 1) (TT := TX1) (N := 2) C0 uX1_findPreceded_X1 hM hO.1.1 hO.1.2 rfl 0 (by decide) rfl kX1_findPreceded_f9 rfl dX1_findPreceded_14 ?_
    refine lv_iload_n hx hb dX1_findPreceded_17 rfl (lv_at hl 1 rfl) ?_
    refine mr_ialdN (v := x2 (a + 1) i2) C0 hM hO.2.1.1 hO.2.1.2 (by decide) (by omega) rfl dX1_findPreceded_18 ?_
    refine mr_iastN C0 hM hS hO.2.2.1 hO.2.2.2 (by decide) (by omega) dX1_findPreceded_19 (fun H locs hM hS => ?_)
    refine lv_iinc (v := nI (i2 + 1)) (lv' := [(1, .int (nI (i2 + 1))), (0, .ref a)]) hx hb dX1_findPreceded_20 hl (k := 1) rfl (nI_1 _) (by decide) rfl (fun ls hl => ?_)
    refine lv_goto (tgt := 2) hx hb dX1_findPreceded_23 (by decide) ?_
    exact stp4 (hm_put x2 (a + 2) i2 (x2 (a + 1) i2)) rfl H locs ls hM hS (lv_sub hl [1, 0] rfl)
  · skip
    refine lv_iload_n hx hb dX1_findPreceded_2 rfl (lv_at hl 1 rfl) ?_
    refine lv_bipush (v := nI 8) hx hb dX1_findPreceded_3 (by decide) ?_
    refine mr_geN (x := 8) (y := 8) (tgt := 26) C0 dX1_findPreceded_5 (by decide) (by decide) (by decide) (fun _ => ?_) (fun c6 => absurd c6 (by decide))
    refine lv_iconst (v := nI 0) hx hb dX1_findPreceded_26 (by decide) ?_
    refine lv_istore_n (lv' := [(1, .int (nI 0)), (0, .ref a)]) hx hb dX1_findPreceded_27 rfl hl (by decide) rfl (fun ls hl => ?_)
    refine lp_loop (σ := hm_I) (fun i28 x28 => ∀ (H : Heap) (locs : List Loc) (ls : Array Slot), hm D T L A Sh x28 J H → va_S A s_.heap H locs → lv_has ls 3 [(0, .ref a), (1, .int (nI i28))] → W p_ l e_ R s_ m_ args_ below_ meth_ c_ H locs 0 0 Qq (F0 m_ 28 ls [])) 8 (fun i28 x28 => (lp 8 (fun i36 x36 => if fX3_isIn (x36 (a + 2) i36) (nI i28) = true then hm_put x36 (a + 2) i36 ((x36 (a + 2) i36) ||| (x36 (a + 2) i28)) else x36) x28)) (lp 8 (fun i2 x2 => hm_put x2 (a + 2) i2 (x2 (a + 1) i2)) I) (fun _ _ => True) trivial (fun _ _ _ _ => trivial) (fun i28 x28 hi7 hv8 k9 H locs ls hM hS hl => ?_) (fun hv8 H locs ls hM hS hl => ?_) _ _ _ hM hS (lv_sub hl [1, 0] rfl)
    · have stp10 : ∀ yy_ : hm_I, yy_ = ((lp 8 (fun i36 x36 => if fX3_isIn (x36 (a + 2) i36) (nI i28) = true then hm_put x36 (a + 2) i36 ((x36 (a + 2) i36) ||| (x36 (a + 2) i28)) else x36) x28)) → ∀ (H : Heap) (locs : List Loc) (ls : Array Slot), hm D T L A Sh yy_ J H → va_S A s_.heap H locs → lv_has ls 3 [(0, .ref a), (1, .int (nI (i28 + 1)))] → W p_ l e_ R s_ m_ args_ below_ meth_ c_ H locs 0 0 Qq (F0 m_ 28 ls []) := fun yy_ ey => by rw [ey]; exact k9
      refine lv_iload_n hx hb dX1_findPreceded_28 rfl (lv_at hl 1 rfl) ?_
      refine lv_bipush (v := nI 8) hx hb dX1_findPreceded_29 (by decide) ?_
      refine mr_geN (x := i28) (y := 8) (tgt := 82) C0 dX1_findPreceded_31 (by decide) (by omega) (by omega) (fun c11 => absurd c11 (by omega)) (fun c11 => ?_)
      refine lv_iconst (v := nI 0) hx hb dX1_findPreceded_34 (by decide) ?_
      refine lv_istore_n (lv' := [(2, .int (nI 0)), (0, .ref a), (1, .int (nI i28))]) hx hb dX1_findPreceded_35 rfl hl (by decide) rfl (fun ls hl => ?_)
      refine lp_loop (σ := hm_I) (fun i36 x36 => ∀ (H : Heap) (locs : List Loc) (ls : Array Slot), hm D T L A Sh x36 J H → va_S A s_.heap H locs → lv_has ls 3 [(0, .ref a), (1, .int (nI i28)), (2, .int (nI i36))] → W p_ l e_ R s_ m_ args_ below_ meth_ c_ H locs 0 0 Qq (F0 m_ 36 ls [])) 8 (fun i36 x36 => if fX3_isIn (x36 (a + 2) i36) (nI i28) = true then hm_put x36 (a + 2) i36 ((x36 (a + 2) i36) ||| (x36 (a + 2) i28)) else x36) x28 (fun _ _ => True) trivial (fun _ _ _ _ => trivial) (fun i36 x36 hi12 hv13 k14 H locs ls hM hS hl => ?_) (fun hv13 H locs ls hM hS hl => ?_) _ _ _ hM hS (lv_sub hl [1, 2, 0] rfl)
      · have stp15 : ∀ yy_ : hm_I, yy_ = (if fX3_isIn (x36 (a + 2) i36) (nI i28) = true then hm_put x36 (a + 2) i36 ((x36 (a + 2) i36) ||| (x36 (a + 2) i28)) else x36) → ∀ (H : Heap) (locs : List Loc) (ls : Array Slot), hm D T L A Sh yy_ J H → va_S A s_.heap H locs → lv_has ls 3 [(0, .ref a), (1, .int (nI i28)), (2, .int (nI (i36 + 1)))] → W p_ l e_ R s_ m_ args_ below_ meth_ c_ H locs 0 0 Qq (F0 m_ 36 ls []) := fun yy_ ey => by rw [ey]; exact k14
        refine lv_iload_n hx hb dX1_findPreceded_36 rfl (lv_at hl 2 rfl) ?_
        refine lv_bipush (v := nI 8) hx hb dX1_findPreceded_37 (by decide) ?_
        refine mr_geN (x := i36) (y := 8) (tgt := 76) C0 dX1_findPreceded_39 (by decide) (by omega) (by omega) (fun c16 => absurd c16 (by omega)) (fun c16 => ?_)
        refine lv_aload_n hx hb dX1_findPreceded_42 rfl (lv_at hl 0 rfl) ?_
        refine mr_getr (r := a + 2) (TT := TX1) (N := 2) C0 uX1_findPreceded_X1 hM hO.1.1 hO.1.2 rfl 1 (by decide) rfl kX1_findPreceded_f15 rfl dX1_findPreceded_43 ?_
        refine lv_iload_n hx hb dX1_findPreceded_46 rfl (lv_at hl 2 rfl) ?_
        refine mr_ialdN (v := x36 (a + 2) i36) C0 hM hO.2.2.1 hO.2.2.2 (by decide) (by omega) rfl dX1_findPreceded_47 ?_
        refine lv_iload_n hx hb dX1_findPreceded_48 rfl (lv_at hl 1 rfl) ?_
        refine mr_callSN (As := [.int (x36 (a + 2) i36), .int (nI i28)]) C0 (ctX3_isIn (I := x36) (J := J) (u0 := (x36 (a + 2) i36)) (s0 := (nI i28)) ) (va_cnB (own := RX1) (index := 22) 2 C0.1.2.2.2.2 ggX1_findPreceded_X3_isIn rfl rfl rfl C0.2.2.2.1 (C0.1.2.2.2.2 _ (List.mem_of_getElem? (i := 4) rfl)) (by decide +kernel) (by rw [hR]; exact ⟨Nat.le_of_ble_eq_true rfl, Nat.le_of_ble_eq_true rfl⟩)) (C0.1.2.2.2.2 _ (List.mem_of_getElem? (i := 3) rfl)) hM hS rfl rfl rfl hl.1 (Nat.le_of_ble_eq_true rfl) dX1_findPreceded_49 (by rw [hR]; exact ⟨Nat.zero_le _, Nat.zero_le _⟩) (fun H locs hM hS => ?_)
        refine mr_eqB (tgt := 70) C0 dX1_findPreceded_52 (by decide) (fun c17 => ?_) (fun c17 => ?_)
        · skip
          refine lv_iinc (v := nI (i36 + 1)) (lv' := [(2, .int (nI (i36 + 1))), (0, .ref a), (1, .int (nI i28))]) hx hb dX1_findPreceded_70 hl (k := 2) rfl (nI_1 _) (by decide) rfl (fun ls hl => ?_)
          refine lv_goto (tgt := 36) hx hb dX1_findPreceded_73 (by decide) ?_
          exact stp15 x36 (by rw [if_neg (Bool.eq_false_iff.mp c17)]) H locs ls hM hS (lv_sub hl [1, 2, 0] rfl)
        · skip
          refine lv_aload_n hx hb dX1_findPreceded_55 rfl (lv_at hl 0 rfl) ?_
          refine mr_getr (r := a + 2) (TT := TX1) (N := 2) C0 uX1_findPreceded_X1 hM hO.1.1 hO.1.2 rfl 1 (by decide) rfl kX1_findPreceded_f15 rfl dX1_findPreceded_56 ?_
          refine lv_iload_n hx hb dX1_findPreceded_59 rfl (lv_at hl 2 rfl) ?_
          refine lv_dup2_11 hx hb dX1_findPreceded_60 rfl rfl ?_
          refine mr_ialdN (v := x36 (a + 2) i36) C0 hM hO.2.2.1 hO.2.2.2 (by decide) (by omega) rfl dX1_findPreceded_61 ?_
          refine lv_aload_n hx hb dX1_findPreceded_62 rfl (lv_at hl 0 rfl) ?_
          refine mr_getr (r := a + 2) (TT := TX1) (N := 2) C0 uX1_findPreceded_X1 hM hO.1.1 hO.1.2 rfl 1 (by decide) rfl kX1_findPreceded_f15 rfl dX1_findPreceded_63 ?_
          refine lv_iload_n hx hb dX1_findPreceded_66 rfl (lv_at hl 1 rfl) ?_
          refine mr_ialdN (v := x36 (a + 2) i28) C0 hM hO.2.2.1 hO.2.2.2 (by decide) (by omega) rfl dX1_findPreceded_67 ?_
          refine lv_ior hx hb dX1_findPreceded_68 ?_
          refine mr_iastN C0 hM hS hO.2.2.1 hO.2.2.2 (by decide) (by omega) dX1_findPreceded_69 (fun H locs hM hS => ?_)
          refine lv_iinc (v := nI (i36 + 1)) (lv' := [(2, .int (nI (i36 + 1))), (0, .ref a), (1, .int (nI i28))]) hx hb dX1_findPreceded_70 hl (k := 2) rfl (nI_1 _) (by decide) rfl (fun ls hl => ?_)
          refine lv_goto (tgt := 36) hx hb dX1_findPreceded_73 (by decide) ?_
          exact stp15 (hm_put x36 (a + 2) i36 ((x36 (a + 2) i36) ||| (x36 (a + 2) i28))) (by rw [if_pos c17]) H locs ls hM hS (lv_sub hl [1, 2, 0] rfl)
      · skip
        refine lv_iload_n hx hb dX1_findPreceded_36 rfl (lv_at hl 2 rfl) ?_
        refine lv_bipush (v := nI 8) hx hb dX1_findPreceded_37 (by decide) ?_
        refine mr_geN (x := 8) (y := 8) (tgt := 76) C0 dX1_findPreceded_39 (by decide) (by decide) (by decide) (fun _ => ?_) (fun c18 => absurd c18 (by decide))
        refine lv_iinc (v := nI (i28 + 1)) (lv' := [(1, .int (nI (i28 + 1))), (0, .ref a), (2, .int (nI 8))]) hx hb dX1_findPreceded_76 hl (k := 1) rfl (nI_1 _) (by decide) rfl (fun ls hl => ?_)
        refine lv_goto (tgt := 28) hx hb dX1_findPreceded_79 (by decide) ?_
        exact stp10 (lp 8 (fun i36 x36 => if fX3_isIn (x36 (a + 2) i36) (nI i28) = true then hm_put x36 (a + 2) i36 ((x36 (a + 2) i36) ||| (x36 (a + 2) i28)) else x36) x28) rfl H locs ls hM hS (lv_sub hl [1, 0] rfl)
    · skip
      refine lv_iload_n hx hb dX1_findPreceded_28 rfl (lv_at hl 1 rfl) ?_
      refine lv_bipush (v := nI 8) hx hb dX1_findPreceded_29 (by decide) ?_
      refine mr_geN (x := 8) (y := 8) (tgt := 82) C0 dX1_findPreceded_31 (by decide) (by decide) (by decide) (fun _ => ?_) (fun c19 => absurd c19 (by decide))
      have eF : (lp 8 (fun i28 x28 => (lp 8 (fun i36 x36 => if fX3_isIn (x36 (a + 2) i36) (nI i28) = true then hm_put x36 (a + 2) i36 ((x36 (a + 2) i36) ||| (x36 (a + 2) i28)) else x36) x28)) (lp 8 (fun i2 x2 => hm_put x2 (a + 2) i2 (x2 (a + 1) i2)) I)) = fX1_findPreceded I a := rfl
      exact mr_vret C0 hr hlk hQ hS rfl (by rw [← eF]; exact hM) (Nat.le_refl _) (Nat.le_refl _) dX1_findPreceded_82
def fX1_putEdge_t (I : hm_I) (a x y : Nat) (on : Bool) : hm_I :=
  if on = true then fX1_findPreceded (hm_put I (a + 1) x ((I (a + 1) x) ||| (fX3_setOf (nI y)))) a else fX1_findPreceded (hm_put I (a + 1) x ((I (a + 1) x) &&& ((fX3_setOf (nI y)) ^^^ (-1)))) a
set_option maxHeartbeats 4000000 in
set_option maxRecDepth 100000 in
theorem ctX1_putEdge_t {l : Launch} {D : va_G} {T : Nat → ClassId} {L : List Nat} {A : Nat → Prop} {Sh : hm_S} {I : hm_I} {J : hm_J} {a : Nat} (hO : IsO L Sh a) {x y : Nat} {on : Bool} (hx0 : x < 8) (hy0 : y < 8) (hxy : x ≠ y) :
    Ct l yX1_putEdge wsX1_putEdge { frames := 2, cells := 0, slots := 0, locals := 43 } 0 0 D T A [.ref a, .int (nI x), .int (nI y), .int (bI on)] (hm D T L A Sh I J) none (hm D T L A Sh (fX1_putEdge_t I a x y on) J) := by
  refine Ct.ofW (cc := cX1_putEdge) (maxL := 4) (ret := none) (by decide) rfl (Nat.le_of_ble_eq_true rfl) ?_
  intro p_ e_ s_ m_ args_ below_ meth_ c_ ls R Qq hR hQ C0 hr hlk hname hM hl
  have hx := C0.1.1
  have hb := C0.1.2.1
  have hS : va_S A s_.heap s_.heap [] := va_S.rf
  have hl : lv_has ls 4 [(0, .ref a), (1, .int (nI x)), (2, .int (nI y)), (3, .int (bI on))] := hl
  refine lv_iload_n hx hb dX1_putEdge_0 rfl (lv_at hl 1 rfl) ?_
  refine lv_iload_n hx hb dX1_putEdge_1 rfl (lv_at hl 2 rfl) ?_
  refine mr_callSN (As := [.int (nI x), .int (nI y)]) C0 (ctX3_areTwoStreams_t (I := I) (J := J) (a0 := x) (b0 := y) (by omega) (by omega) (by omega)) (va_cnB (own := RX1) (index := 26) 2 C0.1.2.2.2.2 ggX1_putEdge_X3_areTwoStreams rfl rfl rfl C0.2.2.2.2.1 (C0.1.2.2.2.2 _ (List.mem_of_getElem? (i := 3) rfl)) (by decide +kernel) (by rw [hR]; exact ⟨Nat.le_of_ble_eq_true rfl, Nat.le_of_ble_eq_true rfl⟩)) (C0.1.2.2.2.2 _ (List.mem_of_getElem? (i := 2) rfl)) hM hS rfl rfl rfl hl.1 (Nat.le_of_ble_eq_true rfl) dX1_putEdge_2 (by rw [hR]; exact ⟨Nat.zero_le _, Nat.zero_le _⟩) (fun H locs hM hS => ?_)
  refine mr_neB (tgt := 9) C0 dX1_putEdge_5 (by decide) (fun _ => ?_) (fun c1 => absurd c1 (by decide))
  refine lv_aload_n hx hb dX1_putEdge_9 rfl (lv_at hl 0 rfl) ?_
  refine mr_getr (r := a + 1) (TT := TX1) (N := 2) C0 uX1_putEdge_X1 hM hO.1.1 hO.1.2 rfl 0 (by decide) rfl kX1_putEdge_f9 rfl dX1_putEdge_10 ?_
  refine lv_iload_n hx hb dX1_putEdge_13 rfl (lv_at hl 1 rfl) ?_
  refine lv_iload_n hx hb dX1_putEdge_14 rfl (lv_at hl 3 rfl) ?_
  refine mr_eqB (tgt := 32) C0 dX1_putEdge_15 (by decide) (fun c2 => ?_) (fun c2 => ?_)
  · skip
    refine lv_aload_n hx hb dX1_putEdge_32 rfl (lv_at hl 0 rfl) ?_
    refine mr_getr (r := a + 1) (TT := TX1) (N := 2) C0 uX1_putEdge_X1 hM hO.1.1 hO.1.2 rfl 0 (by decide) rfl kX1_putEdge_f9 rfl dX1_putEdge_33 ?_
    refine lv_iload_n hx hb dX1_putEdge_36 rfl (lv_at hl 1 rfl) ?_
    refine mr_ialdN (v := I (a + 1) x) C0 hM hO.2.1.1 hO.2.1.2 (by decide) (by omega) rfl dX1_putEdge_37 ?_
    refine lv_iload_n hx hb dX1_putEdge_38 rfl (lv_at hl 2 rfl) ?_
    refine mr_callSN (As := [.int (nI y)]) C0 (ctX3_setOf (I := I) (J := J) (s0 := (nI y)) ) (va_cnB (own := RX1) (index := 29) 1 C0.1.2.2.2.2 ggX1_putEdge_X3_setOf rfl rfl rfl C0.2.2.2.2.2.1 (C0.1.2.2.2.2 _ (List.mem_of_getElem? (i := 3) rfl)) (by decide +kernel) (by rw [hR]; exact ⟨Nat.le_of_ble_eq_true rfl, Nat.le_of_ble_eq_true rfl⟩)) (C0.1.2.2.2.2 _ (List.mem_of_getElem? (i := 8) rfl)) hM hS rfl rfl rfl hl.1 (Nat.le_of_ble_eq_true rfl) dX1_putEdge_39 (by rw [hR]; exact ⟨Nat.zero_le _, Nat.zero_le _⟩) (fun H locs hM hS => ?_)
    refine lv_iconst (v := (-1)) hx hb dX1_putEdge_42 (by decide) ?_
    refine lv_ixor hx hb dX1_putEdge_43 ?_
    refine lv_iand hx hb dX1_putEdge_44 ?_
    refine mr_iastN C0 hM hS hO.2.1.1 hO.2.1.2 (by decide) (by omega) dX1_putEdge_45 (fun H locs hM hS => ?_)
    refine lv_aload_n hx hb dX1_putEdge_46 rfl (lv_at hl 0 rfl) ?_
    refine mr_callV (As := []) C0 (ctX1_findPreceded (I := (hm_put I (a + 1) x ((I (a + 1) x) &&& ((fX3_setOf (nI y)) ^^^ (-1))))) (J := J) (a := a) hO) (cwV 0 C0.1.2.2.2.2 gX1_putEdge_X1_findPreceded rfl rfl rfl (by decide +kernel) (by rw [hR]; exact ⟨Nat.le_of_ble_eq_true rfl, Nat.le_of_ble_eq_true rfl⟩)) hM hO.1.1 hO.1.2 rfl rfl hM hS rfl rfl rfl hl.1 (Nat.le_of_ble_eq_true rfl) dX1_putEdge_47 (by rw [hR]; exact ⟨Nat.zero_le _, Nat.zero_le _⟩) (fun H locs hM hS => ?_)
    have eF : fX1_findPreceded (hm_put I (a + 1) x ((I (a + 1) x) &&& ((fX3_setOf (nI y)) ^^^ (-1)))) a = fX1_putEdge_t I a x y on := by unfold fX1_putEdge_t; rw [if_neg (Bool.eq_false_iff.mp c2)]
    exact mr_vret C0 hr hlk hQ hS rfl (by rw [← eF]; exact hM) (Nat.le_refl _) (Nat.le_refl _) dX1_putEdge_50
  · skip
    refine lv_aload_n hx hb dX1_putEdge_18 rfl (lv_at hl 0 rfl) ?_
    refine mr_getr (r := a + 1) (TT := TX1) (N := 2) C0 uX1_putEdge_X1 hM hO.1.1 hO.1.2 rfl 0 (by decide) rfl kX1_putEdge_f9 rfl dX1_putEdge_19 ?_
    refine lv_iload_n hx hb dX1_putEdge_22 rfl (lv_at hl 1 rfl) ?_
    refine mr_ialdN (v := I (a + 1) x) C0 hM hO.2.1.1 hO.2.1.2 (by decide) (by omega) rfl dX1_putEdge_23 ?_
    refine lv_iload_n hx hb dX1_putEdge_24 rfl (lv_at hl 2 rfl) ?_
    refine mr_callSN (As := [.int (nI y)]) C0 (ctX3_setOf (I := I) (J := J) (s0 := (nI y)) ) (va_cnB (own := RX1) (index := 29) 1 C0.1.2.2.2.2 ggX1_putEdge_X3_setOf rfl rfl rfl C0.2.2.2.2.2.1 (C0.1.2.2.2.2 _ (List.mem_of_getElem? (i := 3) rfl)) (by decide +kernel) (by rw [hR]; exact ⟨Nat.le_of_ble_eq_true rfl, Nat.le_of_ble_eq_true rfl⟩)) (C0.1.2.2.2.2 _ (List.mem_of_getElem? (i := 8) rfl)) hM hS rfl rfl rfl hl.1 (Nat.le_of_ble_eq_true rfl) dX1_putEdge_25 (by rw [hR]; exact ⟨Nat.zero_le _, Nat.zero_le _⟩) (fun H locs hM hS => ?_)
    refine lv_ior hx hb dX1_putEdge_28 ?_
    refine lv_goto (tgt := 45) hx hb dX1_putEdge_29 (by decide) ?_
    refine mr_iastN C0 hM hS hO.2.1.1 hO.2.1.2 (by decide) (by omega) dX1_putEdge_45 (fun H locs hM hS => ?_)
    refine lv_aload_n hx hb dX1_putEdge_46 rfl (lv_at hl 0 rfl) ?_
    refine mr_callV (As := []) C0 (ctX1_findPreceded (I := (hm_put I (a + 1) x ((I (a + 1) x) ||| (fX3_setOf (nI y))))) (J := J) (a := a) hO) (cwV 0 C0.1.2.2.2.2 gX1_putEdge_X1_findPreceded rfl rfl rfl (by decide +kernel) (by rw [hR]; exact ⟨Nat.le_of_ble_eq_true rfl, Nat.le_of_ble_eq_true rfl⟩)) hM hO.1.1 hO.1.2 rfl rfl hM hS rfl rfl rfl hl.1 (Nat.le_of_ble_eq_true rfl) dX1_putEdge_47 (by rw [hR]; exact ⟨Nat.zero_le _, Nat.zero_le _⟩) (fun H locs hM hS => ?_)
    have eF : fX1_findPreceded (hm_put I (a + 1) x ((I (a + 1) x) ||| (fX3_setOf (nI y)))) a = fX1_putEdge_t I a x y on := by unfold fX1_putEdge_t; rw [if_pos c2]
    exact mr_vret C0 hr hlk hQ hS rfl (by rw [← eF]; exact hM) (Nat.le_refl _) (Nat.le_refl _) dX1_putEdge_50
def fX1_edgeCount (I : hm_I) (a : Nat) : Int32 :=
  (lp 8 (fun i4 x4 => x4 + (fJ6_bitCount_0f7a4 (I (a + 1) i4))) (nI 0))
set_option maxHeartbeats 4000000 in
set_option maxRecDepth 100000 in
theorem ctX1_edgeCount {l : Launch} {D : va_G} {T : Nat → ClassId} {L : List Nat} {A : Nat → Prop} {Sh : hm_S} {I : hm_I} {J : hm_J} {a : Nat} (hO : IsO L Sh a) :
    Ct l yX1_edgeCount wsX1_edgeCount { frames := 1, cells := 0, slots := 0, locals := 20 } 0 0 D T A [.ref a] (hm D T L A Sh I J) (some (.int (fX1_edgeCount I a))) (hm D T L A Sh I J) := by
  refine Ct.ofW (cc := cX1_edgeCount) (maxL := 3) (ret := (some .int)) (by decide) rfl (Nat.le_of_ble_eq_true rfl) ?_
  intro p_ e_ s_ m_ args_ below_ meth_ c_ ls R Qq hR hQ C0 hr hlk hname hM hl
  have hx := C0.1.1
  have hb := C0.1.2.1
  have hS : va_S A s_.heap s_.heap [] := va_S.rf
  have hl : lv_has ls 3 [(0, .ref a)] := hl
  refine lv_iconst (v := nI 0) hx hb dX1_edgeCount_0 (by decide) ?_
  refine lv_istore_n (lv' := [(1, .int (nI 0)), (0, .ref a)]) hx hb dX1_edgeCount_1 rfl hl (by decide) rfl (fun ls hl => ?_)
  refine lv_iconst (v := nI 0) hx hb dX1_edgeCount_2 (by decide) ?_
  refine lv_istore_n (lv' := [(2, .int (nI 0)), (1, .int (nI 0)), (0, .ref a)]) hx hb dX1_edgeCount_3 rfl hl (by decide) rfl (fun ls hl => ?_)
  refine lp_loop (σ := Int32) (fun i4 x4 => ∀ (H : Heap) (locs : List Loc) (ls : Array Slot), hm D T L A Sh I J H → va_S A s_.heap H locs → lv_has ls 3 [(0, .ref a), (1, .int x4), (2, .int (nI i4))] → W p_ l e_ R s_ m_ args_ below_ meth_ c_ H locs 0 0 Qq (F0 m_ 4 ls [])) 8 (fun i4 x4 => x4 + (fJ6_bitCount_0f7a4 (I (a + 1) i4))) (nI 0) (fun _ _ => True) trivial (fun _ _ _ _ => trivial) (fun i4 x4 hi1 hv2 k3 H locs ls hM hS hl => ?_) (fun hv2 H locs ls hM hS hl => ?_) _ _ _ hM hS (lv_sub hl [2, 1, 0] rfl)
  · have stp4 : ∀ yy_ : Int32, yy_ = (x4 + (fJ6_bitCount_0f7a4 (I (a + 1) i4))) → ∀ (H : Heap) (locs : List Loc) (ls : Array Slot), hm D T L A Sh I J H → va_S A s_.heap H locs → lv_has ls 3 [(0, .ref a), (1, .int yy_), (2, .int (nI (i4 + 1)))] → W p_ l e_ R s_ m_ args_ below_ meth_ c_ H locs 0 0 Qq (F0 m_ 4 ls []) := fun yy_ ey => by rw [ey]; exact k3
    refine lv_iload_n hx hb dX1_edgeCount_4 rfl (lv_at hl 2 rfl) ?_
    refine lv_bipush (v := nI 8) hx hb dX1_edgeCount_5 (by decide) ?_
    refine mr_geN (x := i4) (y := 8) (tgt := 28) C0 dX1_edgeCount_7 (by decide) (by omega) (by omega) (fun c5 => absurd c5 (by omega)) (fun c5 => ?_)
    refine lv_iload_n hx hb dX1_edgeCount_10 rfl (lv_at hl 1 rfl) ?_
    refine lv_aload_n hx hb dX1_edgeCount_11 rfl (lv_at hl 0 rfl) ?_
    refine mr_getr (r := a + 1) (TT := TX1) (N := 2) C0 uX1_edgeCount_X1 hM hO.1.1 hO.1.2 rfl 0 (by decide) rfl kX1_edgeCount_f9 rfl dX1_edgeCount_12 ?_
    refine lv_iload_n hx hb dX1_edgeCount_15 rfl (lv_at hl 2 rfl) ?_
    refine mr_ialdN (v := I (a + 1) i4) C0 hM hO.2.1.1 hO.2.1.2 (by decide) (by omega) rfl dX1_edgeCount_16 ?_
    refine mr_callS (As := [.int (I (a + 1) i4)]) C0 (ctJ6_bitCount_0f7a4 (I := I) (J := J) (u0 := (I (a + 1) i4)) ) (va_cwS 1 C0.1.2.2.2.2 gX1_edgeCount_J6_bitCount_0f7a4 rfl rfl rfl (by decide +kernel) (by rw [hR]; exact ⟨Nat.le_of_ble_eq_true rfl, Nat.le_of_ble_eq_true rfl⟩)) hM hS rfl rfl rfl hl.1 (Nat.le_of_ble_eq_true rfl) dX1_edgeCount_17 (by rw [hR]; exact ⟨Nat.zero_le _, Nat.zero_le _⟩) (fun H locs hM hS => ?_)
    refine lv_iadd hx hb dX1_edgeCount_20 ?_
    refine lv_istore_n (lv' := [(1, .int (x4 + (fJ6_bitCount_0f7a4 (I (a + 1) i4)))), (0, .ref a), (2, .int (nI i4))]) hx hb dX1_edgeCount_21 rfl hl (by decide) rfl (fun ls hl => ?_)
    refine lv_iinc (v := nI (i4 + 1)) (lv' := [(2, .int (nI (i4 + 1))), (1, .int (x4 + (fJ6_bitCount_0f7a4 (I (a + 1) i4)))), (0, .ref a)]) hx hb dX1_edgeCount_22 hl (k := 2) rfl (nI_1 _) (by decide) rfl (fun ls hl => ?_)
    refine lv_goto (tgt := 4) hx hb dX1_edgeCount_25 (by decide) ?_
    exact stp4 (x4 + (fJ6_bitCount_0f7a4 (I (a + 1) i4))) rfl H locs ls hM hS (lv_sub hl [2, 1, 0] rfl)
  · skip
    refine lv_iload_n hx hb dX1_edgeCount_4 rfl (lv_at hl 2 rfl) ?_
    refine lv_bipush (v := nI 8) hx hb dX1_edgeCount_5 (by decide) ?_
    refine mr_geN (x := 8) (y := 8) (tgt := 28) C0 dX1_edgeCount_7 (by decide) (by decide) (by decide) (fun _ => ?_) (fun c6 => absurd c6 (by decide))
    refine lv_iload_n hx hb dX1_edgeCount_28 rfl (lv_at hl 1 rfl) ?_
    have eF : (lp 8 (fun i4 x4 => x4 + (fJ6_bitCount_0f7a4 (I (a + 1) i4))) (nI 0)) = fX1_edgeCount I a := rfl
    exact mr_iret (v := (lp 8 (fun i4 x4 => x4 + (fJ6_bitCount_0f7a4 (I (a + 1) i4))) (nI 0))) C0 hr hlk hQ hS (by rw [← eF]) hM (Nat.le_refl _) (Nat.le_refl _) dX1_edgeCount_29
def fX1_hasSameEdges (I : hm_I) (a b : Nat) : Bool :=
  lpr (fun (i2 : Nat) (x2 : Unit) => (if I (a + 1) i2 = I (b + 1) i2 then Sum.inr () else Sum.inl false : Bool ⊕ (Unit))) (fun (x2 : Unit) => (true : Bool)) 8 0 ()
set_option maxHeartbeats 4000000 in
set_option maxRecDepth 100000 in
theorem ctX1_hasSameEdges {l : Launch} {D : va_G} {T : Nat → ClassId} {L : List Nat} {A : Nat → Prop} {Sh : hm_S} {I : hm_I} {J : hm_J} {a b : Nat} (hO : IsO L Sh a) (hG : IsO L Sh b) :
    Ct l yX1_hasSameEdges wsX1_hasSameEdges { frames := 0, cells := 0, slots := 0, locals := 0 } 0 0 D T A [.ref a, .ref b] (hm D T L A Sh I J) (some (.int (bI (fX1_hasSameEdges I a b)))) (hm D T L A Sh I J) := by
  refine Ct.ofW (cc := cX1_hasSameEdges) (maxL := 3) (ret := (some .boolean)) (by decide) rfl (Nat.le_of_ble_eq_true rfl) ?_
  intro p_ e_ s_ m_ args_ below_ meth_ c_ ls R Qq hR hQ C0 hr hlk hname hM hl
  have hx := C0.1.1
  have hb := C0.1.2.1
  have hS : va_S A s_.heap s_.heap [] := va_S.rf
  have hl : lv_has ls 3 [(0, .ref a), (1, .ref b)] := hl
  refine lv_iconst (v := nI 0) hx hb dX1_hasSameEdges_0 (by decide) ?_
  refine lv_istore_n (lv' := [(2, .int (nI 0)), (0, .ref a), (1, .ref b)]) hx hb dX1_hasSameEdges_1 rfl hl (by decide) rfl (fun ls hl => ?_)
  refine lpr_loop (σ := Unit) (ρ := Bool) (fun i2 x2 => ∀ (H : Heap) (locs : List Loc) (ls : Array Slot), hm D T L A Sh I J H → va_S A s_.heap H locs → lv_has ls 3 [(0, .ref a), (1, .ref b), (2, .int (nI i2))] → W p_ l e_ R s_ m_ args_ below_ meth_ c_ H locs 0 0 Qq (F0 m_ 2 ls [])) 8 (fun (i2 : Nat) (x2 : Unit) => (if I (a + 1) i2 = I (b + 1) i2 then Sum.inr () else Sum.inl false : Bool ⊕ (Unit))) (fun (x2 : Unit) => (true : Bool)) () (fun _ _ => True) trivial (fun _ _ _ _ _ _ => trivial) (fun i2 x2 hi1 hv2 kv3 k4 H locs ls hM hS hl => ?_) (fun x2 hv2 hd H locs ls hM hS hl => ?_) _ _ _ hM hS (lv_sub hl [1, 2, 0] rfl)
  · skip
    refine lv_iload_n hx hb dX1_hasSameEdges_2 rfl (lv_at hl 2 rfl) ?_
    refine lv_bipush (v := nI 8) hx hb dX1_hasSameEdges_3 (by decide) ?_
    refine mr_geN (x := i2) (y := 8) (tgt := 31) C0 dX1_hasSameEdges_5 (by decide) (by omega) (by omega) (fun c5 => absurd c5 (by omega)) (fun c5 => ?_)
    refine lv_aload_n hx hb dX1_hasSameEdges_8 rfl (lv_at hl 0 rfl) ?_
    refine mr_getr (r := a + 1) (TT := TX1) (N := 2) C0 uX1_hasSameEdges_X1 hM hO.1.1 hO.1.2 rfl 0 (by decide) rfl kX1_hasSameEdges_f9 rfl dX1_hasSameEdges_9 ?_
    refine lv_iload_n hx hb dX1_hasSameEdges_12 rfl (lv_at hl 2 rfl) ?_
    refine mr_ialdN (v := I (a + 1) i2) C0 hM hO.2.1.1 hO.2.1.2 (by decide) (by omega) rfl dX1_hasSameEdges_13 ?_
    refine lv_aload_n hx hb dX1_hasSameEdges_14 rfl (lv_at hl 1 rfl) ?_
    refine mr_getr (r := b + 1) (TT := TX1) (N := 2) C0 uX1_hasSameEdges_X1 hM hG.1.1 hG.1.2 rfl 0 (by decide) rfl kX1_hasSameEdges_f9 rfl dX1_hasSameEdges_15 ?_
    refine lv_iload_n hx hb dX1_hasSameEdges_18 rfl (lv_at hl 2 rfl) ?_
    refine mr_ialdN (v := I (b + 1) i2) C0 hM hG.2.1.1 hG.2.1.2 (by decide) (by omega) rfl dX1_hasSameEdges_19 ?_
    refine lv_icmp_eq (tgt := 25) hx hb dX1_hasSameEdges_20 (by decide) (fun c6 => ?_) (fun c6 => ?_)
    · skip
      refine lv_iinc (v := nI (i2 + 1)) (lv' := [(2, .int (nI (i2 + 1))), (0, .ref a), (1, .ref b)]) hx hb dX1_hasSameEdges_25 hl (k := 2) rfl (nI_1 _) (by decide) rfl (fun ls hl => ?_)
      refine lv_goto (tgt := 2) hx hb dX1_hasSameEdges_28 (by decide) ?_
      exact k4 () (by rw [if_pos c6]) H locs ls hM hS (lv_sub hl [1, 2, 0] rfl)
    · skip
      refine lv_iconst (v := nI 0) hx hb dX1_hasSameEdges_23 (by decide) ?_
      have hf7 := kv3 false (by rw [if_neg c6])
      refine mr_top (y := bI false) (by decide) ?_
      have eF : false = fX1_hasSameEdges I a b := hf7
      exact mr_zret (b := false) C0 hr hlk hQ hS (by rw [← eF]) hM (Nat.le_refl _) (Nat.le_refl _) dX1_hasSameEdges_24
  · skip
    refine lv_iload_n hx hb dX1_hasSameEdges_2 rfl (lv_at hl 2 rfl) ?_
    refine lv_bipush (v := nI 8) hx hb dX1_hasSameEdges_3 (by decide) ?_
    refine mr_geN (x := 8) (y := 8) (tgt := 31) C0 dX1_hasSameEdges_5 (by decide) (by decide) (by decide) (fun _ => ?_) (fun c8 => absurd c8 (by decide))
    refine lv_iconst (v := nI 1) hx hb dX1_hasSameEdges_31 (by decide) ?_
    have hf9 := Eq.trans (a := true) rfl hd
    refine mr_top (y := bI true) (by decide) ?_
    have eF : true = fX1_hasSameEdges I a b := hf9
    exact mr_zret (b := true) C0 hr hlk hQ hS (by rw [← eF]) hM (Nat.le_refl _) (Nat.le_refl _) dX1_hasSameEdges_32
def fX1_nextOfAll (I : hm_I) (a : Nat) (u : Int32) : Int32 :=
  (lp 8 (fun i4 x4 => if fX3_isIn u (nI i4) = true then x4 ||| (I (a + 1) i4) else x4) (nI 0))
set_option maxHeartbeats 4000000 in
set_option maxRecDepth 100000 in
theorem ctX1_nextOfAll {l : Launch} {D : va_G} {T : Nat → ClassId} {L : List Nat} {A : Nat → Prop} {Sh : hm_S} {I : hm_I} {J : hm_J} {a : Nat} (hO : IsO L Sh a) {u : Int32} :
    Ct l yX1_nextOfAll wsX1_nextOfAll { frames := 1, cells := 0, slots := 0, locals := 21 } 0 0 D T A [.ref a, .int u] (hm D T L A Sh I J) (some (.int (fX1_nextOfAll I a u))) (hm D T L A Sh I J) := by
  refine Ct.ofW (cc := cX1_nextOfAll) (maxL := 4) (ret := (some .int)) (by decide) rfl (Nat.le_of_ble_eq_true rfl) ?_
  intro p_ e_ s_ m_ args_ below_ meth_ c_ ls R Qq hR hQ C0 hr hlk hname hM hl
  have hx := C0.1.1
  have hb := C0.1.2.1
  have hS : va_S A s_.heap s_.heap [] := va_S.rf
  have hl : lv_has ls 4 [(0, .ref a), (1, .int u)] := hl
  refine lv_iconst (v := nI 0) hx hb dX1_nextOfAll_0 (by decide) ?_
  refine lv_istore_n (lv' := [(2, .int (nI 0)), (0, .ref a), (1, .int u)]) hx hb dX1_nextOfAll_1 rfl hl (by decide) rfl (fun ls hl => ?_)
  refine lv_iconst (v := nI 0) hx hb dX1_nextOfAll_2 (by decide) ?_
  refine lv_istore_n (lv' := [(3, .int (nI 0)), (2, .int (nI 0)), (0, .ref a), (1, .int u)]) hx hb dX1_nextOfAll_3 rfl hl (by decide) rfl (fun ls hl => ?_)
  refine lp_loop (σ := Int32) (fun i4 x4 => ∀ (H : Heap) (locs : List Loc) (ls : Array Slot), hm D T L A Sh I J H → va_S A s_.heap H locs → lv_has ls 4 [(0, .ref a), (1, .int u), (2, .int x4), (3, .int (nI i4))] → W p_ l e_ R s_ m_ args_ below_ meth_ c_ H locs 0 0 Qq (F0 m_ 4 ls [])) 8 (fun i4 x4 => if fX3_isIn u (nI i4) = true then x4 ||| (I (a + 1) i4) else x4) (nI 0) (fun _ _ => True) trivial (fun _ _ _ _ => trivial) (fun i4 x4 hi1 hv2 k3 H locs ls hM hS hl => ?_) (fun hv2 H locs ls hM hS hl => ?_) _ _ _ hM hS (lv_sub hl [2, 3, 1, 0] rfl)
  · have stp4 : ∀ yy_ : Int32, yy_ = (if fX3_isIn u (nI i4) = true then x4 ||| (I (a + 1) i4) else x4) → ∀ (H : Heap) (locs : List Loc) (ls : Array Slot), hm D T L A Sh I J H → va_S A s_.heap H locs → lv_has ls 4 [(0, .ref a), (1, .int u), (2, .int yy_), (3, .int (nI (i4 + 1)))] → W p_ l e_ R s_ m_ args_ below_ meth_ c_ H locs 0 0 Qq (F0 m_ 4 ls []) := fun yy_ ey => by rw [ey]; exact k3
    refine lv_iload_n hx hb dX1_nextOfAll_4 rfl (lv_at hl 3 rfl) ?_
    refine lv_bipush (v := nI 8) hx hb dX1_nextOfAll_5 (by decide) ?_
    refine mr_geN (x := i4) (y := 8) (tgt := 33) C0 dX1_nextOfAll_7 (by decide) (by omega) (by omega) (fun c5 => absurd c5 (by omega)) (fun c5 => ?_)
    refine lv_iload_n hx hb dX1_nextOfAll_10 rfl (lv_at hl 1 rfl) ?_
    refine lv_iload_n hx hb dX1_nextOfAll_11 rfl (lv_at hl 3 rfl) ?_
    refine mr_callSN (As := [.int u, .int (nI i4)]) C0 (ctX3_isIn (I := I) (J := J) (u0 := u) (s0 := (nI i4)) ) (va_cnB (own := RX1) (index := 22) 2 C0.1.2.2.2.2 ggX1_nextOfAll_X3_isIn rfl rfl rfl C0.2.2.2.1 (C0.1.2.2.2.2 _ (List.mem_of_getElem? (i := 3) rfl)) (by decide +kernel) (by rw [hR]; exact ⟨Nat.le_of_ble_eq_true rfl, Nat.le_of_ble_eq_true rfl⟩)) (C0.1.2.2.2.2 _ (List.mem_of_getElem? (i := 2) rfl)) hM hS rfl rfl rfl hl.1 (Nat.le_of_ble_eq_true rfl) dX1_nextOfAll_12 (by rw [hR]; exact ⟨Nat.zero_le _, Nat.zero_le _⟩) (fun H locs hM hS => ?_)
    refine mr_eqB (tgt := 27) C0 dX1_nextOfAll_15 (by decide) (fun c6 => ?_) (fun c6 => ?_)
    · skip
      refine lv_iinc (v := nI (i4 + 1)) (lv' := [(3, .int (nI (i4 + 1))), (0, .ref a), (1, .int u), (2, .int x4)]) hx hb dX1_nextOfAll_27 hl (k := 3) rfl (nI_1 _) (by decide) rfl (fun ls hl => ?_)
      refine lv_goto (tgt := 4) hx hb dX1_nextOfAll_30 (by decide) ?_
      exact stp4 x4 (by rw [if_neg (Bool.eq_false_iff.mp c6)]) H locs ls hM hS (lv_sub hl [1, 2, 3, 0] rfl)
    · skip
      refine lv_iload_n hx hb dX1_nextOfAll_18 rfl (lv_at hl 2 rfl) ?_
      refine lv_aload_n hx hb dX1_nextOfAll_19 rfl (lv_at hl 0 rfl) ?_
      refine mr_getr (r := a + 1) (TT := TX1) (N := 2) C0 uX1_nextOfAll_X1 hM hO.1.1 hO.1.2 rfl 0 (by decide) rfl kX1_nextOfAll_f9 rfl dX1_nextOfAll_20 ?_
      refine lv_iload_n hx hb dX1_nextOfAll_23 rfl (lv_at hl 3 rfl) ?_
      refine mr_ialdN (v := I (a + 1) i4) C0 hM hO.2.1.1 hO.2.1.2 (by decide) (by omega) rfl dX1_nextOfAll_24 ?_
      refine lv_ior hx hb dX1_nextOfAll_25 ?_
      refine lv_istore_n (lv' := [(2, .int (x4 ||| (I (a + 1) i4))), (0, .ref a), (1, .int u), (3, .int (nI i4))]) hx hb dX1_nextOfAll_26 rfl hl (by decide) rfl (fun ls hl => ?_)
      refine lv_iinc (v := nI (i4 + 1)) (lv' := [(3, .int (nI (i4 + 1))), (2, .int (x4 ||| (I (a + 1) i4))), (0, .ref a), (1, .int u)]) hx hb dX1_nextOfAll_27 hl (k := 3) rfl (nI_1 _) (by decide) rfl (fun ls hl => ?_)
      refine lv_goto (tgt := 4) hx hb dX1_nextOfAll_30 (by decide) ?_
      exact stp4 (x4 ||| (I (a + 1) i4)) (by rw [if_pos c6]) H locs ls hM hS (lv_sub hl [2, 3, 1, 0] rfl)
  · skip
    refine lv_iload_n hx hb dX1_nextOfAll_4 rfl (lv_at hl 3 rfl) ?_
    refine lv_bipush (v := nI 8) hx hb dX1_nextOfAll_5 (by decide) ?_
    refine mr_geN (x := 8) (y := 8) (tgt := 33) C0 dX1_nextOfAll_7 (by decide) (by decide) (by decide) (fun _ => ?_) (fun c7 => absurd c7 (by decide))
    refine lv_iload_n hx hb dX1_nextOfAll_33 rfl (lv_at hl 2 rfl) ?_
    have eF : (lp 8 (fun i4 x4 => if fX3_isIn u (nI i4) = true then x4 ||| (I (a + 1) i4) else x4) (nI 0)) = fX1_nextOfAll I a u := rfl
    exact mr_iret (v := (lp 8 (fun i4 x4 => if fX3_isIn u (nI i4) = true then x4 ||| (I (a + 1) i4) else x4) (nI 0))) C0 hr hlk hQ hS (by rw [← eF]) hM (Nat.le_refl _) (Nat.le_refl _) dX1_nextOfAll_34
def fX1_distance (I : hm_I) (a x y : Nat) : Int32 :=
  lpr (fun (i8 : Nat) (x8 : Int32) => (if fX3_isIn x8 (nI y) = true then Sum.inl (nI i8) else Sum.inr (x8 ||| (fX1_nextOfAll I a x8)) : Int32 ⊕ (Int32))) (fun (x8 : Int32) => ((-9) : Int32)) 8 0 (fX3_setOf (nI x))
set_option maxHeartbeats 4000000 in
set_option maxRecDepth 100000 in
theorem ctX1_distance {l : Launch} {D : va_G} {T : Nat → ClassId} {L : List Nat} {A : Nat → Prop} {Sh : hm_S} {I : hm_I} {J : hm_J} {a : Nat} (hO : IsO L Sh a) {x y : Nat} :
    Ct l yX1_distance wsX1_distance { frames := 2, cells := 0, slots := 0, locals := 44 } 0 0 D T A [.ref a, .int (nI x), .int (nI y)] (hm D T L A Sh I J) (some (.int (fX1_distance I a x y))) (hm D T L A Sh I J) := by
  refine Ct.ofW (cc := cX1_distance) (maxL := 5) (ret := (some .int)) (by decide) rfl (Nat.le_of_ble_eq_true rfl) ?_
  intro p_ e_ s_ m_ args_ below_ meth_ c_ ls R Qq hR hQ C0 hr hlk hname hM hl
  have hx := C0.1.1
  have hb := C0.1.2.1
  have hS : va_S A s_.heap s_.heap [] := va_S.rf
  have hl : lv_has ls 5 [(0, .ref a), (1, .int (nI x)), (2, .int (nI y))] := hl
  refine lv_iload_n hx hb dX1_distance_0 rfl (lv_at hl 1 rfl) ?_
  refine mr_callSN (As := [.int (nI x)]) C0 (ctX3_setOf (I := I) (J := J) (s0 := (nI x)) ) (va_cnB (own := RX1) (index := 29) 1 C0.1.2.2.2.2 ggX1_distance_X3_setOf rfl rfl rfl C0.2.2.2.2.2.1 (C0.1.2.2.2.2 _ (List.mem_of_getElem? (i := 2) rfl)) (by decide +kernel) (by rw [hR]; exact ⟨Nat.le_of_ble_eq_true rfl, Nat.le_of_ble_eq_true rfl⟩)) (C0.1.2.2.2.2 _ (List.mem_of_getElem? (i := 1) rfl)) hM hS rfl rfl rfl hl.1 (Nat.le_of_ble_eq_true rfl) dX1_distance_1 (by rw [hR]; exact ⟨Nat.zero_le _, Nat.zero_le _⟩) (fun H locs hM hS => ?_)
  refine lv_istore_n (lv' := [(3, .int (fX3_setOf (nI x))), (0, .ref a), (1, .int (nI x)), (2, .int (nI y))]) hx hb dX1_distance_4 rfl hl (by decide) rfl (fun ls hl => ?_)
  refine lv_iconst (v := nI 0) hx hb dX1_distance_5 (by decide) ?_
  refine lv_istore (lv' := [(4, .int (nI 0)), (3, .int (fX3_setOf (nI x))), (0, .ref a), (1, .int (nI x)), (2, .int (nI y))]) hx hb dX1_distance_6 hl (by decide) rfl (fun ls hl => ?_)
  refine lpr_loop (σ := Int32) (ρ := Int32) (fun i8 x8 => ∀ (H : Heap) (locs : List Loc) (ls : Array Slot), hm D T L A Sh I J H → va_S A s_.heap H locs → lv_has ls 5 [(0, .ref a), (2, .int (nI y)), (3, .int x8), (4, .int (nI i8))] → W p_ l e_ R s_ m_ args_ below_ meth_ c_ H locs 0 0 Qq (F0 m_ 8 ls [])) 8 (fun (i8 : Nat) (x8 : Int32) => (if fX3_isIn x8 (nI y) = true then Sum.inl (nI i8) else Sum.inr (x8 ||| (fX1_nextOfAll I a x8)) : Int32 ⊕ (Int32))) (fun (x8 : Int32) => ((-9) : Int32)) (fX3_setOf (nI x)) (fun _ _ => True) trivial (fun _ _ _ _ _ _ => trivial) (fun i8 x8 hi1 hv2 kv3 k4 H locs ls hM hS hl => ?_) (fun x8 hv2 hd H locs ls hM hS hl => ?_) _ _ _ hM hS (lv_sub hl [2, 4, 1, 0] rfl)
  · skip
    refine lv_iload hx hb dX1_distance_8 (lv_at hl 3 rfl) ?_
    refine lv_bipush (v := nI 8) hx hb dX1_distance_10 (by decide) ?_
    refine mr_geN (x := i8) (y := 8) (tgt := 40) C0 dX1_distance_12 (by decide) (by omega) (by omega) (fun c5 => absurd c5 (by omega)) (fun c5 => ?_)
    refine lv_iload_n hx hb dX1_distance_15 rfl (lv_at hl 2 rfl) ?_
    refine lv_iload_n hx hb dX1_distance_16 rfl (lv_at hl 1 rfl) ?_
    refine mr_callSN (As := [.int x8, .int (nI y)]) C0 (ctX3_isIn (I := I) (J := J) (u0 := x8) (s0 := (nI y)) ) (va_cnB (own := RX1) (index := 22) 2 C0.1.2.2.2.2 ggX1_distance_X3_isIn rfl rfl rfl C0.2.2.2.1 (C0.1.2.2.2.2 _ (List.mem_of_getElem? (i := 2) rfl)) (by decide +kernel) (by rw [hR]; exact ⟨Nat.le_of_ble_eq_true rfl, Nat.le_of_ble_eq_true rfl⟩)) (C0.1.2.2.2.2 _ (List.mem_of_getElem? (i := 4) rfl)) hM hS rfl rfl rfl hl.1 (Nat.le_of_ble_eq_true rfl) dX1_distance_17 (by rw [hR]; exact ⟨Nat.zero_le _, Nat.zero_le _⟩) (fun H locs hM hS => ?_)
    refine mr_eqB (tgt := 26) C0 dX1_distance_20 (by decide) (fun c6 => ?_) (fun c6 => ?_)
    · skip
      refine lv_iload_n hx hb dX1_distance_26 rfl (lv_at hl 2 rfl) ?_
      refine lv_aload_n hx hb dX1_distance_27 rfl (lv_at hl 0 rfl) ?_
      refine lv_iload_n hx hb dX1_distance_28 rfl (lv_at hl 2 rfl) ?_
      refine mr_callV (As := [.int x8]) C0 (ctX1_nextOfAll (I := I) (J := J) (a := a) (u := x8) hO) (cwV 1 C0.1.2.2.2.2 gX1_distance_X1_nextOfAll rfl rfl rfl (by decide +kernel) (by rw [hR]; exact ⟨Nat.le_of_ble_eq_true rfl, Nat.le_of_ble_eq_true rfl⟩)) hM hO.1.1 hO.1.2 rfl rfl hM hS rfl rfl rfl hl.1 (Nat.le_of_ble_eq_true rfl) dX1_distance_29 (by rw [hR]; exact ⟨Nat.zero_le _, Nat.zero_le _⟩) (fun H locs hM hS => ?_)
      refine lv_ior hx hb dX1_distance_32 ?_
      refine lv_istore_n (lv' := [(3, .int (x8 ||| (fX1_nextOfAll I a x8))), (0, .ref a), (2, .int (nI y)), (4, .int (nI i8))]) hx hb dX1_distance_33 rfl hl (by decide) rfl (fun ls hl => ?_)
      refine lv_iinc (v := nI (i8 + 1)) (lv' := [(4, .int (nI (i8 + 1))), (3, .int (x8 ||| (fX1_nextOfAll I a x8))), (0, .ref a), (2, .int (nI y))]) hx hb dX1_distance_34 hl (k := 3) rfl (nI_1 _) (by decide) rfl (fun ls hl => ?_)
      refine lv_goto (tgt := 8) hx hb dX1_distance_37 (by decide) ?_
      exact k4 (x8 ||| (fX1_nextOfAll I a x8)) (by rw [if_neg (Bool.eq_false_iff.mp c6)]) H locs ls hM hS (lv_sub hl [2, 3, 1, 0] rfl)
    · skip
      refine lv_iload hx hb dX1_distance_23 (lv_at hl 3 rfl) ?_
      have hf7 := kv3 (nI i8) (by rw [if_pos c6])
      have eF : nI i8 = fX1_distance I a x y := hf7
      exact mr_iret (v := nI i8) C0 hr hlk hQ hS (by rw [← eF]) hM (Nat.le_refl _) (Nat.le_refl _) dX1_distance_25
  · skip
    refine lv_iload hx hb dX1_distance_8 (lv_at hl 3 rfl) ?_
    refine lv_bipush (v := nI 8) hx hb dX1_distance_10 (by decide) ?_
    refine mr_geN (x := 8) (y := 8) (tgt := 40) C0 dX1_distance_12 (by decide) (by decide) (by decide) (fun _ => ?_) (fun c8 => absurd c8 (by decide))
    refine lv_bipush (v := (-9)) hx hb dX1_distance_40 (by decide) ?_
    have hf9 := Eq.trans (a := (-9)) rfl hd
    have eF : (-9) = fX1_distance I a x y := hf9
    exact mr_iret (v := (-9)) C0 hr hlk hQ hS (by rw [← eF]) hM (Nat.le_refl _) (Nat.le_refl _) dX1_distance_42
def fX1_lowestNextAt (I : hm_I) (a : Nat) (s0 : Int32) (y : Nat) (k : Int32) : Int32 :=
  lpr (fun (i3 : Nat) (x3 : Unit) => (if fX1_hasEdge_z I a s0 i3 = true then if fX1_distance I a i3 y = k then Sum.inl (nI i3) else Sum.inr () else Sum.inr () : Int32 ⊕ (Unit))) (fun (x3 : Unit) => ((-9) : Int32)) 8 0 ()
set_option maxHeartbeats 4000000 in
set_option maxRecDepth 100000 in
theorem ctX1_lowestNextAt {l : Launch} {D : va_G} {T : Nat → ClassId} {L : List Nat} {A : Nat → Prop} {Sh : hm_S} {I : hm_I} {J : hm_J} {a : Nat} (hO : IsO L Sh a) {s0 k : Int32} {y : Nat} :
    Ct l yX1_lowestNextAt wsX1_lowestNextAt { frames := 3, cells := 0, slots := 0, locals := 68 } 0 0 D T A [.ref a, .int s0, .int (nI y), .int k] (hm D T L A Sh I J) (some (.int (fX1_lowestNextAt I a s0 y k))) (hm D T L A Sh I J) := by
  refine Ct.ofW (cc := cX1_lowestNextAt) (maxL := 5) (ret := (some .int)) (by decide) rfl (Nat.le_of_ble_eq_true rfl) ?_
  intro p_ e_ s_ m_ args_ below_ meth_ c_ ls R Qq hR hQ C0 hr hlk hname hM hl
  have hx := C0.1.1
  have hb := C0.1.2.1
  have hS : va_S A s_.heap s_.heap [] := va_S.rf
  have hl : lv_has ls 5 [(0, .ref a), (1, .int s0), (2, .int (nI y)), (3, .int k)] := hl
  refine lv_iconst (v := nI 0) hx hb dX1_lowestNextAt_0 (by decide) ?_
  refine lv_istore (lv' := [(4, .int (nI 0)), (0, .ref a), (1, .int s0), (2, .int (nI y)), (3, .int k)]) hx hb dX1_lowestNextAt_1 hl (by decide) rfl (fun ls hl => ?_)
  refine lpr_loop (σ := Unit) (ρ := Int32) (fun i3 x3 => ∀ (H : Heap) (locs : List Loc) (ls : Array Slot), hm D T L A Sh I J H → va_S A s_.heap H locs → lv_has ls 5 [(0, .ref a), (1, .int s0), (2, .int (nI y)), (3, .int k), (4, .int (nI i3))] → W p_ l e_ R s_ m_ args_ below_ meth_ c_ H locs 0 0 Qq (F0 m_ 3 ls [])) 8 (fun (i3 : Nat) (x3 : Unit) => (if fX1_hasEdge_z I a s0 i3 = true then if fX1_distance I a i3 y = k then Sum.inl (nI i3) else Sum.inr () else Sum.inr () : Int32 ⊕ (Unit))) (fun (x3 : Unit) => ((-9) : Int32)) () (fun _ _ => True) trivial (fun _ _ _ _ _ _ => trivial) (fun i3 x3 hi1 hv2 kv3 k4 H locs ls hM hS hl => ?_) (fun x3 hv2 hd H locs ls hM hS hl => ?_) _ _ _ hM hS (lv_sub hl [1, 2, 3, 4, 0] rfl)
  · skip
    refine lv_iload hx hb dX1_lowestNextAt_3 (lv_at hl 4 rfl) ?_
    refine lv_bipush (v := nI 8) hx hb dX1_lowestNextAt_5 (by decide) ?_
    refine mr_geN (x := i3) (y := 8) (tgt := 40) C0 dX1_lowestNextAt_7 (by decide) (by omega) (by omega) (fun c5 => absurd c5 (by omega)) (fun c5 => ?_)
    refine lv_aload_n hx hb dX1_lowestNextAt_10 rfl (lv_at hl 0 rfl) ?_
    refine lv_iload_n hx hb dX1_lowestNextAt_11 rfl (lv_at hl 1 rfl) ?_
    refine lv_iload hx hb dX1_lowestNextAt_12 (lv_at hl 4 rfl) ?_
    refine mr_callV (As := [.int s0, .int (nI i3)]) C0 (ctX1_hasEdge_z (I := I) (J := J) (a := a) (x := s0) (y := i3) hO) (cwV 2 C0.1.2.2.2.2 gX1_lowestNextAt_X1_hasEdge rfl rfl rfl (by decide +kernel) (by rw [hR]; exact ⟨Nat.le_of_ble_eq_true rfl, Nat.le_of_ble_eq_true rfl⟩)) hM hO.1.1 hO.1.2 rfl rfl hM hS rfl rfl rfl hl.1 (Nat.le_of_ble_eq_true rfl) dX1_lowestNextAt_14 (by rw [hR]; exact ⟨Nat.zero_le _, Nat.zero_le _⟩) (fun H locs hM hS => ?_)
    refine mr_eqB (tgt := 34) C0 dX1_lowestNextAt_17 (by decide) (fun c6 => ?_) (fun c6 => ?_)
    · skip
      refine lv_iinc (v := nI (i3 + 1)) (lv' := [(4, .int (nI (i3 + 1))), (0, .ref a), (1, .int s0), (2, .int (nI y)), (3, .int k)]) hx hb dX1_lowestNextAt_34 hl (k := 4) rfl (nI_1 _) (by decide) rfl (fun ls hl => ?_)
      refine lv_goto (tgt := 3) hx hb dX1_lowestNextAt_37 (by decide) ?_
      exact k4 () (by rw [if_neg (Bool.eq_false_iff.mp c6)]) H locs ls hM hS (lv_sub hl [1, 2, 3, 4, 0] rfl)
    · skip
      refine lv_aload_n hx hb dX1_lowestNextAt_20 rfl (lv_at hl 0 rfl) ?_
      refine lv_iload hx hb dX1_lowestNextAt_21 (lv_at hl 4 rfl) ?_
      refine lv_iload_n hx hb dX1_lowestNextAt_23 rfl (lv_at hl 2 rfl) ?_
      refine mr_callV (As := [.int (nI i3), .int (nI y)]) C0 (ctX1_distance (I := I) (J := J) (a := a) (x := i3) (y := y) hO) (cwV 2 C0.1.2.2.2.2 gX1_lowestNextAt_X1_distance rfl rfl rfl (by decide +kernel) (by rw [hR]; exact ⟨Nat.le_of_ble_eq_true rfl, Nat.le_of_ble_eq_true rfl⟩)) hM hO.1.1 hO.1.2 rfl rfl hM hS rfl rfl rfl hl.1 (Nat.le_of_ble_eq_true rfl) dX1_lowestNextAt_24 (by rw [hR]; exact ⟨Nat.zero_le _, Nat.zero_le _⟩) (fun H locs hM hS => ?_)
      refine lv_iload_n hx hb dX1_lowestNextAt_27 rfl (lv_at hl 3 rfl) ?_
      refine lv_icmp_ne (tgt := 34) hx hb dX1_lowestNextAt_28 (by decide) (fun c7 => ?_) (fun c7 => ?_)
      · skip
        refine lv_iinc (v := nI (i3 + 1)) (lv' := [(4, .int (nI (i3 + 1))), (0, .ref a), (1, .int s0), (2, .int (nI y)), (3, .int k)]) hx hb dX1_lowestNextAt_34 hl (k := 4) rfl (nI_1 _) (by decide) rfl (fun ls hl => ?_)
        refine lv_goto (tgt := 3) hx hb dX1_lowestNextAt_37 (by decide) ?_
        exact k4 () (by rw [if_pos c6, if_neg c7]) H locs ls hM hS (lv_sub hl [1, 2, 3, 4, 0] rfl)
      · skip
        refine lv_iload hx hb dX1_lowestNextAt_31 (lv_at hl 4 rfl) ?_
        have hf8 := kv3 (nI i3) (by rw [if_pos c6, if_pos c7])
        have eF : nI i3 = fX1_lowestNextAt I a s0 y k := hf8
        exact mr_iret (v := nI i3) C0 hr hlk hQ hS (by rw [← eF]) hM (Nat.le_refl _) (Nat.le_refl _) dX1_lowestNextAt_33
  · skip
    refine lv_iload hx hb dX1_lowestNextAt_3 (lv_at hl 4 rfl) ?_
    refine lv_bipush (v := nI 8) hx hb dX1_lowestNextAt_5 (by decide) ?_
    refine mr_geN (x := 8) (y := 8) (tgt := 40) C0 dX1_lowestNextAt_7 (by decide) (by decide) (by decide) (fun _ => ?_) (fun c9 => absurd c9 (by decide))
    refine lv_bipush (v := (-9)) hx hb dX1_lowestNextAt_40 (by decide) ?_
    have hf10 := Eq.trans (a := (-9)) rfl hd
    have eF : (-9) = fX1_lowestNextAt I a s0 y k := hf10
    exact mr_iret (v := (-9)) C0 hr hlk hQ hS (by rw [← eF]) hM (Nat.le_refl _) (Nat.le_refl _) dX1_lowestNextAt_42
def fX1_streamOfWalk (I : hm_I) (a x y k : Nat) : Int32 :=
  (lp k (fun i14 x14 => (fX1_lowestNextAt I a x14.1 y (x14.2 + (-1)), x14.2 + (-1))) ((nI x), (fX1_distance I a x y))).1
set_option maxHeartbeats 4000000 in
set_option maxRecDepth 100000 in
theorem ctX1_streamOfWalk {l : Launch} {D : va_G} {T : Nat → ClassId} {L : List Nat} {A : Nat → Prop} {Sh : hm_S} {I : hm_I} {J : hm_J} {a : Nat} (hO : IsO L Sh a) {x y k : Nat} (hk : k < 8) :
    Ct l yX1_streamOfWalk wsX1_streamOfWalk { frames := 4, cells := 0, slots := 0, locals := 92 } 0 0 D T A [.ref a, .int (nI x), .int (nI y), .int (nI k)] (hm D T L A Sh I J) (some (.int (fX1_streamOfWalk I a x y k))) (hm D T L A Sh I J) := by
  refine Ct.ofW (cc := cX1_streamOfWalk) (maxL := 7) (ret := (some .int)) (by decide) rfl (Nat.le_of_ble_eq_true rfl) ?_
  intro p_ e_ s_ m_ args_ below_ meth_ c_ ls R Qq hR hQ C0 hr hlk hname hM hl
  have hx := C0.1.1
  have hb := C0.1.2.1
  have hS : va_S A s_.heap s_.heap [] := va_S.rf
  have hl : lv_has ls 7 [(0, .ref a), (1, .int (nI x)), (2, .int (nI y)), (3, .int (nI k))] := hl
  refine lv_iload_n hx hb dX1_streamOfWalk_0 rfl (lv_at hl 1 rfl) ?_
  refine lv_istore (lv' := [(4, .int (nI x)), (0, .ref a), (1, .int (nI x)), (2, .int (nI y)), (3, .int (nI k))]) hx hb dX1_streamOfWalk_1 hl (by decide) rfl (fun ls hl => ?_)
  refine lv_aload_n hx hb dX1_streamOfWalk_3 rfl (lv_at hl 1 rfl) ?_
  refine lv_iload_n hx hb dX1_streamOfWalk_4 rfl (lv_at hl 2 rfl) ?_
  refine lv_iload_n hx hb dX1_streamOfWalk_5 rfl (lv_at hl 3 rfl) ?_
  refine mr_callV (As := [.int (nI x), .int (nI y)]) C0 (ctX1_distance (I := I) (J := J) (a := a) (x := x) (y := y) hO) (cwV 2 C0.1.2.2.2.2 gX1_streamOfWalk_X1_distance rfl rfl rfl (by decide +kernel) (by rw [hR]; exact ⟨Nat.le_of_ble_eq_true rfl, Nat.le_of_ble_eq_true rfl⟩)) hM hO.1.1 hO.1.2 rfl rfl hM hS rfl rfl rfl hl.1 (Nat.le_of_ble_eq_true rfl) dX1_streamOfWalk_6 (by rw [hR]; exact ⟨Nat.zero_le _, Nat.zero_le _⟩) (fun H locs hM hS => ?_)
  refine lv_istore (lv' := [(5, .int (fX1_distance I a x y)), (4, .int (nI x)), (0, .ref a), (1, .int (nI x)), (2, .int (nI y)), (3, .int (nI k))]) hx hb dX1_streamOfWalk_9 hl (by decide) rfl (fun ls hl => ?_)
  refine lv_iconst (v := nI 0) hx hb dX1_streamOfWalk_11 (by decide) ?_
  refine lv_istore (lv' := [(6, .int (nI 0)), (5, .int (fX1_distance I a x y)), (4, .int (nI x)), (0, .ref a), (1, .int (nI x)), (2, .int (nI y)), (3, .int (nI k))]) hx hb dX1_streamOfWalk_12 hl (by decide) rfl (fun ls hl => ?_)
  refine lp_loop (σ := Int32 × Int32) (fun i14 x14 => ∀ (H : Heap) (locs : List Loc) (ls : Array Slot), hm D T L A Sh I J H → va_S A s_.heap H locs → lv_has ls 7 [(0, .ref a), (2, .int (nI y)), (3, .int (nI k)), (4, .int x14.1), (5, .int x14.2), (6, .int (nI i14))] → W p_ l e_ R s_ m_ args_ below_ meth_ c_ H locs 0 0 Qq (F0 m_ 14 ls [])) k (fun i14 x14 => (fX1_lowestNextAt I a x14.1 y (x14.2 + (-1)), x14.2 + (-1))) ((nI x), (fX1_distance I a x y)) (fun _ _ => True) trivial (fun _ _ _ _ => trivial) (fun i14 x14 hi1 hv2 k3 H locs ls hM hS hl => ?_) (fun hv2 H locs ls hM hS hl => ?_) _ _ _ hM hS (lv_sub hl [3, 5, 6, 2, 1, 0] rfl)
  · have stp4 : ∀ yy_ : Int32 × Int32, yy_ = ((fX1_lowestNextAt I a x14.1 y (x14.2 + (-1)), x14.2 + (-1))) → ∀ (H : Heap) (locs : List Loc) (ls : Array Slot), hm D T L A Sh I J H → va_S A s_.heap H locs → lv_has ls 7 [(0, .ref a), (2, .int (nI y)), (3, .int (nI k)), (4, .int yy_.1), (5, .int yy_.2), (6, .int (nI (i14 + 1)))] → W p_ l e_ R s_ m_ args_ below_ meth_ c_ H locs 0 0 Qq (F0 m_ 14 ls []) := fun yy_ ey => by rw [ey]; exact k3
    refine lv_iload hx hb dX1_streamOfWalk_14 (lv_at hl 5 rfl) ?_
    refine lv_iload_n hx hb dX1_streamOfWalk_16 rfl (lv_at hl 2 rfl) ?_
    refine mr_geN (x := i14) (y := k) (tgt := 47) C0 dX1_streamOfWalk_17 (by decide) (by omega) (by omega) (fun c5 => absurd c5 (by omega)) (fun c5 => ?_)
    refine lv_iload hx hb dX1_streamOfWalk_20 (lv_at hl 5 rfl) ?_
    refine lv_bipush (v := nI 8) hx hb dX1_streamOfWalk_22 (by decide) ?_
    refine mr_geN (x := i14) (y := 8) (tgt := 47) C0 dX1_streamOfWalk_24 (by decide) (by omega) (by omega) (fun c6 => absurd c6 (by omega)) (fun c6 => ?_)
    refine lv_iinc (v := x14.2 + (-1)) (lv' := [(5, .int (x14.2 + (-1))), (0, .ref a), (2, .int (nI y)), (3, .int (nI k)), (4, .int x14.1), (6, .int (nI i14))]) hx hb dX1_streamOfWalk_27 hl (k := 4) rfl rfl (by decide) rfl (fun ls hl => ?_)
    refine lv_aload_n hx hb dX1_streamOfWalk_30 rfl (lv_at hl 1 rfl) ?_
    refine lv_iload hx hb dX1_streamOfWalk_31 (lv_at hl 4 rfl) ?_
    refine lv_iload_n hx hb dX1_streamOfWalk_33 rfl (lv_at hl 2 rfl) ?_
    refine lv_iload hx hb dX1_streamOfWalk_34 (lv_at hl 0 rfl) ?_
    refine mr_callV (As := [.int x14.1, .int (nI y), .int (x14.2 + (-1))]) C0 (ctX1_lowestNextAt (I := I) (J := J) (a := a) (s0 := x14.1) (y := y) (k := (x14.2 + (-1))) hO) (cwV 3 C0.1.2.2.2.2 gX1_streamOfWalk_X1_lowestNextAt rfl rfl rfl (by decide +kernel) (by rw [hR]; exact ⟨Nat.le_of_ble_eq_true rfl, Nat.le_of_ble_eq_true rfl⟩)) hM hO.1.1 hO.1.2 rfl rfl hM hS rfl rfl rfl hl.1 (Nat.le_of_ble_eq_true rfl) dX1_streamOfWalk_36 (by rw [hR]; exact ⟨Nat.zero_le _, Nat.zero_le _⟩) (fun H locs hM hS => ?_)
    refine lv_istore (lv' := [(4, .int (fX1_lowestNextAt I a x14.1 y (x14.2 + (-1)))), (5, .int (x14.2 + (-1))), (0, .ref a), (2, .int (nI y)), (3, .int (nI k)), (6, .int (nI i14))]) hx hb dX1_streamOfWalk_39 hl (by decide) rfl (fun ls hl => ?_)
    refine lv_iinc (v := nI (i14 + 1)) (lv' := [(6, .int (nI (i14 + 1))), (4, .int (fX1_lowestNextAt I a x14.1 y (x14.2 + (-1)))), (5, .int (x14.2 + (-1))), (0, .ref a), (2, .int (nI y)), (3, .int (nI k))]) hx hb dX1_streamOfWalk_41 hl (k := 5) rfl (nI_1 _) (by decide) rfl (fun ls hl => ?_)
    refine lv_goto (tgt := 14) hx hb dX1_streamOfWalk_44 (by decide) ?_
    exact stp4 (fX1_lowestNextAt I a x14.1 y (x14.2 + (-1)), x14.2 + (-1)) rfl H locs ls hM hS (lv_sub hl [3, 4, 5, 1, 2, 0] rfl)
  · skip
    refine lv_iload hx hb dX1_streamOfWalk_14 (lv_at hl 5 rfl) ?_
    refine lv_iload_n hx hb dX1_streamOfWalk_16 rfl (lv_at hl 2 rfl) ?_
    refine mr_geN (x := k) (y := k) (tgt := 47) C0 dX1_streamOfWalk_17 (by decide) (by omega) (by omega) (fun c7 => ?_) (fun c7 => absurd c7 (by omega))
    refine lv_iload hx hb dX1_streamOfWalk_47 (lv_at hl 3 rfl) ?_
    have eF : (lp k (fun i14 x14 => (fX1_lowestNextAt I a x14.1 y (x14.2 + (-1)), x14.2 + (-1))) ((nI x), (fX1_distance I a x y))).1 = fX1_streamOfWalk I a x y k := rfl
    exact mr_iret (v := (lp k (fun i14 x14 => (fX1_lowestNextAt I a x14.1 y (x14.2 + (-1)), x14.2 + (-1))) ((nI x), (fX1_distance I a x y))).1) C0 hr hlk hQ hS (by rw [← eF]) hM (Nat.le_refl _) (Nat.le_refl _) dX1_streamOfWalk_49
def fX1_pairsAmong (I : hm_I) (a : Nat) (u : Int32) : Int32 :=
  (lp 8 (fun i4 x4 => if fX3_isIn u (nI i4) = true then x4 + (fJ6_bitCount_0f7a4 ((I (a + 2) i4) &&& u)) else x4) (nI 0))
set_option maxHeartbeats 4000000 in
set_option maxRecDepth 100000 in
theorem ctX1_pairsAmong {l : Launch} {D : va_G} {T : Nat → ClassId} {L : List Nat} {A : Nat → Prop} {Sh : hm_S} {I : hm_I} {J : hm_J} {a : Nat} (hO : IsO L Sh a) {u : Int32} :
    Ct l yX1_pairsAmong wsX1_pairsAmong { frames := 1, cells := 0, slots := 0, locals := 21 } 0 0 D T A [.ref a, .int u] (hm D T L A Sh I J) (some (.int (fX1_pairsAmong I a u))) (hm D T L A Sh I J) := by
  refine Ct.ofW (cc := cX1_pairsAmong) (maxL := 4) (ret := (some .int)) (by decide) rfl (Nat.le_of_ble_eq_true rfl) ?_
  intro p_ e_ s_ m_ args_ below_ meth_ c_ ls R Qq hR hQ C0 hr hlk hname hM hl
  have hx := C0.1.1
  have hb := C0.1.2.1
  have hS : va_S A s_.heap s_.heap [] := va_S.rf
  have hl : lv_has ls 4 [(0, .ref a), (1, .int u)] := hl
  refine lv_iconst (v := nI 0) hx hb dX1_pairsAmong_0 (by decide) ?_
  refine lv_istore_n (lv' := [(2, .int (nI 0)), (0, .ref a), (1, .int u)]) hx hb dX1_pairsAmong_1 rfl hl (by decide) rfl (fun ls hl => ?_)
  refine lv_iconst (v := nI 0) hx hb dX1_pairsAmong_2 (by decide) ?_
  refine lv_istore_n (lv' := [(3, .int (nI 0)), (2, .int (nI 0)), (0, .ref a), (1, .int u)]) hx hb dX1_pairsAmong_3 rfl hl (by decide) rfl (fun ls hl => ?_)
  refine lp_loop (σ := Int32) (fun i4 x4 => ∀ (H : Heap) (locs : List Loc) (ls : Array Slot), hm D T L A Sh I J H → va_S A s_.heap H locs → lv_has ls 4 [(0, .ref a), (1, .int u), (2, .int x4), (3, .int (nI i4))] → W p_ l e_ R s_ m_ args_ below_ meth_ c_ H locs 0 0 Qq (F0 m_ 4 ls [])) 8 (fun i4 x4 => if fX3_isIn u (nI i4) = true then x4 + (fJ6_bitCount_0f7a4 ((I (a + 2) i4) &&& u)) else x4) (nI 0) (fun _ _ => True) trivial (fun _ _ _ _ => trivial) (fun i4 x4 hi1 hv2 k3 H locs ls hM hS hl => ?_) (fun hv2 H locs ls hM hS hl => ?_) _ _ _ hM hS (lv_sub hl [2, 3, 1, 0] rfl)
  · have stp4 : ∀ yy_ : Int32, yy_ = (if fX3_isIn u (nI i4) = true then x4 + (fJ6_bitCount_0f7a4 ((I (a + 2) i4) &&& u)) else x4) → ∀ (H : Heap) (locs : List Loc) (ls : Array Slot), hm D T L A Sh I J H → va_S A s_.heap H locs → lv_has ls 4 [(0, .ref a), (1, .int u), (2, .int yy_), (3, .int (nI (i4 + 1)))] → W p_ l e_ R s_ m_ args_ below_ meth_ c_ H locs 0 0 Qq (F0 m_ 4 ls []) := fun yy_ ey => by rw [ey]; exact k3
    refine lv_iload_n hx hb dX1_pairsAmong_4 rfl (lv_at hl 3 rfl) ?_
    refine lv_bipush (v := nI 8) hx hb dX1_pairsAmong_5 (by decide) ?_
    refine mr_geN (x := i4) (y := 8) (tgt := 38) C0 dX1_pairsAmong_7 (by decide) (by omega) (by omega) (fun c5 => absurd c5 (by omega)) (fun c5 => ?_)
    refine lv_iload_n hx hb dX1_pairsAmong_10 rfl (lv_at hl 1 rfl) ?_
    refine lv_iload_n hx hb dX1_pairsAmong_11 rfl (lv_at hl 3 rfl) ?_
    refine mr_callSN (As := [.int u, .int (nI i4)]) C0 (ctX3_isIn (I := I) (J := J) (u0 := u) (s0 := (nI i4)) ) (va_cnB (own := RX1) (index := 22) 2 C0.1.2.2.2.2 ggX1_pairsAmong_X3_isIn rfl rfl rfl C0.2.2.2.1 (C0.1.2.2.2.2 _ (List.mem_of_getElem? (i := 3) rfl)) (by decide +kernel) (by rw [hR]; exact ⟨Nat.le_of_ble_eq_true rfl, Nat.le_of_ble_eq_true rfl⟩)) (C0.1.2.2.2.2 _ (List.mem_of_getElem? (i := 2) rfl)) hM hS rfl rfl rfl hl.1 (Nat.le_of_ble_eq_true rfl) dX1_pairsAmong_12 (by rw [hR]; exact ⟨Nat.zero_le _, Nat.zero_le _⟩) (fun H locs hM hS => ?_)
    refine mr_eqB (tgt := 32) C0 dX1_pairsAmong_15 (by decide) (fun c6 => ?_) (fun c6 => ?_)
    · skip
      refine lv_iinc (v := nI (i4 + 1)) (lv' := [(3, .int (nI (i4 + 1))), (0, .ref a), (1, .int u), (2, .int x4)]) hx hb dX1_pairsAmong_32 hl (k := 3) rfl (nI_1 _) (by decide) rfl (fun ls hl => ?_)
      refine lv_goto (tgt := 4) hx hb dX1_pairsAmong_35 (by decide) ?_
      exact stp4 x4 (by rw [if_neg (Bool.eq_false_iff.mp c6)]) H locs ls hM hS (lv_sub hl [1, 2, 3, 0] rfl)
    · skip
      refine lv_iload_n hx hb dX1_pairsAmong_18 rfl (lv_at hl 2 rfl) ?_
      refine lv_aload_n hx hb dX1_pairsAmong_19 rfl (lv_at hl 0 rfl) ?_
      refine mr_getr (r := a + 2) (TT := TX1) (N := 2) C0 uX1_pairsAmong_X1 hM hO.1.1 hO.1.2 rfl 1 (by decide) rfl kX1_pairsAmong_f15 rfl dX1_pairsAmong_20 ?_
      refine lv_iload_n hx hb dX1_pairsAmong_23 rfl (lv_at hl 3 rfl) ?_
      refine mr_ialdN (v := I (a + 2) i4) C0 hM hO.2.2.1 hO.2.2.2 (by decide) (by omega) rfl dX1_pairsAmong_24 ?_
      refine lv_iload_n hx hb dX1_pairsAmong_25 rfl (lv_at hl 1 rfl) ?_
      refine lv_iand hx hb dX1_pairsAmong_26 ?_
      refine mr_callS (As := [.int ((I (a + 2) i4) &&& u)]) C0 (ctJ6_bitCount_0f7a4 (I := I) (J := J) (u0 := ((I (a + 2) i4) &&& u)) ) (va_cwS 1 C0.1.2.2.2.2 gX1_pairsAmong_J6_bitCount_0f7a4 rfl rfl rfl (by decide +kernel) (by rw [hR]; exact ⟨Nat.le_of_ble_eq_true rfl, Nat.le_of_ble_eq_true rfl⟩)) hM hS rfl rfl rfl hl.1 (Nat.le_of_ble_eq_true rfl) dX1_pairsAmong_27 (by rw [hR]; exact ⟨Nat.zero_le _, Nat.zero_le _⟩) (fun H locs hM hS => ?_)
      refine lv_iadd hx hb dX1_pairsAmong_30 ?_
      refine lv_istore_n (lv' := [(2, .int (x4 + (fJ6_bitCount_0f7a4 ((I (a + 2) i4) &&& u)))), (0, .ref a), (1, .int u), (3, .int (nI i4))]) hx hb dX1_pairsAmong_31 rfl hl (by decide) rfl (fun ls hl => ?_)
      refine lv_iinc (v := nI (i4 + 1)) (lv' := [(3, .int (nI (i4 + 1))), (2, .int (x4 + (fJ6_bitCount_0f7a4 ((I (a + 2) i4) &&& u)))), (0, .ref a), (1, .int u)]) hx hb dX1_pairsAmong_32 hl (k := 3) rfl (nI_1 _) (by decide) rfl (fun ls hl => ?_)
      refine lv_goto (tgt := 4) hx hb dX1_pairsAmong_35 (by decide) ?_
      exact stp4 (x4 + (fJ6_bitCount_0f7a4 ((I (a + 2) i4) &&& u))) (by rw [if_pos c6]) H locs ls hM hS (lv_sub hl [2, 3, 1, 0] rfl)
  · skip
    refine lv_iload_n hx hb dX1_pairsAmong_4 rfl (lv_at hl 3 rfl) ?_
    refine lv_bipush (v := nI 8) hx hb dX1_pairsAmong_5 (by decide) ?_
    refine mr_geN (x := 8) (y := 8) (tgt := 38) C0 dX1_pairsAmong_7 (by decide) (by decide) (by decide) (fun _ => ?_) (fun c7 => absurd c7 (by decide))
    refine lv_iload_n hx hb dX1_pairsAmong_38 rfl (lv_at hl 2 rfl) ?_
    have eF : (lp 8 (fun i4 x4 => if fX3_isIn u (nI i4) = true then x4 + (fJ6_bitCount_0f7a4 ((I (a + 2) i4) &&& u)) else x4) (nI 0)) = fX1_pairsAmong I a u := rfl
    exact mr_iret (v := (lp 8 (fun i4 x4 => if fX3_isIn u (nI i4) = true then x4 + (fJ6_bitCount_0f7a4 ((I (a + 2) i4) &&& u)) else x4) (nI 0))) C0 hr hlk hQ hS (by rw [← eF]) hM (Nat.le_refl _) (Nat.le_refl _) dX1_pairsAmong_39
def fX1_firstOf (I : hm_I) (a : Nat) (u : Int32) : Int32 :=
  (lp 8 (fun i4 x4 => if fX3_isIn u (nI i4) = true then x4 &&& ((I (a + 2) i4) ^^^ (-1)) else x4) u)
set_option maxHeartbeats 4000000 in
set_option maxRecDepth 100000 in
theorem ctX1_firstOf {l : Launch} {D : va_G} {T : Nat → ClassId} {L : List Nat} {A : Nat → Prop} {Sh : hm_S} {I : hm_I} {J : hm_J} {a : Nat} (hO : IsO L Sh a) {u : Int32} :
    Ct l yX1_firstOf wsX1_firstOf { frames := 1, cells := 0, slots := 0, locals := 21 } 0 0 D T A [.ref a, .int u] (hm D T L A Sh I J) (some (.int (fX1_firstOf I a u))) (hm D T L A Sh I J) := by
  refine Ct.ofW (cc := cX1_firstOf) (maxL := 4) (ret := (some .int)) (by decide) rfl (Nat.le_of_ble_eq_true rfl) ?_
  intro p_ e_ s_ m_ args_ below_ meth_ c_ ls R Qq hR hQ C0 hr hlk hname hM hl
  have hx := C0.1.1
  have hb := C0.1.2.1
  have hS : va_S A s_.heap s_.heap [] := va_S.rf
  have hl : lv_has ls 4 [(0, .ref a), (1, .int u)] := hl
  refine lv_iload_n hx hb dX1_firstOf_0 rfl (lv_at hl 1 rfl) ?_
  refine lv_istore_n (lv' := [(2, .int u), (0, .ref a), (1, .int u)]) hx hb dX1_firstOf_1 rfl hl (by decide) rfl (fun ls hl => ?_)
  refine lv_iconst (v := nI 0) hx hb dX1_firstOf_2 (by decide) ?_
  refine lv_istore_n (lv' := [(3, .int (nI 0)), (2, .int u), (0, .ref a), (1, .int u)]) hx hb dX1_firstOf_3 rfl hl (by decide) rfl (fun ls hl => ?_)
  refine lp_loop (σ := Int32) (fun i4 x4 => ∀ (H : Heap) (locs : List Loc) (ls : Array Slot), hm D T L A Sh I J H → va_S A s_.heap H locs → lv_has ls 4 [(0, .ref a), (1, .int u), (2, .int x4), (3, .int (nI i4))] → W p_ l e_ R s_ m_ args_ below_ meth_ c_ H locs 0 0 Qq (F0 m_ 4 ls [])) 8 (fun i4 x4 => if fX3_isIn u (nI i4) = true then x4 &&& ((I (a + 2) i4) ^^^ (-1)) else x4) u (fun _ _ => True) trivial (fun _ _ _ _ => trivial) (fun i4 x4 hi1 hv2 k3 H locs ls hM hS hl => ?_) (fun hv2 H locs ls hM hS hl => ?_) _ _ _ hM hS (lv_sub hl [2, 3, 1, 0] rfl)
  · have stp4 : ∀ yy_ : Int32, yy_ = (if fX3_isIn u (nI i4) = true then x4 &&& ((I (a + 2) i4) ^^^ (-1)) else x4) → ∀ (H : Heap) (locs : List Loc) (ls : Array Slot), hm D T L A Sh I J H → va_S A s_.heap H locs → lv_has ls 4 [(0, .ref a), (1, .int u), (2, .int yy_), (3, .int (nI (i4 + 1)))] → W p_ l e_ R s_ m_ args_ below_ meth_ c_ H locs 0 0 Qq (F0 m_ 4 ls []) := fun yy_ ey => by rw [ey]; exact k3
    refine lv_iload_n hx hb dX1_firstOf_4 rfl (lv_at hl 3 rfl) ?_
    refine lv_bipush (v := nI 8) hx hb dX1_firstOf_5 (by decide) ?_
    refine mr_geN (x := i4) (y := 8) (tgt := 35) C0 dX1_firstOf_7 (by decide) (by omega) (by omega) (fun c5 => absurd c5 (by omega)) (fun c5 => ?_)
    refine lv_iload_n hx hb dX1_firstOf_10 rfl (lv_at hl 1 rfl) ?_
    refine lv_iload_n hx hb dX1_firstOf_11 rfl (lv_at hl 3 rfl) ?_
    refine mr_callSN (As := [.int u, .int (nI i4)]) C0 (ctX3_isIn (I := I) (J := J) (u0 := u) (s0 := (nI i4)) ) (va_cnB (own := RX1) (index := 22) 2 C0.1.2.2.2.2 ggX1_firstOf_X3_isIn rfl rfl rfl C0.2.2.2.1 (C0.1.2.2.2.2 _ (List.mem_of_getElem? (i := 3) rfl)) (by decide +kernel) (by rw [hR]; exact ⟨Nat.le_of_ble_eq_true rfl, Nat.le_of_ble_eq_true rfl⟩)) (C0.1.2.2.2.2 _ (List.mem_of_getElem? (i := 2) rfl)) hM hS rfl rfl rfl hl.1 (Nat.le_of_ble_eq_true rfl) dX1_firstOf_12 (by rw [hR]; exact ⟨Nat.zero_le _, Nat.zero_le _⟩) (fun H locs hM hS => ?_)
    refine mr_eqB (tgt := 29) C0 dX1_firstOf_15 (by decide) (fun c6 => ?_) (fun c6 => ?_)
    · skip
      refine lv_iinc (v := nI (i4 + 1)) (lv' := [(3, .int (nI (i4 + 1))), (0, .ref a), (1, .int u), (2, .int x4)]) hx hb dX1_firstOf_29 hl (k := 3) rfl (nI_1 _) (by decide) rfl (fun ls hl => ?_)
      refine lv_goto (tgt := 4) hx hb dX1_firstOf_32 (by decide) ?_
      exact stp4 x4 (by rw [if_neg (Bool.eq_false_iff.mp c6)]) H locs ls hM hS (lv_sub hl [1, 2, 3, 0] rfl)
    · skip
      refine lv_iload_n hx hb dX1_firstOf_18 rfl (lv_at hl 2 rfl) ?_
      refine lv_aload_n hx hb dX1_firstOf_19 rfl (lv_at hl 0 rfl) ?_
      refine mr_getr (r := a + 2) (TT := TX1) (N := 2) C0 uX1_firstOf_X1 hM hO.1.1 hO.1.2 rfl 1 (by decide) rfl kX1_firstOf_f15 rfl dX1_firstOf_20 ?_
      refine lv_iload_n hx hb dX1_firstOf_23 rfl (lv_at hl 3 rfl) ?_
      refine mr_ialdN (v := I (a + 2) i4) C0 hM hO.2.2.1 hO.2.2.2 (by decide) (by omega) rfl dX1_firstOf_24 ?_
      refine lv_iconst (v := (-1)) hx hb dX1_firstOf_25 (by decide) ?_
      refine lv_ixor hx hb dX1_firstOf_26 ?_
      refine lv_iand hx hb dX1_firstOf_27 ?_
      refine lv_istore_n (lv' := [(2, .int (x4 &&& ((I (a + 2) i4) ^^^ (-1)))), (0, .ref a), (1, .int u), (3, .int (nI i4))]) hx hb dX1_firstOf_28 rfl hl (by decide) rfl (fun ls hl => ?_)
      refine lv_iinc (v := nI (i4 + 1)) (lv' := [(3, .int (nI (i4 + 1))), (2, .int (x4 &&& ((I (a + 2) i4) ^^^ (-1)))), (0, .ref a), (1, .int u)]) hx hb dX1_firstOf_29 hl (k := 3) rfl (nI_1 _) (by decide) rfl (fun ls hl => ?_)
      refine lv_goto (tgt := 4) hx hb dX1_firstOf_32 (by decide) ?_
      exact stp4 (x4 &&& ((I (a + 2) i4) ^^^ (-1))) (by rw [if_pos c6]) H locs ls hM hS (lv_sub hl [2, 3, 1, 0] rfl)
  · skip
    refine lv_iload_n hx hb dX1_firstOf_4 rfl (lv_at hl 3 rfl) ?_
    refine lv_bipush (v := nI 8) hx hb dX1_firstOf_5 (by decide) ?_
    refine mr_geN (x := 8) (y := 8) (tgt := 35) C0 dX1_firstOf_7 (by decide) (by decide) (by decide) (fun _ => ?_) (fun c7 => absurd c7 (by decide))
    refine lv_iload_n hx hb dX1_firstOf_35 rfl (lv_at hl 2 rfl) ?_
    have eF : (lp 8 (fun i4 x4 => if fX3_isIn u (nI i4) = true then x4 &&& ((I (a + 2) i4) ^^^ (-1)) else x4) u) = fX1_firstOf I a u := rfl
    exact mr_iret (v := (lp 8 (fun i4 x4 => if fX3_isIn u (nI i4) = true then x4 &&& ((I (a + 2) i4) ^^^ (-1)) else x4) u)) C0 hr hlk hQ hS (by rw [← eF]) hM (Nat.le_refl _) (Nat.le_refl _) dX1_firstOf_36
def fX1_longestChainAmong (I : hm_I) (a : Nat) (u : Int32) : Int32 :=
  lpr (fun (i4 : Nat) (x4 : Int32) => (if x4 = 0 then Sum.inl (nI i4) else Sum.inr (x4 &&& ((fX1_firstOf I a x4) ^^^ (-1))) : Int32 ⊕ (Int32))) (fun (x4 : Int32) => (if x4 = 0 then nI 8 else nI 8 : Int32)) 8 0 u
set_option maxHeartbeats 4000000 in
set_option maxRecDepth 100000 in
theorem ctX1_longestChainAmong {l : Launch} {D : va_G} {T : Nat → ClassId} {L : List Nat} {A : Nat → Prop} {Sh : hm_S} {I : hm_I} {J : hm_J} {a : Nat} (hO : IsO L Sh a) {u : Int32} :
    Ct l yX1_longestChainAmong wsX1_longestChainAmong { frames := 2, cells := 0, slots := 0, locals := 44 } 0 0 D T A [.ref a, .int u] (hm D T L A Sh I J) (some (.int (fX1_longestChainAmong I a u))) (hm D T L A Sh I J) := by
  refine Ct.ofW (cc := cX1_longestChainAmong) (maxL := 4) (ret := (some .int)) (by decide) rfl (Nat.le_of_ble_eq_true rfl) ?_
  intro p_ e_ s_ m_ args_ below_ meth_ c_ ls R Qq hR hQ C0 hr hlk hname hM hl
  have hx := C0.1.1
  have hb := C0.1.2.1
  have hS : va_S A s_.heap s_.heap [] := va_S.rf
  have hl : lv_has ls 4 [(0, .ref a), (1, .int u)] := hl
  refine lv_iload_n hx hb dX1_longestChainAmong_0 rfl (lv_at hl 1 rfl) ?_
  refine lv_istore_n (lv' := [(2, .int u), (0, .ref a), (1, .int u)]) hx hb dX1_longestChainAmong_1 rfl hl (by decide) rfl (fun ls hl => ?_)
  refine lv_iconst (v := nI 0) hx hb dX1_longestChainAmong_2 (by decide) ?_
  refine lv_istore_n (lv' := [(3, .int (nI 0)), (2, .int u), (0, .ref a), (1, .int u)]) hx hb dX1_longestChainAmong_3 rfl hl (by decide) rfl (fun ls hl => ?_)
  refine lpr_loop (σ := Int32) (ρ := Int32) (fun i4 x4 => ∀ (H : Heap) (locs : List Loc) (ls : Array Slot), hm D T L A Sh I J H → va_S A s_.heap H locs → lv_has ls 4 [(0, .ref a), (2, .int x4), (3, .int (nI i4))] → W p_ l e_ R s_ m_ args_ below_ meth_ c_ H locs 0 0 Qq (F0 m_ 4 ls [])) 8 (fun (i4 : Nat) (x4 : Int32) => (if x4 = 0 then Sum.inl (nI i4) else Sum.inr (x4 &&& ((fX1_firstOf I a x4) ^^^ (-1))) : Int32 ⊕ (Int32))) (fun (x4 : Int32) => (if x4 = 0 then nI 8 else nI 8 : Int32)) u (fun _ _ => True) trivial (fun _ _ _ _ _ _ => trivial) (fun i4 x4 hi1 hv2 kv3 k4 H locs ls hM hS hl => ?_) (fun x4 hv2 hd H locs ls hM hS hl => ?_) _ _ _ hM hS (lv_sub hl [2, 1, 0] rfl)
  · skip
    refine lv_iload_n hx hb dX1_longestChainAmong_4 rfl (lv_at hl 1 rfl) ?_
    refine lv_if_eq (tgt := 30) hx hb dX1_longestChainAmong_5 (by decide) (fun c5 => ?_) (fun c5 => ?_)
    · skip
      refine lv_iload_n hx hb dX1_longestChainAmong_30 rfl (lv_at hl 2 rfl) ?_
      have hf6 := kv3 (nI i4) (by rw [if_pos c5])
      have eF : nI i4 = fX1_longestChainAmong I a u := hf6
      exact mr_iret (v := nI i4) C0 hr hlk hQ hS (by rw [← eF]) hM (Nat.le_refl _) (Nat.le_refl _) dX1_longestChainAmong_31
    · skip
      refine lv_iload_n hx hb dX1_longestChainAmong_8 rfl (lv_at hl 2 rfl) ?_
      refine lv_bipush (v := nI 8) hx hb dX1_longestChainAmong_9 (by decide) ?_
      refine mr_geN (x := i4) (y := 8) (tgt := 30) C0 dX1_longestChainAmong_11 (by decide) (by omega) (by omega) (fun c7 => absurd c7 (by omega)) (fun c7 => ?_)
      refine lv_iload_n hx hb dX1_longestChainAmong_14 rfl (lv_at hl 1 rfl) ?_
      refine lv_aload_n hx hb dX1_longestChainAmong_15 rfl (lv_at hl 0 rfl) ?_
      refine lv_iload_n hx hb dX1_longestChainAmong_16 rfl (lv_at hl 1 rfl) ?_
      refine mr_callV (As := [.int x4]) C0 (ctX1_firstOf (I := I) (J := J) (a := a) (u := x4) hO) (cwV 1 C0.1.2.2.2.2 gX1_longestChainAmong_X1_firstOf rfl rfl rfl (by decide +kernel) (by rw [hR]; exact ⟨Nat.le_of_ble_eq_true rfl, Nat.le_of_ble_eq_true rfl⟩)) hM hO.1.1 hO.1.2 rfl rfl hM hS rfl rfl rfl hl.1 (Nat.le_of_ble_eq_true rfl) dX1_longestChainAmong_17 (by rw [hR]; exact ⟨Nat.zero_le _, Nat.zero_le _⟩) (fun H locs hM hS => ?_)
      refine lv_iconst (v := (-1)) hx hb dX1_longestChainAmong_20 (by decide) ?_
      refine lv_ixor hx hb dX1_longestChainAmong_21 ?_
      refine lv_iand hx hb dX1_longestChainAmong_22 ?_
      refine lv_istore_n (lv' := [(2, .int (x4 &&& ((fX1_firstOf I a x4) ^^^ (-1)))), (0, .ref a), (3, .int (nI i4))]) hx hb dX1_longestChainAmong_23 rfl hl (by decide) rfl (fun ls hl => ?_)
      refine lv_iinc (v := nI (i4 + 1)) (lv' := [(3, .int (nI (i4 + 1))), (2, .int (x4 &&& ((fX1_firstOf I a x4) ^^^ (-1)))), (0, .ref a)]) hx hb dX1_longestChainAmong_24 hl (k := 2) rfl (nI_1 _) (by decide) rfl (fun ls hl => ?_)
      refine lv_goto (tgt := 4) hx hb dX1_longestChainAmong_27 (by decide) ?_
      exact k4 (x4 &&& ((fX1_firstOf I a x4) ^^^ (-1))) (by rw [if_neg c5]) H locs ls hM hS (lv_sub hl [2, 1, 0] rfl)
  · skip
    refine lv_iload_n hx hb dX1_longestChainAmong_4 rfl (lv_at hl 1 rfl) ?_
    refine lv_if_eq (tgt := 30) hx hb dX1_longestChainAmong_5 (by decide) (fun c8 => ?_) (fun c8 => ?_)
    · skip
      refine lv_iload_n hx hb dX1_longestChainAmong_30 rfl (lv_at hl 2 rfl) ?_
      have hf9 := Eq.trans (a := nI 8) (by rw [if_pos c8]) hd
      have eF : nI 8 = fX1_longestChainAmong I a u := hf9
      exact mr_iret (v := nI 8) C0 hr hlk hQ hS (by rw [← eF]) hM (Nat.le_refl _) (Nat.le_refl _) dX1_longestChainAmong_31
    · skip
      refine lv_iload_n hx hb dX1_longestChainAmong_8 rfl (lv_at hl 2 rfl) ?_
      refine lv_bipush (v := nI 8) hx hb dX1_longestChainAmong_9 (by decide) ?_
      refine mr_geN (x := 8) (y := 8) (tgt := 30) C0 dX1_longestChainAmong_11 (by decide) (by decide) (by decide) (fun _ => ?_) (fun c10 => absurd c10 (by decide))
      refine lv_iload_n hx hb dX1_longestChainAmong_30 rfl (lv_at hl 2 rfl) ?_
      have hf11 := Eq.trans (a := nI 8) (by rw [if_neg c8]) hd
      have eF : nI 8 = fX1_longestChainAmong I a u := hf11
      exact mr_iret (v := nI 8) C0 hr hlk hQ hS (by rw [← eF]) hM (Nat.le_refl _) (Nat.le_refl _) dX1_longestChainAmong_31
def fX1_widestChoiceAmong (I : hm_I) (a : Nat) (u : Int32) : Int32 :=
  (lp 256 (fun i4 x4 => if (nI i4) &&& (u ^^^ (-1)) = 0 then if fJ6_bitCount_0f7a4 (nI i4) ≤ x4 then x4 else if fX1_firstOf I a (nI i4) = nI i4 then fJ6_bitCount_0f7a4 (nI i4) else x4 else x4) (nI 0))
set_option maxHeartbeats 4000000 in
set_option maxRecDepth 100000 in
theorem ctX1_widestChoiceAmong {l : Launch} {D : va_G} {T : Nat → ClassId} {L : List Nat} {A : Nat → Prop} {Sh : hm_S} {I : hm_I} {J : hm_J} {a : Nat} (hO : IsO L Sh a) {u : Int32} :
    Ct l yX1_widestChoiceAmong wsX1_widestChoiceAmong { frames := 2, cells := 0, slots := 0, locals := 44 } 0 0 D T A [.ref a, .int u] (hm D T L A Sh I J) (some (.int (fX1_widestChoiceAmong I a u))) (hm D T L A Sh I J) := by
  refine Ct.ofW (cc := cX1_widestChoiceAmong) (maxL := 5) (ret := (some .int)) (by decide) rfl (Nat.le_of_ble_eq_true rfl) ?_
  intro p_ e_ s_ m_ args_ below_ meth_ c_ ls R Qq hR hQ C0 hr hlk hname hM hl
  have hx := C0.1.1
  have hb := C0.1.2.1
  have hS : va_S A s_.heap s_.heap [] := va_S.rf
  have hl : lv_has ls 5 [(0, .ref a), (1, .int u)] := hl
  refine lv_iconst (v := nI 0) hx hb dX1_widestChoiceAmong_0 (by decide) ?_
  refine lv_istore_n (lv' := [(2, .int (nI 0)), (0, .ref a), (1, .int u)]) hx hb dX1_widestChoiceAmong_1 rfl hl (by decide) rfl (fun ls hl => ?_)
  refine lv_iconst (v := nI 0) hx hb dX1_widestChoiceAmong_2 (by decide) ?_
  refine lv_istore_n (lv' := [(3, .int (nI 0)), (2, .int (nI 0)), (0, .ref a), (1, .int u)]) hx hb dX1_widestChoiceAmong_3 rfl hl (by decide) rfl (fun ls hl => ?_)
  refine lp_loop (σ := Int32) (fun i4 x4 => ∀ (H : Heap) (locs : List Loc) (ls : Array Slot), hm D T L A Sh I J H → va_S A s_.heap H locs → lv_has ls 5 [(0, .ref a), (1, .int u), (2, .int x4), (3, .int (nI i4))] → W p_ l e_ R s_ m_ args_ below_ meth_ c_ H locs 0 0 Qq (F0 m_ 4 ls [])) 256 (fun i4 x4 => if (nI i4) &&& (u ^^^ (-1)) = 0 then if fJ6_bitCount_0f7a4 (nI i4) ≤ x4 then x4 else if fX1_firstOf I a (nI i4) = nI i4 then fJ6_bitCount_0f7a4 (nI i4) else x4 else x4) (nI 0) (fun _ _ => True) trivial (fun _ _ _ _ => trivial) (fun i4 x4 hi1 hv2 k3 H locs ls hM hS hl => ?_) (fun hv2 H locs ls hM hS hl => ?_) _ _ _ hM hS (lv_sub hl [2, 3, 1, 0] rfl)
  · have stp4 : ∀ yy_ : Int32, yy_ = (if (nI i4) &&& (u ^^^ (-1)) = 0 then if fJ6_bitCount_0f7a4 (nI i4) ≤ x4 then x4 else if fX1_firstOf I a (nI i4) = nI i4 then fJ6_bitCount_0f7a4 (nI i4) else x4 else x4) → ∀ (H : Heap) (locs : List Loc) (ls : Array Slot), hm D T L A Sh I J H → va_S A s_.heap H locs → lv_has ls 5 [(0, .ref a), (1, .int u), (2, .int yy_), (3, .int (nI (i4 + 1)))] → W p_ l e_ R s_ m_ args_ below_ meth_ c_ H locs 0 0 Qq (F0 m_ 4 ls []) := fun yy_ ey => by rw [ey]; exact k3
    refine lv_iload_n hx hb dX1_widestChoiceAmong_4 rfl (lv_at hl 3 rfl) ?_
    refine lv_sipush (v := nI 256) hx hb dX1_widestChoiceAmong_5 (by decide) ?_
    refine mr_geN (x := i4) (y := 256) (tgt := 49) C0 dX1_widestChoiceAmong_8 (by decide) (by omega) (by omega) (fun c5 => absurd c5 (by omega)) (fun c5 => ?_)
    refine lv_iload_n hx hb dX1_widestChoiceAmong_11 rfl (lv_at hl 3 rfl) ?_
    refine mr_callS (As := [.int (nI i4)]) C0 (ctJ6_bitCount_0f7a4 (I := I) (J := J) (u0 := (nI i4)) ) (va_cwS 1 C0.1.2.2.2.2 gX1_widestChoiceAmong_J6_bitCount_0f7a4 rfl rfl rfl (by decide +kernel) (by rw [hR]; exact ⟨Nat.le_of_ble_eq_true rfl, Nat.le_of_ble_eq_true rfl⟩)) hM hS rfl rfl rfl hl.1 (Nat.le_of_ble_eq_true rfl) dX1_widestChoiceAmong_12 (by rw [hR]; exact ⟨Nat.zero_le _, Nat.zero_le _⟩) (fun H locs hM hS => ?_)
    refine lv_istore (lv' := [(4, .int (fJ6_bitCount_0f7a4 (nI i4))), (0, .ref a), (1, .int u), (2, .int x4), (3, .int (nI i4))]) hx hb dX1_widestChoiceAmong_15 hl (by decide) rfl (fun ls hl => ?_)
    refine lv_iload_n hx hb dX1_widestChoiceAmong_17 rfl (lv_at hl 4 rfl) ?_
    refine lv_iload_n hx hb dX1_widestChoiceAmong_18 rfl (lv_at hl 2 rfl) ?_
    refine lv_iconst (v := (-1)) hx hb dX1_widestChoiceAmong_19 (by decide) ?_
    refine lv_ixor hx hb dX1_widestChoiceAmong_20 ?_
    refine lv_iand hx hb dX1_widestChoiceAmong_21 ?_
    refine lv_if_ne (tgt := 43) hx hb dX1_widestChoiceAmong_22 (by decide) (fun c6 => ?_) (fun c6 => ?_)
    · skip
      refine lv_iinc (v := nI (i4 + 1)) (lv' := [(3, .int (nI (i4 + 1))), (4, .int (fJ6_bitCount_0f7a4 (nI i4))), (0, .ref a), (1, .int u), (2, .int x4)]) hx hb dX1_widestChoiceAmong_43 hl (k := 4) rfl (nI_1 _) (by decide) rfl (fun ls hl => ?_)
      refine lv_goto (tgt := 4) hx hb dX1_widestChoiceAmong_46 (by decide) ?_
      exact stp4 x4 (by rw [if_neg c6]) H locs ls hM hS (lv_sub hl [2, 3, 4, 0] rfl)
    · skip
      refine lv_iload hx hb dX1_widestChoiceAmong_25 (lv_at hl 0 rfl) ?_
      refine lv_iload_n hx hb dX1_widestChoiceAmong_27 rfl (lv_at hl 3 rfl) ?_
      refine lv_icmp_le (tgt := 43) hx hb dX1_widestChoiceAmong_28 (by decide) (fun c7 => ?_) (fun c7 => ?_)
      · skip
        refine lv_iinc (v := nI (i4 + 1)) (lv' := [(3, .int (nI (i4 + 1))), (4, .int (fJ6_bitCount_0f7a4 (nI i4))), (0, .ref a), (1, .int u), (2, .int x4)]) hx hb dX1_widestChoiceAmong_43 hl (k := 4) rfl (nI_1 _) (by decide) rfl (fun ls hl => ?_)
        refine lv_goto (tgt := 4) hx hb dX1_widestChoiceAmong_46 (by decide) ?_
        exact stp4 x4 (by rw [if_pos c6, if_pos c7]) H locs ls hM hS (lv_sub hl [2, 3, 4, 0] rfl)
      · skip
        refine lv_aload_n hx hb dX1_widestChoiceAmong_31 rfl (lv_at hl 1 rfl) ?_
        refine lv_iload_n hx hb dX1_widestChoiceAmong_32 rfl (lv_at hl 4 rfl) ?_
        refine mr_callV (As := [.int (nI i4)]) C0 (ctX1_firstOf (I := I) (J := J) (a := a) (u := (nI i4)) hO) (cwV 1 C0.1.2.2.2.2 gX1_widestChoiceAmong_X1_firstOf rfl rfl rfl (by decide +kernel) (by rw [hR]; exact ⟨Nat.le_of_ble_eq_true rfl, Nat.le_of_ble_eq_true rfl⟩)) hM hO.1.1 hO.1.2 rfl rfl hM hS rfl rfl rfl hl.1 (Nat.le_of_ble_eq_true rfl) dX1_widestChoiceAmong_33 (by rw [hR]; exact ⟨Nat.zero_le _, Nat.zero_le _⟩) (fun H locs hM hS => ?_)
        refine lv_iload_n hx hb dX1_widestChoiceAmong_36 rfl (lv_at hl 4 rfl) ?_
        refine lv_icmp_ne (tgt := 43) hx hb dX1_widestChoiceAmong_37 (by decide) (fun c8 => ?_) (fun c8 => ?_)
        · skip
          refine lv_iinc (v := nI (i4 + 1)) (lv' := [(3, .int (nI (i4 + 1))), (4, .int (fJ6_bitCount_0f7a4 (nI i4))), (0, .ref a), (1, .int u), (2, .int x4)]) hx hb dX1_widestChoiceAmong_43 hl (k := 4) rfl (nI_1 _) (by decide) rfl (fun ls hl => ?_)
          refine lv_goto (tgt := 4) hx hb dX1_widestChoiceAmong_46 (by decide) ?_
          exact stp4 x4 (by rw [if_pos c6, if_neg c7, if_neg c8]) H locs ls hM hS (lv_sub hl [2, 3, 4, 0] rfl)
        · skip
          refine lv_iload hx hb dX1_widestChoiceAmong_40 (lv_at hl 0 rfl) ?_
          refine lv_istore_n (lv' := [(2, .int (fJ6_bitCount_0f7a4 (nI i4))), (4, .int (fJ6_bitCount_0f7a4 (nI i4))), (0, .ref a), (1, .int u), (3, .int (nI i4))]) hx hb dX1_widestChoiceAmong_42 rfl hl (by decide) rfl (fun ls hl => ?_)
          refine lv_iinc (v := nI (i4 + 1)) (lv' := [(3, .int (nI (i4 + 1))), (2, .int (fJ6_bitCount_0f7a4 (nI i4))), (4, .int (fJ6_bitCount_0f7a4 (nI i4))), (0, .ref a), (1, .int u)]) hx hb dX1_widestChoiceAmong_43 hl (k := 4) rfl (nI_1 _) (by decide) rfl (fun ls hl => ?_)
          refine lv_goto (tgt := 4) hx hb dX1_widestChoiceAmong_46 (by decide) ?_
          exact stp4 (fJ6_bitCount_0f7a4 (nI i4)) (by rw [if_pos c6, if_neg c7, if_pos c8]) H locs ls hM hS (lv_sub hl [3, 4, 1, 0] rfl)
  · skip
    refine lv_iload_n hx hb dX1_widestChoiceAmong_4 rfl (lv_at hl 3 rfl) ?_
    refine lv_sipush (v := nI 256) hx hb dX1_widestChoiceAmong_5 (by decide) ?_
    refine mr_geN (x := 256) (y := 256) (tgt := 49) C0 dX1_widestChoiceAmong_8 (by decide) (by decide) (by decide) (fun _ => ?_) (fun c9 => absurd c9 (by decide))
    refine lv_iload_n hx hb dX1_widestChoiceAmong_49 rfl (lv_at hl 2 rfl) ?_
    have eF : (lp 256 (fun i4 x4 => if (nI i4) &&& (u ^^^ (-1)) = 0 then if fJ6_bitCount_0f7a4 (nI i4) ≤ x4 then x4 else if fX1_firstOf I a (nI i4) = nI i4 then fJ6_bitCount_0f7a4 (nI i4) else x4 else x4) (nI 0)) = fX1_widestChoiceAmong I a u := rfl
    exact mr_iret (v := (lp 256 (fun i4 x4 => if (nI i4) &&& (u ^^^ (-1)) = 0 then if fJ6_bitCount_0f7a4 (nI i4) ≤ x4 then x4 else if fX1_firstOf I a (nI i4) = nI i4 then fJ6_bitCount_0f7a4 (nI i4) else x4 else x4) (nI 0))) C0 hr hlk hQ hS (by rw [← eF]) hM (Nat.le_refl _) (Nat.le_refl _) dX1_widestChoiceAmong_50
def fX1_isPrecededByNextOf (I : hm_I) (a x y : Nat) : Bool :=
  lpr (fun (i2 : Nat) (x2 : Unit) => (if fX1_hasEdge_t I a x i2 = true then if fX1_precedes_t I a i2 y = true then Sum.inl true else Sum.inr () else Sum.inr () : Bool ⊕ (Unit))) (fun (x2 : Unit) => (false : Bool)) 8 0 ()
set_option maxHeartbeats 4000000 in
set_option maxRecDepth 100000 in
theorem ctX1_isPrecededByNextOf {l : Launch} {D : va_G} {T : Nat → ClassId} {L : List Nat} {A : Nat → Prop} {Sh : hm_S} {I : hm_I} {J : hm_J} {a : Nat} (hO : IsO L Sh a) {x y : Nat} (hx0 : x < 8) :
    Ct l yX1_isPrecededByNextOf wsX1_isPrecededByNextOf { frames := 2, cells := 0, slots := 0, locals := 43 } 0 0 D T A [.ref a, .int (nI x), .int (nI y)] (hm D T L A Sh I J) (some (.int (bI (fX1_isPrecededByNextOf I a x y)))) (hm D T L A Sh I J) := by
  refine Ct.ofW (cc := cX1_isPrecededByNextOf) (maxL := 4) (ret := (some .boolean)) (by decide) rfl (Nat.le_of_ble_eq_true rfl) ?_
  intro p_ e_ s_ m_ args_ below_ meth_ c_ ls R Qq hR hQ C0 hr hlk hname hM hl
  have hx := C0.1.1
  have hb := C0.1.2.1
  have hS : va_S A s_.heap s_.heap [] := va_S.rf
  have hl : lv_has ls 4 [(0, .ref a), (1, .int (nI x)), (2, .int (nI y))] := hl
  refine lv_iconst (v := nI 0) hx hb dX1_isPrecededByNextOf_0 (by decide) ?_
  refine lv_istore_n (lv' := [(3, .int (nI 0)), (0, .ref a), (1, .int (nI x)), (2, .int (nI y))]) hx hb dX1_isPrecededByNextOf_1 rfl hl (by decide) rfl (fun ls hl => ?_)
  refine lpr_loop (σ := Unit) (ρ := Bool) (fun i2 x2 => ∀ (H : Heap) (locs : List Loc) (ls : Array Slot), hm D T L A Sh I J H → va_S A s_.heap H locs → lv_has ls 4 [(0, .ref a), (1, .int (nI x)), (2, .int (nI y)), (3, .int (nI i2))] → W p_ l e_ R s_ m_ args_ below_ meth_ c_ H locs 0 0 Qq (F0 m_ 2 ls [])) 8 (fun (i2 : Nat) (x2 : Unit) => (if fX1_hasEdge_t I a x i2 = true then if fX1_precedes_t I a i2 y = true then Sum.inl true else Sum.inr () else Sum.inr () : Bool ⊕ (Unit))) (fun (x2 : Unit) => (false : Bool)) () (fun _ _ => True) trivial (fun _ _ _ _ _ _ => trivial) (fun i2 x2 hi1 hv2 kv3 k4 H locs ls hM hS hl => ?_) (fun x2 hv2 hd H locs ls hM hS hl => ?_) _ _ _ hM hS (lv_sub hl [1, 2, 3, 0] rfl)
  · skip
    refine lv_iload_n hx hb dX1_isPrecededByNextOf_2 rfl (lv_at hl 3 rfl) ?_
    refine lv_bipush (v := nI 8) hx hb dX1_isPrecededByNextOf_3 (by decide) ?_
    refine mr_geN (x := i2) (y := 8) (tgt := 34) C0 dX1_isPrecededByNextOf_5 (by decide) (by omega) (by omega) (fun c5 => absurd c5 (by omega)) (fun c5 => ?_)
    refine lv_aload_n hx hb dX1_isPrecededByNextOf_8 rfl (lv_at hl 0 rfl) ?_
    refine lv_iload_n hx hb dX1_isPrecededByNextOf_9 rfl (lv_at hl 1 rfl) ?_
    refine lv_iload_n hx hb dX1_isPrecededByNextOf_10 rfl (lv_at hl 3 rfl) ?_
    refine mr_callV (As := [.int (nI x), .int (nI i2)]) C0 (ctX1_hasEdge_t (I := I) (J := J) (a := a) (x := x) (y := i2) hO (by omega)) (cwV 2 C0.1.2.2.2.2 gX1_isPrecededByNextOf_X1_hasEdge rfl rfl rfl (by decide +kernel) (by rw [hR]; exact ⟨Nat.le_of_ble_eq_true rfl, Nat.le_of_ble_eq_true rfl⟩)) hM hO.1.1 hO.1.2 rfl rfl hM hS rfl rfl rfl hl.1 (Nat.le_of_ble_eq_true rfl) dX1_isPrecededByNextOf_11 (by rw [hR]; exact ⟨Nat.zero_le _, Nat.zero_le _⟩) (fun H locs hM hS => ?_)
    refine mr_eqB (tgt := 28) C0 dX1_isPrecededByNextOf_14 (by decide) (fun c6 => ?_) (fun c6 => ?_)
    · skip
      refine lv_iinc (v := nI (i2 + 1)) (lv' := [(3, .int (nI (i2 + 1))), (0, .ref a), (1, .int (nI x)), (2, .int (nI y))]) hx hb dX1_isPrecededByNextOf_28 hl (k := 3) rfl (nI_1 _) (by decide) rfl (fun ls hl => ?_)
      refine lv_goto (tgt := 2) hx hb dX1_isPrecededByNextOf_31 (by decide) ?_
      exact k4 () (by rw [if_neg (Bool.eq_false_iff.mp c6)]) H locs ls hM hS (lv_sub hl [1, 2, 3, 0] rfl)
    · skip
      refine lv_aload_n hx hb dX1_isPrecededByNextOf_17 rfl (lv_at hl 0 rfl) ?_
      refine lv_iload_n hx hb dX1_isPrecededByNextOf_18 rfl (lv_at hl 3 rfl) ?_
      refine lv_iload_n hx hb dX1_isPrecededByNextOf_19 rfl (lv_at hl 2 rfl) ?_
      refine mr_callV (As := [.int (nI i2), .int (nI y)]) C0 (ctX1_precedes_t (I := I) (J := J) (a := a) (x := i2) (y := y) hO (by omega)) (cwV 2 C0.1.2.2.2.2 gX1_isPrecededByNextOf_X1_precedes rfl rfl rfl (by decide +kernel) (by rw [hR]; exact ⟨Nat.le_of_ble_eq_true rfl, Nat.le_of_ble_eq_true rfl⟩)) hM hO.1.1 hO.1.2 rfl rfl hM hS rfl rfl rfl hl.1 (Nat.le_of_ble_eq_true rfl) dX1_isPrecededByNextOf_20 (by rw [hR]; exact ⟨Nat.zero_le _, Nat.zero_le _⟩) (fun H locs hM hS => ?_)
      refine mr_eqB (tgt := 28) C0 dX1_isPrecededByNextOf_23 (by decide) (fun c7 => ?_) (fun c7 => ?_)
      · skip
        refine lv_iinc (v := nI (i2 + 1)) (lv' := [(3, .int (nI (i2 + 1))), (0, .ref a), (1, .int (nI x)), (2, .int (nI y))]) hx hb dX1_isPrecededByNextOf_28 hl (k := 3) rfl (nI_1 _) (by decide) rfl (fun ls hl => ?_)
        refine lv_goto (tgt := 2) hx hb dX1_isPrecededByNextOf_31 (by decide) ?_
        exact k4 () (by rw [if_pos c6, if_neg (Bool.eq_false_iff.mp c7)]) H locs ls hM hS (lv_sub hl [1, 2, 3, 0] rfl)
      · skip
        refine lv_iconst (v := nI 1) hx hb dX1_isPrecededByNextOf_26 (by decide) ?_
        have hf8 := kv3 true (by rw [if_pos c6, if_pos c7])
        refine mr_top (y := bI true) (by decide) ?_
        have eF : true = fX1_isPrecededByNextOf I a x y := hf8
        exact mr_zret (b := true) C0 hr hlk hQ hS (by rw [← eF]) hM (Nat.le_refl _) (Nat.le_refl _) dX1_isPrecededByNextOf_27
  · skip
    refine lv_iload_n hx hb dX1_isPrecededByNextOf_2 rfl (lv_at hl 3 rfl) ?_
    refine lv_bipush (v := nI 8) hx hb dX1_isPrecededByNextOf_3 (by decide) ?_
    refine mr_geN (x := 8) (y := 8) (tgt := 34) C0 dX1_isPrecededByNextOf_5 (by decide) (by decide) (by decide) (fun _ => ?_) (fun c9 => absurd c9 (by decide))
    refine lv_iconst (v := nI 0) hx hb dX1_isPrecededByNextOf_34 (by decide) ?_
    have hf10 := Eq.trans (a := false) rfl hd
    refine mr_top (y := bI false) (by decide) ?_
    have eF : false = fX1_isPrecededByNextOf I a x y := hf10
    exact mr_zret (b := false) C0 hr hlk hQ hS (by rw [← eF]) hM (Nat.le_refl _) (Nat.le_refl _) dX1_isPrecededByNextOf_35
def fX1_needlessEdges (I : hm_I) (a : Nat) : Int32 :=
  (lp 8 (fun i4 x4 => (lp 8 (fun i12 x12 => if fX1_hasEdge_t I a i4 i12 = true then if fX1_isPrecededByNextOf I a i4 i12 = true then x12 + 1 else x12 else x12) x4)) (nI 0))
set_option maxHeartbeats 4000000 in
set_option maxRecDepth 100000 in
theorem ctX1_needlessEdges {l : Launch} {D : va_G} {T : Nat → ClassId} {L : List Nat} {A : Nat → Prop} {Sh : hm_S} {I : hm_I} {J : hm_J} {a : Nat} (hO : IsO L Sh a) :
    Ct l yX1_needlessEdges wsX1_needlessEdges { frames := 3, cells := 0, slots := 0, locals := 66 } 0 0 D T A [.ref a] (hm D T L A Sh I J) (some (.int (fX1_needlessEdges I a))) (hm D T L A Sh I J) := by
  refine Ct.ofW (cc := cX1_needlessEdges) (maxL := 4) (ret := (some .int)) (by decide) rfl (Nat.le_of_ble_eq_true rfl) ?_
  intro p_ e_ s_ m_ args_ below_ meth_ c_ ls R Qq hR hQ C0 hr hlk hname hM hl
  have hx := C0.1.1
  have hb := C0.1.2.1
  have hS : va_S A s_.heap s_.heap [] := va_S.rf
  have hl : lv_has ls 4 [(0, .ref a)] := hl
  refine lv_iconst (v := nI 0) hx hb dX1_needlessEdges_0 (by decide) ?_
  refine lv_istore_n (lv' := [(1, .int (nI 0)), (0, .ref a)]) hx hb dX1_needlessEdges_1 rfl hl (by decide) rfl (fun ls hl => ?_)
  refine lv_iconst (v := nI 0) hx hb dX1_needlessEdges_2 (by decide) ?_
  refine lv_istore_n (lv' := [(2, .int (nI 0)), (1, .int (nI 0)), (0, .ref a)]) hx hb dX1_needlessEdges_3 rfl hl (by decide) rfl (fun ls hl => ?_)
  refine lp_loop (σ := Int32) (fun i4 x4 => ∀ (H : Heap) (locs : List Loc) (ls : Array Slot), hm D T L A Sh I J H → va_S A s_.heap H locs → lv_has ls 4 [(0, .ref a), (1, .int x4), (2, .int (nI i4))] → W p_ l e_ R s_ m_ args_ below_ meth_ c_ H locs 0 0 Qq (F0 m_ 4 ls [])) 8 (fun i4 x4 => (lp 8 (fun i12 x12 => if fX1_hasEdge_t I a i4 i12 = true then if fX1_isPrecededByNextOf I a i4 i12 = true then x12 + 1 else x12 else x12) x4)) (nI 0) (fun _ _ => True) trivial (fun _ _ _ _ => trivial) (fun i4 x4 hi1 hv2 k3 H locs ls hM hS hl => ?_) (fun hv2 H locs ls hM hS hl => ?_) _ _ _ hM hS (lv_sub hl [2, 1, 0] rfl)
  · have stp4 : ∀ yy_ : Int32, yy_ = ((lp 8 (fun i12 x12 => if fX1_hasEdge_t I a i4 i12 = true then if fX1_isPrecededByNextOf I a i4 i12 = true then x12 + 1 else x12 else x12) x4)) → ∀ (H : Heap) (locs : List Loc) (ls : Array Slot), hm D T L A Sh I J H → va_S A s_.heap H locs → lv_has ls 4 [(0, .ref a), (1, .int yy_), (2, .int (nI (i4 + 1)))] → W p_ l e_ R s_ m_ args_ below_ meth_ c_ H locs 0 0 Qq (F0 m_ 4 ls []) := fun yy_ ey => by rw [ey]; exact k3
    refine lv_iload_n hx hb dX1_needlessEdges_4 rfl (lv_at hl 2 rfl) ?_
    refine lv_bipush (v := nI 8) hx hb dX1_needlessEdges_5 (by decide) ?_
    refine mr_geN (x := i4) (y := 8) (tgt := 51) C0 dX1_needlessEdges_7 (by decide) (by omega) (by omega) (fun c5 => absurd c5 (by omega)) (fun c5 => ?_)
    refine lv_iconst (v := nI 0) hx hb dX1_needlessEdges_10 (by decide) ?_
    refine lv_istore_n (lv' := [(3, .int (nI 0)), (0, .ref a), (1, .int x4), (2, .int (nI i4))]) hx hb dX1_needlessEdges_11 rfl hl (by decide) rfl (fun ls hl => ?_)
    refine lp_loop (σ := Int32) (fun i12 x12 => ∀ (H : Heap) (locs : List Loc) (ls : Array Slot), hm D T L A Sh I J H → va_S A s_.heap H locs → lv_has ls 4 [(0, .ref a), (1, .int x12), (2, .int (nI i4)), (3, .int (nI i12))] → W p_ l e_ R s_ m_ args_ below_ meth_ c_ H locs 0 0 Qq (F0 m_ 12 ls [])) 8 (fun i12 x12 => if fX1_hasEdge_t I a i4 i12 = true then if fX1_isPrecededByNextOf I a i4 i12 = true then x12 + 1 else x12 else x12) x4 (fun _ _ => True) trivial (fun _ _ _ _ => trivial) (fun i12 x12 hi6 hv7 k8 H locs ls hM hS hl => ?_) (fun hv7 H locs ls hM hS hl => ?_) _ _ _ hM hS (lv_sub hl [1, 2, 3, 0] rfl)
    · have stp9 : ∀ yy_ : Int32, yy_ = (if fX1_hasEdge_t I a i4 i12 = true then if fX1_isPrecededByNextOf I a i4 i12 = true then x12 + 1 else x12 else x12) → ∀ (H : Heap) (locs : List Loc) (ls : Array Slot), hm D T L A Sh I J H → va_S A s_.heap H locs → lv_has ls 4 [(0, .ref a), (1, .int yy_), (2, .int (nI i4)), (3, .int (nI (i12 + 1)))] → W p_ l e_ R s_ m_ args_ below_ meth_ c_ H locs 0 0 Qq (F0 m_ 12 ls []) := fun yy_ ey => by rw [ey]; exact k8
      refine lv_iload_n hx hb dX1_needlessEdges_12 rfl (lv_at hl 3 rfl) ?_
      refine lv_bipush (v := nI 8) hx hb dX1_needlessEdges_13 (by decide) ?_
      refine mr_geN (x := i12) (y := 8) (tgt := 45) C0 dX1_needlessEdges_15 (by decide) (by omega) (by omega) (fun c10 => absurd c10 (by omega)) (fun c10 => ?_)
      refine lv_aload_n hx hb dX1_needlessEdges_18 rfl (lv_at hl 0 rfl) ?_
      refine lv_iload_n hx hb dX1_needlessEdges_19 rfl (lv_at hl 2 rfl) ?_
      refine lv_iload_n hx hb dX1_needlessEdges_20 rfl (lv_at hl 3 rfl) ?_
      refine mr_callV (As := [.int (nI i4), .int (nI i12)]) C0 (ctX1_hasEdge_t (I := I) (J := J) (a := a) (x := i4) (y := i12) hO (by omega)) (cwV 2 C0.1.2.2.2.2 gX1_needlessEdges_X1_hasEdge rfl rfl rfl (by decide +kernel) (by rw [hR]; exact ⟨Nat.le_of_ble_eq_true rfl, Nat.le_of_ble_eq_true rfl⟩)) hM hO.1.1 hO.1.2 rfl rfl hM hS rfl rfl rfl hl.1 (Nat.le_of_ble_eq_true rfl) dX1_needlessEdges_21 (by rw [hR]; exact ⟨Nat.zero_le _, Nat.zero_le _⟩) (fun H locs hM hS => ?_)
      refine mr_eqB (tgt := 39) C0 dX1_needlessEdges_24 (by decide) (fun c11 => ?_) (fun c11 => ?_)
      · skip
        refine lv_iinc (v := nI (i12 + 1)) (lv' := [(3, .int (nI (i12 + 1))), (0, .ref a), (1, .int x12), (2, .int (nI i4))]) hx hb dX1_needlessEdges_39 hl (k := 3) rfl (nI_1 _) (by decide) rfl (fun ls hl => ?_)
        refine lv_goto (tgt := 12) hx hb dX1_needlessEdges_42 (by decide) ?_
        exact stp9 x12 (by rw [if_neg (Bool.eq_false_iff.mp c11)]) H locs ls hM hS (lv_sub hl [1, 2, 3, 0] rfl)
      · skip
        refine lv_aload_n hx hb dX1_needlessEdges_27 rfl (lv_at hl 0 rfl) ?_
        refine lv_iload_n hx hb dX1_needlessEdges_28 rfl (lv_at hl 2 rfl) ?_
        refine lv_iload_n hx hb dX1_needlessEdges_29 rfl (lv_at hl 3 rfl) ?_
        refine mr_callV (As := [.int (nI i4), .int (nI i12)]) C0 (ctX1_isPrecededByNextOf (I := I) (J := J) (a := a) (x := i4) (y := i12) hO (by omega)) (cwV 2 C0.1.2.2.2.2 gX1_needlessEdges_X1_isPrecededByNextOf rfl rfl rfl (by decide +kernel) (by rw [hR]; exact ⟨Nat.le_of_ble_eq_true rfl, Nat.le_of_ble_eq_true rfl⟩)) hM hO.1.1 hO.1.2 rfl rfl hM hS rfl rfl rfl hl.1 (Nat.le_of_ble_eq_true rfl) dX1_needlessEdges_30 (by rw [hR]; exact ⟨Nat.zero_le _, Nat.zero_le _⟩) (fun H locs hM hS => ?_)
        refine mr_eqB (tgt := 39) C0 dX1_needlessEdges_33 (by decide) (fun c12 => ?_) (fun c12 => ?_)
        · skip
          refine lv_iinc (v := nI (i12 + 1)) (lv' := [(3, .int (nI (i12 + 1))), (0, .ref a), (1, .int x12), (2, .int (nI i4))]) hx hb dX1_needlessEdges_39 hl (k := 3) rfl (nI_1 _) (by decide) rfl (fun ls hl => ?_)
          refine lv_goto (tgt := 12) hx hb dX1_needlessEdges_42 (by decide) ?_
          exact stp9 x12 (by rw [if_pos c11, if_neg (Bool.eq_false_iff.mp c12)]) H locs ls hM hS (lv_sub hl [1, 2, 3, 0] rfl)
        · skip
          refine lv_iinc (v := x12 + 1) (lv' := [(1, .int (x12 + 1)), (0, .ref a), (2, .int (nI i4)), (3, .int (nI i12))]) hx hb dX1_needlessEdges_36 hl (k := 1) rfl rfl (by decide) rfl (fun ls hl => ?_)
          refine lv_iinc (v := nI (i12 + 1)) (lv' := [(3, .int (nI (i12 + 1))), (1, .int (x12 + 1)), (0, .ref a), (2, .int (nI i4))]) hx hb dX1_needlessEdges_39 hl (k := 3) rfl (nI_1 _) (by decide) rfl (fun ls hl => ?_)
          refine lv_goto (tgt := 12) hx hb dX1_needlessEdges_42 (by decide) ?_
          exact stp9 (x12 + 1) (by rw [if_pos c11, if_pos c12]) H locs ls hM hS (lv_sub hl [2, 1, 3, 0] rfl)
    · skip
      refine lv_iload_n hx hb dX1_needlessEdges_12 rfl (lv_at hl 3 rfl) ?_
      refine lv_bipush (v := nI 8) hx hb dX1_needlessEdges_13 (by decide) ?_
      refine mr_geN (x := 8) (y := 8) (tgt := 45) C0 dX1_needlessEdges_15 (by decide) (by decide) (by decide) (fun _ => ?_) (fun c13 => absurd c13 (by decide))
      refine lv_iinc (v := nI (i4 + 1)) (lv' := [(2, .int (nI (i4 + 1))), (0, .ref a), (1, .int (lp 8 (fun i12 x12 => if fX1_hasEdge_t I a i4 i12 = true then if fX1_isPrecededByNextOf I a i4 i12 = true then x12 + 1 else x12 else x12) x4)), (3, .int (nI 8))]) hx hb dX1_needlessEdges_45 hl (k := 2) rfl (nI_1 _) (by decide) rfl (fun ls hl => ?_)
      refine lv_goto (tgt := 4) hx hb dX1_needlessEdges_48 (by decide) ?_
      exact stp4 (lp 8 (fun i12 x12 => if fX1_hasEdge_t I a i4 i12 = true then if fX1_isPrecededByNextOf I a i4 i12 = true then x12 + 1 else x12 else x12) x4) rfl H locs ls hM hS (lv_sub hl [1, 2, 0] rfl)
  · skip
    refine lv_iload_n hx hb dX1_needlessEdges_4 rfl (lv_at hl 2 rfl) ?_
    refine lv_bipush (v := nI 8) hx hb dX1_needlessEdges_5 (by decide) ?_
    refine mr_geN (x := 8) (y := 8) (tgt := 51) C0 dX1_needlessEdges_7 (by decide) (by decide) (by decide) (fun _ => ?_) (fun c14 => absurd c14 (by decide))
    refine lv_iload_n hx hb dX1_needlessEdges_51 rfl (lv_at hl 1 rfl) ?_
    have eF : (lp 8 (fun i4 x4 => (lp 8 (fun i12 x12 => if fX1_hasEdge_t I a i4 i12 = true then if fX1_isPrecededByNextOf I a i4 i12 = true then x12 + 1 else x12 else x12) x4)) (nI 0)) = fX1_needlessEdges I a := rfl
    exact mr_iret (v := (lp 8 (fun i4 x4 => (lp 8 (fun i12 x12 => if fX1_hasEdge_t I a i4 i12 = true then if fX1_isPrecededByNextOf I a i4 i12 = true then x12 + 1 else x12 else x12) x4)) (nI 0))) C0 hr hlk hQ hS (by rw [← eF]) hM (Nat.le_refl _) (Nat.le_refl _) dX1_needlessEdges_52
theorem clr_lt {u : Nat} (hu : u < 256) (z : Int32) : ((nI u &&& z).toNatClampNeg) < 256 ∧ (nI u &&& z) = nI (nI u &&& z).toNatClampNeg := by
  have e : (nI u &&& z) = nI (u &&& z.toBitVec.toNat) := by
    apply Int32.toBitVec_inj.mp
    apply BitVec.eq_of_toNat_eq
    have h1 : (nI u).toBitVec.toNat = u := pk_tn (by omega)
    have h2 : u &&& z.toBitVec.toNat ≤ u := Nat.and_le_left
    rw [Int32.toBitVec_and, BitVec.toNat_and, h1, pk_tn (by omega)]
  have h2 : u &&& z.toBitVec.toNat ≤ u := Nat.and_le_left
  rw [e, nI_clamp (by omega)]
  exact ⟨by omega, rfl⟩
def fX1_listsByLast (I : hm_I) (J : hm_J) (a u ja : Nat) : Int64 :=
  (lp 8 (fun i5 x5 => if fX3_isIn (nI u) (nI i5) = true then if (I (a + 2) i5) &&& (nI u) = 0 then x5 + (J ja (((nI u) &&& ((fX3_setOf (nI i5)) ^^^ (-1))).toNatClampNeg)) else x5 else x5) 0)
set_option maxHeartbeats 4000000 in
set_option maxRecDepth 100000 in
theorem ctX1_listsByLast {l : Launch} {D : va_G} {T : Nat → ClassId} {L : List Nat} {A : Nat → Prop} {Sh : hm_S} {I : hm_I} {J : hm_J} {a : Nat} (hO : IsO L Sh a) {u : Nat} (hu : u < 256) {ja : Nat} (hJ : ja ∈ L ∧ Sh ja = kJ 256) :
    Ct l yX1_listsByLast wsX1_listsByLast { frames := 1, cells := 0, slots := 0, locals := 21 } 0 0 D T A [.ref a, .int (nI u), .ref ja] (hm D T L A Sh I J) (some (.long (fX1_listsByLast I J a u ja))) (hm D T L A Sh I J) := by
  refine Ct.ofW (cc := cX1_listsByLast) (maxL := 6) (ret := (some .long)) (by decide) rfl (Nat.le_of_ble_eq_true rfl) ?_
  intro p_ e_ s_ m_ args_ below_ meth_ c_ ls R Qq hR hQ C0 hr hlk hname hM hl
  have hx := C0.1.1
  have hb := C0.1.2.1
  have hS : va_S A s_.heap s_.heap [] := va_S.rf
  have hl : lv_has ls 6 [(0, .ref a), (1, .int (nI u)), (2, .ref ja)] := hl
  refine lv_lconst (v := 0) hx hb dX1_listsByLast_0 (by decide) ?_
  refine lv_lstore_n (lv' := [(3, .long 0), (0, .ref a), (1, .int (nI u)), (2, .ref ja)]) hx hb dX1_listsByLast_1 rfl hl (by decide) rfl (fun ls hl => ?_)
  refine lv_iconst (v := nI 0) hx hb dX1_listsByLast_2 (by decide) ?_
  refine lv_istore (lv' := [(5, .int (nI 0)), (3, .long 0), (0, .ref a), (1, .int (nI u)), (2, .ref ja)]) hx hb dX1_listsByLast_3 hl (by decide) rfl (fun ls hl => ?_)
  refine lp_loop (σ := Int64) (fun i5 x5 => ∀ (H : Heap) (locs : List Loc) (ls : Array Slot), hm D T L A Sh I J H → va_S A s_.heap H locs → lv_has ls 6 [(0, .ref a), (1, .int (nI u)), (2, .ref ja), (3, .long x5), (5, .int (nI i5))] → W p_ l e_ R s_ m_ args_ below_ meth_ c_ H locs 0 0 Qq (F0 m_ 5 ls [])) 8 (fun i5 x5 => if fX3_isIn (nI u) (nI i5) = true then if (I (a + 2) i5) &&& (nI u) = 0 then x5 + (J ja (((nI u) &&& ((fX3_setOf (nI i5)) ^^^ (-1))).toNatClampNeg)) else x5 else x5) 0 (fun _ _ => True) trivial (fun _ _ _ _ => trivial) (fun i5 x5 hi1 hv2 k3 H locs ls hM hS hl => ?_) (fun hv2 H locs ls hM hS hl => ?_) _ _ _ hM hS (lv_sub hl [2, 3, 4, 1, 0] rfl)
  · have stp4 : ∀ yy_ : Int64, yy_ = (if fX3_isIn (nI u) (nI i5) = true then if (I (a + 2) i5) &&& (nI u) = 0 then x5 + (J ja (((nI u) &&& ((fX3_setOf (nI i5)) ^^^ (-1))).toNatClampNeg)) else x5 else x5) → ∀ (H : Heap) (locs : List Loc) (ls : Array Slot), hm D T L A Sh I J H → va_S A s_.heap H locs → lv_has ls 6 [(0, .ref a), (1, .int (nI u)), (2, .ref ja), (3, .long yy_), (5, .int (nI (i5 + 1)))] → W p_ l e_ R s_ m_ args_ below_ meth_ c_ H locs 0 0 Qq (F0 m_ 5 ls []) := fun yy_ ey => by rw [ey]; exact k3
    refine lv_iload hx hb dX1_listsByLast_5 (lv_at hl 4 rfl) ?_
    refine lv_bipush (v := nI 8) hx hb dX1_listsByLast_7 (by decide) ?_
    refine mr_geN (x := i5) (y := 8) (tgt := 53) C0 dX1_listsByLast_9 (by decide) (by omega) (by omega) (fun c5 => absurd c5 (by omega)) (fun c5 => ?_)
    refine lv_iload_n hx hb dX1_listsByLast_12 rfl (lv_at hl 1 rfl) ?_
    refine lv_iload hx hb dX1_listsByLast_13 (lv_at hl 4 rfl) ?_
    refine mr_callSN (As := [.int (nI u), .int (nI i5)]) C0 (ctX3_isIn (I := I) (J := J) (u0 := (nI u)) (s0 := (nI i5)) ) (va_cnB (own := RX1) (index := 22) 2 C0.1.2.2.2.2 ggX1_listsByLast_X3_isIn rfl rfl rfl C0.2.2.2.1 (C0.1.2.2.2.2 _ (List.mem_of_getElem? (i := 3) rfl)) (by decide +kernel) (by rw [hR]; exact ⟨Nat.le_of_ble_eq_true rfl, Nat.le_of_ble_eq_true rfl⟩)) (C0.1.2.2.2.2 _ (List.mem_of_getElem? (i := 2) rfl)) hM hS rfl rfl rfl hl.1 (Nat.le_of_ble_eq_true rfl) dX1_listsByLast_15 (by rw [hR]; exact ⟨Nat.zero_le _, Nat.zero_le _⟩) (fun H locs hM hS => ?_)
    refine mr_eqB (tgt := 47) C0 dX1_listsByLast_18 (by decide) (fun c6 => ?_) (fun c6 => ?_)
    · skip
      refine lv_iinc (v := nI (i5 + 1)) (lv' := [(5, .int (nI (i5 + 1))), (0, .ref a), (1, .int (nI u)), (2, .ref ja), (3, .long x5)]) hx hb dX1_listsByLast_47 hl (k := 4) rfl (nI_1 _) (by decide) rfl (fun ls hl => ?_)
      refine lv_goto (tgt := 5) hx hb dX1_listsByLast_50 (by decide) ?_
      exact stp4 x5 (by rw [if_neg (Bool.eq_false_iff.mp c6)]) H locs ls hM hS (lv_sub hl [1, 2, 3, 4, 0] rfl)
    · skip
      refine lv_aload_n hx hb dX1_listsByLast_21 rfl (lv_at hl 0 rfl) ?_
      refine mr_getr (r := a + 2) (TT := TX1) (N := 2) C0 uX1_listsByLast_X1 hM hO.1.1 hO.1.2 rfl 1 (by decide) rfl kX1_listsByLast_f15 rfl dX1_listsByLast_22 ?_
      refine lv_iload hx hb dX1_listsByLast_25 (lv_at hl 4 rfl) ?_
      refine mr_ialdN (v := I (a + 2) i5) C0 hM hO.2.2.1 hO.2.2.2 (by decide) (by omega) rfl dX1_listsByLast_27 ?_
      refine lv_iload_n hx hb dX1_listsByLast_28 rfl (lv_at hl 1 rfl) ?_
      refine lv_iand hx hb dX1_listsByLast_29 ?_
      refine lv_if_ne (tgt := 47) hx hb dX1_listsByLast_30 (by decide) (fun c7 => ?_) (fun c7 => ?_)
      · skip
        refine lv_iinc (v := nI (i5 + 1)) (lv' := [(5, .int (nI (i5 + 1))), (0, .ref a), (1, .int (nI u)), (2, .ref ja), (3, .long x5)]) hx hb dX1_listsByLast_47 hl (k := 4) rfl (nI_1 _) (by decide) rfl (fun ls hl => ?_)
        refine lv_goto (tgt := 5) hx hb dX1_listsByLast_50 (by decide) ?_
        exact stp4 x5 (by rw [if_pos c6, if_neg c7]) H locs ls hM hS (lv_sub hl [1, 2, 3, 4, 0] rfl)
      · skip
        refine lv_lload_n hx hb dX1_listsByLast_33 rfl (lv_at hl 3 rfl) ?_
        refine lv_aload_n hx hb dX1_listsByLast_34 rfl (lv_at hl 2 rfl) ?_
        refine lv_iload_n hx hb dX1_listsByLast_35 rfl (lv_at hl 1 rfl) ?_
        refine lv_iload hx hb dX1_listsByLast_36 (lv_at hl 4 rfl) ?_
        refine mr_callSN (As := [.int (nI i5)]) C0 (ctX3_setOf (I := I) (J := J) (s0 := (nI i5)) ) (va_cnB (own := RX1) (index := 29) 1 C0.1.2.2.2.2 ggX1_listsByLast_X3_setOf rfl rfl rfl C0.2.2.2.2.2.1 (C0.1.2.2.2.2 _ (List.mem_of_getElem? (i := 3) rfl)) (by decide +kernel) (by rw [hR]; exact ⟨Nat.le_of_ble_eq_true rfl, Nat.le_of_ble_eq_true rfl⟩)) (C0.1.2.2.2.2 _ (List.mem_of_getElem? (i := 5) rfl)) hM hS rfl rfl rfl hl.1 (Nat.le_of_ble_eq_true rfl) dX1_listsByLast_38 (by rw [hR]; exact ⟨Nat.zero_le _, Nat.zero_le _⟩) (fun H locs hM hS => ?_)
        refine lv_iconst (v := (-1)) hx hb dX1_listsByLast_41 (by decide) ?_
        refine lv_ixor hx hb dX1_listsByLast_42 ?_
        refine lv_iand hx hb dX1_listsByLast_43 ?_
        have hw8 := clr_lt (u := u) (by omega) ((fX3_setOf (nI i5)) ^^^ (-1))
        refine mr_top (y := nI (((nI u) &&& ((fX3_setOf (nI i5)) ^^^ (-1))).toNatClampNeg)) hw8.2 ?_
        refine mr_laldN (v := J ja (((nI u) &&& ((fX3_setOf (nI i5)) ^^^ (-1))).toNatClampNeg)) C0 hM hJ.1 hJ.2 (by decide) (by omega) rfl dX1_listsByLast_44 ?_
        refine lv_ladd hx hb dX1_listsByLast_45 ?_
        refine lv_lstore_n (lv' := [(3, .long (x5 + (J ja (((nI u) &&& ((fX3_setOf (nI i5)) ^^^ (-1))).toNatClampNeg)))), (0, .ref a), (1, .int (nI u)), (2, .ref ja), (5, .int (nI i5))]) hx hb dX1_listsByLast_46 rfl hl (by decide) rfl (fun ls hl => ?_)
        refine lv_iinc (v := nI (i5 + 1)) (lv' := [(5, .int (nI (i5 + 1))), (3, .long (x5 + (J ja (((nI u) &&& ((fX3_setOf (nI i5)) ^^^ (-1))).toNatClampNeg)))), (0, .ref a), (1, .int (nI u)), (2, .ref ja)]) hx hb dX1_listsByLast_47 hl (k := 4) rfl (nI_1 _) (by decide) rfl (fun ls hl => ?_)
        refine lv_goto (tgt := 5) hx hb dX1_listsByLast_50 (by decide) ?_
        exact stp4 (x5 + (J ja (((nI u) &&& ((fX3_setOf (nI i5)) ^^^ (-1))).toNatClampNeg))) (by rw [if_pos c6, if_pos c7]) H locs ls hM hS (lv_sub hl [2, 3, 4, 1, 0] rfl)
  · skip
    refine lv_iload hx hb dX1_listsByLast_5 (lv_at hl 4 rfl) ?_
    refine lv_bipush (v := nI 8) hx hb dX1_listsByLast_7 (by decide) ?_
    refine mr_geN (x := 8) (y := 8) (tgt := 53) C0 dX1_listsByLast_9 (by decide) (by decide) (by decide) (fun _ => ?_) (fun c9 => absurd c9 (by decide))
    refine lv_lload_n hx hb dX1_listsByLast_53 rfl (lv_at hl 3 rfl) ?_
    have eF : (lp 8 (fun i5 x5 => if fX3_isIn (nI u) (nI i5) = true then if (I (a + 2) i5) &&& (nI u) = 0 then x5 + (J ja (((nI u) &&& ((fX3_setOf (nI i5)) ^^^ (-1))).toNatClampNeg)) else x5 else x5) 0) = fX1_listsByLast I J a u ja := rfl
    exact mr_lret (v := (lp 8 (fun i5 x5 => if fX3_isIn (nI u) (nI i5) = true then if (I (a + 2) i5) &&& (nI u) = 0 then x5 + (J ja (((nI u) &&& ((fX3_setOf (nI i5)) ^^^ (-1))).toNatClampNeg)) else x5 else x5) 0)) C0 hr hlk hQ hS (by rw [← eF]) hM (Nat.le_refl _) (Nat.le_refl _) dX1_listsByLast_54
def fX1_countLists (I : hm_I) (J : hm_J) (a u ja : Nat) : Int64 × hm_J :=
  ((lp u (fun i18 x18 => if (nI (i18 + 1)) &&& ((nI u) ^^^ (-1)) = 0 then hm_putJ x18 ja (i18 + 1) (fX1_listsByLast I x18 a (i18 + 1) ja) else hm_putJ x18 ja (i18 + 1) 0) (hm_putJ J ja 0 1)) ja u, (lp u (fun i18 x18 => if (nI (i18 + 1)) &&& ((nI u) ^^^ (-1)) = 0 then hm_putJ x18 ja (i18 + 1) (fX1_listsByLast I x18 a (i18 + 1) ja) else hm_putJ x18 ja (i18 + 1) 0) (hm_putJ J ja 0 1)))
set_option maxHeartbeats 4000000 in
set_option maxRecDepth 100000 in
theorem ctX1_countLists {l : Launch} {D : va_G} {T : Nat → ClassId} {L : List Nat} {A : Nat → Prop} {Sh : hm_S} {I : hm_I} {J : hm_J} {a : Nat} (hO : IsO L Sh a) {u : Nat} (hu : u < 256) {ja : Nat} (hJ : ja ∈ L ∧ Sh ja = kJ 256) :
    Ct l yX1_countLists wsX1_countLists { frames := 2, cells := 0, slots := 0, locals := 46 } 0 0 D T A [.ref a, .int (nI u), .ref ja] (hm D T L A Sh I J) (some (.long ((fX1_countLists I J a u ja).1))) (hm D T L A Sh I ((fX1_countLists I J a u ja).2)) := by
  refine Ct.ofW (cc := cX1_countLists) (maxL := 4) (ret := (some .long)) (by decide) rfl (Nat.le_of_ble_eq_true rfl) ?_
  intro p_ e_ s_ m_ args_ below_ meth_ c_ ls R Qq hR hQ C0 hr hlk hname hM hl
  have hx := C0.1.1
  have hb := C0.1.2.1
  have hS : va_S A s_.heap s_.heap [] := va_S.rf
  have hl : lv_has ls 4 [(0, .ref a), (1, .int (nI u)), (2, .ref ja)] := hl
  refine lv_iload_n hx hb dX1_countLists_0 rfl (lv_at hl 1 rfl) ?_
  refine lv_if_lt (tgt := 10) hx hb dX1_countLists_1 (by decide) (fun c1 => absurd c1 (nI_pos (by omega))) (fun c1 => ?_)
  refine lv_iload_n hx hb dX1_countLists_4 rfl (lv_at hl 1 rfl) ?_
  refine lv_aload_n hx hb dX1_countLists_5 rfl (lv_at hl 2 rfl) ?_
  refine mr_alenJ C0 hM hJ.1 hJ.2 dX1_countLists_6 ?_
  refine mr_ltN (x := u) (y := 256) (tgt := 12) C0 dX1_countLists_7 (by decide) (by omega) (by omega) (fun c2 => ?_) (fun c2 => absurd c2 (by omega))
  refine lv_aload_n hx hb dX1_countLists_12 rfl (lv_at hl 2 rfl) ?_
  refine lv_iconst (v := nI 0) hx hb dX1_countLists_13 (by decide) ?_
  refine lv_lconst (v := 1) hx hb dX1_countLists_14 (by decide) ?_
  refine mr_lastN C0 hM hS hJ.1 hJ.2 (by decide) (by decide) dX1_countLists_15 (fun H locs hM hS => ?_)
  refine lv_iconst (v := nI 1) hx hb dX1_countLists_16 (by decide) ?_
  refine lv_istore_n (lv' := [(3, .int (nI 1)), (0, .ref a), (1, .int (nI u)), (2, .ref ja)]) hx hb dX1_countLists_17 rfl hl (by decide) rfl (fun ls hl => ?_)
  refine lp_loop (σ := hm_J) (fun i18 x18 => ∀ (H : Heap) (locs : List Loc) (ls : Array Slot), hm D T L A Sh I x18 H → va_S A s_.heap H locs → lv_has ls 4 [(0, .ref a), (1, .int (nI u)), (2, .ref ja), (3, .int (nI (i18 + 1)))] → W p_ l e_ R s_ m_ args_ below_ meth_ c_ H locs 0 0 Qq (F0 m_ 18 ls [])) u (fun i18 x18 => if (nI (i18 + 1)) &&& ((nI u) ^^^ (-1)) = 0 then hm_putJ x18 ja (i18 + 1) (fX1_listsByLast I x18 a (i18 + 1) ja) else hm_putJ x18 ja (i18 + 1) 0) (hm_putJ J ja 0 1) (fun _ _ => True) trivial (fun _ _ _ _ => trivial) (fun i18 x18 hi3 hv4 k5 H locs ls hM hS hl => ?_) (fun hv4 H locs ls hM hS hl => ?_) _ _ _ hM hS (lv_sub hl [1, 2, 3, 0] rfl)
  · have stp6 : ∀ yy_ : hm_J, yy_ = (if (nI (i18 + 1)) &&& ((nI u) ^^^ (-1)) = 0 then hm_putJ x18 ja (i18 + 1) (fX1_listsByLast I x18 a (i18 + 1) ja) else hm_putJ x18 ja (i18 + 1) 0) → ∀ (H : Heap) (locs : List Loc) (ls : Array Slot), hm D T L A Sh I yy_ H → va_S A s_.heap H locs → lv_has ls 4 [(0, .ref a), (1, .int (nI u)), (2, .ref ja), (3, .int (nI ((i18 + 1) + 1)))] → W p_ l e_ R s_ m_ args_ below_ meth_ c_ H locs 0 0 Qq (F0 m_ 18 ls []) := fun yy_ ey => by rw [ey]; exact k5
    refine lv_iload_n hx hb dX1_countLists_18 rfl (lv_at hl 3 rfl) ?_
    refine lv_iload_n hx hb dX1_countLists_19 rfl (lv_at hl 1 rfl) ?_
    refine mr_gtN (x := i18 + 1) (y := u) (tgt := 50) C0 dX1_countLists_20 (by decide) (by omega) (by omega) (fun c7 => absurd c7 (by omega)) (fun c7 => ?_)
    refine lv_aload_n hx hb dX1_countLists_23 rfl (lv_at hl 2 rfl) ?_
    refine lv_iload_n hx hb dX1_countLists_24 rfl (lv_at hl 3 rfl) ?_
    refine lv_iload_n hx hb dX1_countLists_25 rfl (lv_at hl 3 rfl) ?_
    refine lv_iload_n hx hb dX1_countLists_26 rfl (lv_at hl 1 rfl) ?_
    refine lv_iconst (v := (-1)) hx hb dX1_countLists_27 (by decide) ?_
    refine lv_ixor hx hb dX1_countLists_28 ?_
    refine lv_iand hx hb dX1_countLists_29 ?_
    refine lv_if_ne (tgt := 42) hx hb dX1_countLists_30 (by decide) (fun c8 => ?_) (fun c8 => ?_)
    · skip
      refine lv_lconst (v := 0) hx hb dX1_countLists_42 (by decide) ?_
      refine mr_lastN C0 hM hS hJ.1 hJ.2 (by decide) (by omega) dX1_countLists_43 (fun H locs hM hS => ?_)
      refine lv_iinc (v := nI (i18 + 1 + 1)) (lv' := [(3, .int (nI (i18 + 1 + 1))), (0, .ref a), (1, .int (nI u)), (2, .ref ja)]) hx hb dX1_countLists_44 hl (k := 3) rfl (nI_1 _) (by decide) rfl (fun ls hl => ?_)
      refine lv_goto (tgt := 18) hx hb dX1_countLists_47 (by decide) ?_
      exact stp6 (hm_putJ x18 ja (i18 + 1) 0) (by rw [if_neg c8]) H locs ls hM hS (lv_sub hl [1, 2, 3, 0] rfl)
    · skip
      refine lv_aload_n hx hb dX1_countLists_33 rfl (lv_at hl 0 rfl) ?_
      refine lv_iload_n hx hb dX1_countLists_34 rfl (lv_at hl 3 rfl) ?_
      refine lv_aload_n hx hb dX1_countLists_35 rfl (lv_at hl 2 rfl) ?_
      refine mr_callV (As := [.int (nI (i18 + 1)), .ref ja]) C0 (ctX1_listsByLast (I := I) (J := x18) (a := a) (u := (i18 + 1)) (ja := ja) hO (by omega) ⟨hJ.1, hJ.2⟩) (cwV 2 C0.1.2.2.2.2 gX1_countLists_X1_listsByLast rfl rfl rfl (by decide +kernel) (by rw [hR]; exact ⟨Nat.le_of_ble_eq_true rfl, Nat.le_of_ble_eq_true rfl⟩)) hM hO.1.1 hO.1.2 rfl rfl hM hS rfl rfl rfl hl.1 (Nat.le_of_ble_eq_true rfl) dX1_countLists_36 (by rw [hR]; exact ⟨Nat.zero_le _, Nat.zero_le _⟩) (fun H locs hM hS => ?_)
      refine lv_goto (tgt := 43) hx hb dX1_countLists_39 (by decide) ?_
      refine mr_lastN C0 hM hS hJ.1 hJ.2 (by decide) (by omega) dX1_countLists_43 (fun H locs hM hS => ?_)
      refine lv_iinc (v := nI (i18 + 1 + 1)) (lv' := [(3, .int (nI (i18 + 1 + 1))), (0, .ref a), (1, .int (nI u)), (2, .ref ja)]) hx hb dX1_countLists_44 hl (k := 3) rfl (nI_1 _) (by decide) rfl (fun ls hl => ?_)
      refine lv_goto (tgt := 18) hx hb dX1_countLists_47 (by decide) ?_
      exact stp6 (hm_putJ x18 ja (i18 + 1) (fX1_listsByLast I x18 a (i18 + 1) ja)) (by rw [if_pos c8]) H locs ls hM hS (lv_sub hl [1, 2, 3, 0] rfl)
  · skip
    refine lv_iload_n hx hb dX1_countLists_18 rfl (lv_at hl 3 rfl) ?_
    refine lv_iload_n hx hb dX1_countLists_19 rfl (lv_at hl 1 rfl) ?_
    refine mr_gtN (x := u + 1) (y := u) (tgt := 50) C0 dX1_countLists_20 (by decide) (by omega) (by omega) (fun c9 => ?_) (fun c9 => absurd c9 (by omega))
    refine lv_aload_n hx hb dX1_countLists_50 rfl (lv_at hl 2 rfl) ?_
    refine lv_iload_n hx hb dX1_countLists_51 rfl (lv_at hl 1 rfl) ?_
    refine mr_laldN (v := (lp u (fun i18 x18 => if (nI (i18 + 1)) &&& ((nI u) ^^^ (-1)) = 0 then hm_putJ x18 ja (i18 + 1) (fX1_listsByLast I x18 a (i18 + 1) ja) else hm_putJ x18 ja (i18 + 1) 0) (hm_putJ J ja 0 1)) ja u) C0 hM hJ.1 hJ.2 (by decide) (by omega) rfl dX1_countLists_52 ?_
    have eF : ((lp u (fun i18 x18 => if (nI (i18 + 1)) &&& ((nI u) ^^^ (-1)) = 0 then hm_putJ x18 ja (i18 + 1) (fX1_listsByLast I x18 a (i18 + 1) ja) else hm_putJ x18 ja (i18 + 1) 0) (hm_putJ J ja 0 1)) ja u, (lp u (fun i18 x18 => if (nI (i18 + 1)) &&& ((nI u) ^^^ (-1)) = 0 then hm_putJ x18 ja (i18 + 1) (fX1_listsByLast I x18 a (i18 + 1) ja) else hm_putJ x18 ja (i18 + 1) 0) (hm_putJ J ja 0 1))) = fX1_countLists I J a u ja := rfl
    exact mr_lret (v := (lp u (fun i18 x18 => if (nI (i18 + 1)) &&& ((nI u) ^^^ (-1)) = 0 then hm_putJ x18 ja (i18 + 1) (fX1_listsByLast I x18 a (i18 + 1) ja) else hm_putJ x18 ja (i18 + 1) 0) (hm_putJ J ja 0 1)) ja u) C0 hr hlk hQ hS (by rw [← eF]) (by rw [← eF]; exact hM) (Nat.le_refl _) (Nat.le_refl _) dX1_countLists_53
