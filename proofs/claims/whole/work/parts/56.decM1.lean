theorem dX12_automaton_66 : decode cX12_automaton 66 = .ok (.ireturn, 1) := by decide +kernel
theorem dX12_automaton_67 : decode cX12_automaton 67 = .ok (.aload_n 0, 1) := by decide +kernel
theorem dX12_automaton_68 : decode cX12_automaton 68 = .ok (.aload_n 0, 1) := by decide +kernel
theorem dX12_automaton_69 : decode cX12_automaton 69 = .ok (.getfield 20, 3) := by decide +kernel
theorem dX12_automaton_72 : decode cX12_automaton 72 = .ok (.iload_n 1, 1) := by decide +kernel
theorem dX12_automaton_73 : decode cX12_automaton 73 = .ok (.iaload, 1) := by decide +kernel
theorem dX12_automaton_74 : decode cX12_automaton 74 = .ok (.invokevirtual 288, 3) := by decide +kernel
theorem dX12_automaton_77 : decode cX12_automaton 77 = .ok (.ireturn, 1) := by decide +kernel
theorem dX12_automaton_78 : decode cX12_automaton 78 = .ok (.aload_n 0, 1) := by decide +kernel
theorem dX12_automaton_79 : decode cX12_automaton 79 = .ok (.aload_n 0, 1) := by decide +kernel
theorem dX12_automaton_80 : decode cX12_automaton 80 = .ok (.getfield 23, 3) := by decide +kernel
theorem dX12_automaton_83 : decode cX12_automaton 83 = .ok (.iload_n 1, 1) := by decide +kernel
theorem dX12_automaton_84 : decode cX12_automaton 84 = .ok (.iaload, 1) := by decide +kernel
theorem dX12_automaton_85 : decode cX12_automaton 85 = .ok (.invokevirtual 288, 3) := by decide +kernel
theorem dX12_automaton_88 : decode cX12_automaton 88 = .ok (.ireturn, 1) := by decide +kernel
theorem dX12_automaton_89 : decode cX12_automaton 89 = .ok (.aload_n 0, 1) := by decide +kernel
theorem dX12_automaton_90 : decode cX12_automaton 90 = .ok (.aload_n 0, 1) := by decide +kernel
theorem dX12_automaton_91 : decode cX12_automaton 91 = .ok (.iload_n 1, 1) := by decide +kernel
theorem dX12_automaton_92 : decode cX12_automaton 92 = .ok (.invokevirtual 294, 3) := by decide +kernel
theorem dX12_automaton_95 : decode cX12_automaton 95 = .ok (.invokevirtual 288, 3) := by decide +kernel
theorem dX12_automaton_98 : decode cX12_automaton 98 = .ok (.ireturn, 1) := by decide +kernel
theorem dX12_automaton_99 : decode cX12_automaton 99 = .ok (.aload_n 0, 1) := by decide +kernel
theorem dX12_automaton_100 : decode cX12_automaton 100 = .ok (.aload_n 0, 1) := by decide +kernel
theorem dX12_automaton_101 : decode cX12_automaton 101 = .ok (.getfield 283, 3) := by decide +kernel
theorem dX12_automaton_104 : decode cX12_automaton 104 = .ok (.invokevirtual 288, 3) := by decide +kernel
theorem dX12_automaton_107 : decode cX12_automaton 107 = .ok (.ireturn, 1) := by decide +kernel
theorem dX12_automaton_108 : decode cX12_automaton 108 = .ok (.aload_n 0, 1) := by decide +kernel
theorem dX12_automaton_109 : decode cX12_automaton 109 = .ok (.iconst 1, 1) := by decide +kernel
theorem dX12_automaton_110 : decode cX12_automaton 110 = .ok (.invokevirtual 270, 3) := by decide +kernel
theorem dX12_automaton_113 : decode cX12_automaton 113 = .ok (.ireturn, 1) := by decide +kernel
theorem dX12_edgeMany_0 : decode cX12_edgeMany 0 = .ok (.iconst 0, 1) := by decide +kernel
theorem dX12_edgeMany_1 : decode cX12_edgeMany 1 = .ok (.istore_n 2, 1) := by decide +kernel
theorem dX12_edgeMany_2 : decode cX12_edgeMany 2 = .ok (.iconst 0, 1) := by decide +kernel
theorem dX12_edgeMany_3 : decode cX12_edgeMany 3 = .ok (.istore_n 3, 1) := by decide +kernel
theorem dX12_edgeMany_4 : decode cX12_edgeMany 4 = .ok (.iload_n 3, 1) := by decide +kernel
theorem dX12_edgeMany_5 : decode cX12_edgeMany 5 = .ok (.bipush 16, 2) := by decide +kernel
theorem dX12_edgeMany_7 : decode cX12_edgeMany 7 = .ok (.if_icmp .ge 26, 3) := by decide +kernel
theorem dX12_edgeMany_10 : decode cX12_edgeMany 10 = .ok (.iload_n 2, 1) := by decide +kernel
theorem dX12_edgeMany_11 : decode cX12_edgeMany 11 = .ok (.aload_n 0, 1) := by decide +kernel
theorem dX12_edgeMany_12 : decode cX12_edgeMany 12 = .ok (.getfield 26, 3) := by decide +kernel
theorem dX12_edgeMany_15 : decode cX12_edgeMany 15 = .ok (.bipush 16, 2) := by decide +kernel
theorem dX12_edgeMany_17 : decode cX12_edgeMany 17 = .ok (.iload_n 1, 1) := by decide +kernel
theorem dX12_edgeMany_18 : decode cX12_edgeMany 18 = .ok (.imul, 1) := by decide +kernel
theorem dX12_edgeMany_19 : decode cX12_edgeMany 19 = .ok (.iload_n 3, 1) := by decide +kernel
theorem dX12_edgeMany_20 : decode cX12_edgeMany 20 = .ok (.iadd, 1) := by decide +kernel
theorem dX12_edgeMany_21 : decode cX12_edgeMany 21 = .ok (.iaload, 1) := by decide +kernel
theorem dX12_edgeMany_22 : decode cX12_edgeMany 22 = .ok (.invokestatic 297, 3) := by decide +kernel
theorem dX12_edgeMany_25 : decode cX12_edgeMany 25 = .ok (.iadd, 1) := by decide +kernel
theorem dX12_edgeMany_26 : decode cX12_edgeMany 26 = .ok (.istore_n 2, 1) := by decide +kernel
theorem dX12_edgeMany_27 : decode cX12_edgeMany 27 = .ok (.iinc 3 1, 3) := by decide +kernel
theorem dX12_edgeMany_30 : decode cX12_edgeMany 30 = .ok (.goto (-26), 3) := by decide +kernel
theorem dX12_edgeMany_33 : decode cX12_edgeMany 33 = .ok (.iload_n 2, 1) := by decide +kernel
theorem dX12_edgeMany_34 : decode cX12_edgeMany 34 = .ok (.ireturn, 1) := by decide +kernel
theorem dX12_edgesOf_0 : decode cX12_edgesOf 0 = .ok (.aload_n 0, 1) := by decide +kernel
theorem dX12_edgesOf_1 : decode cX12_edgesOf 1 = .ok (.getfield 26, 3) := by decide +kernel
theorem dX12_edgesOf_4 : decode cX12_edgesOf 4 = .ok (.bipush 16, 2) := by decide +kernel
theorem dX12_edgesOf_6 : decode cX12_edgesOf 6 = .ok (.iload_n 1, 1) := by decide +kernel
theorem dX12_edgesOf_7 : decode cX12_edgesOf 7 = .ok (.imul, 1) := by decide +kernel
theorem dX12_edgesOf_8 : decode cX12_edgesOf 8 = .ok (.iconst 4, 1) := by decide +kernel
theorem dX12_edgesOf_9 : decode cX12_edgesOf 9 = .ok (.iload_n 2, 1) := by decide +kernel
theorem dX12_edgesOf_10 : decode cX12_edgesOf 10 = .ok (.imul, 1) := by decide +kernel
theorem dX12_edgesOf_11 : decode cX12_edgesOf 11 = .ok (.iadd, 1) := by decide +kernel
theorem dX12_edgesOf_12 : decode cX12_edgesOf 12 = .ok (.iload_n 3, 1) := by decide +kernel
theorem dX12_edgesOf_13 : decode cX12_edgesOf 13 = .ok (.iadd, 1) := by decide +kernel
theorem dX12_edgesOf_14 : decode cX12_edgesOf 14 = .ok (.iaload, 1) := by decide +kernel
theorem dX12_edgesOf_15 : decode cX12_edgesOf 15 = .ok (.ireturn, 1) := by decide +kernel
theorem dX12_edge_0 : decode cX12_edge 0 = .ok (.aload_n 0, 1) := by decide +kernel
theorem dX12_edge_1 : decode cX12_edge 1 = .ok (.iconst 0, 1) := by decide +kernel
theorem dX12_edge_2 : decode cX12_edge 2 = .ok (.putfield 131, 3) := by decide +kernel
theorem dX12_edge_5 : decode cX12_edge 5 = .ok (.aload_n 0, 1) := by decide +kernel
theorem dX12_edge_6 : decode cX12_edge 6 = .ok (.iload_n 1, 1) := by decide +kernel
theorem dX12_edge_7 : decode cX12_edge 7 = .ok (.iload_n 2, 1) := by decide +kernel
theorem dX12_edge_8 : decode cX12_edge 8 = .ok (.invokevirtual 302, 3) := by decide +kernel
theorem dX12_edge_11 : decode cX12_edge 11 = .ok (.ifCond .eq 21, 3) := by decide +kernel
theorem dX12_edge_14 : decode cX12_edge 14 = .ok (.aload_n 0, 1) := by decide +kernel
theorem dX12_edge_15 : decode cX12_edge 15 = .ok (.iload_n 3, 1) := by decide +kernel
theorem dX12_edge_16 : decode cX12_edge 16 = .ok (.invokevirtual 306, 3) := by decide +kernel
theorem dX12_edge_19 : decode cX12_edge 19 = .ok (.ifCond .eq 13, 3) := by decide +kernel
theorem dX12_edge_22 : decode cX12_edge 22 = .ok (.aload_n 0, 1) := by decide +kernel
theorem dX12_edge_23 : decode cX12_edge 23 = .ok (.iload_n 1, 1) := by decide +kernel
theorem dX12_edge_24 : decode cX12_edge 24 = .ok (.iload 4, 2) := by decide +kernel
theorem dX12_edge_26 : decode cX12_edge 26 = .ok (.invokevirtual 302, 3) := by decide +kernel
theorem dX12_edge_29 : decode cX12_edge 29 = .ok (.ifCond .ne 9, 3) := by decide +kernel
theorem dX12_edge_32 : decode cX12_edge 32 = .ok (.aload_n 0, 1) := by decide +kernel
theorem dX12_edge_33 : decode cX12_edge 33 = .ok (.iconst 1, 1) := by decide +kernel
theorem dX12_edge_34 : decode cX12_edge 34 = .ok (.invokevirtual 270, 3) := by decide +kernel
theorem dX12_edge_37 : decode cX12_edge 37 = .ok (.ireturn, 1) := by decide +kernel
theorem dX12_edge_38 : decode cX12_edge 38 = .ok (.aload_n 0, 1) := by decide +kernel
theorem dX12_edge_39 : decode cX12_edge 39 = .ok (.aload_n 0, 1) := by decide +kernel
theorem dX12_edge_40 : decode cX12_edge 40 = .ok (.iload_n 1, 1) := by decide +kernel
theorem dX12_edge_41 : decode cX12_edge 41 = .ok (.iload_n 3, 1) := by decide +kernel
theorem dX12_edge_42 : decode cX12_edge 42 = .ok (.iload_n 2, 1) := by decide +kernel
theorem dX12_edge_43 : decode cX12_edge 43 = .ok (.invokevirtual 309, 3) := by decide +kernel
theorem dX12_edge_46 : decode cX12_edge 46 = .ok (.iload 4, 2) := by decide +kernel
theorem dX12_edge_48 : decode cX12_edge 48 = .ok (.ishr, 1) := by decide +kernel
theorem dX12_edge_49 : decode cX12_edge 49 = .ok (.iconst 1, 1) := by decide +kernel
theorem dX12_edge_50 : decode cX12_edge 50 = .ok (.iand, 1) := by decide +kernel
theorem dX12_edge_51 : decode cX12_edge 51 = .ok (.invokevirtual 288, 3) := by decide +kernel
theorem dX12_edge_54 : decode cX12_edge 54 = .ok (.ireturn, 1) := by decide +kernel
theorem dX12_afterOf_0 : decode cX12_afterOf 0 = .ok (.iconst 0, 1) := by decide +kernel
theorem dX12_afterOf_1 : decode cX12_afterOf 1 = .ok (.istore 4, 2) := by decide +kernel
theorem dX12_afterOf_3 : decode cX12_afterOf 3 = .ok (.iconst 0, 1) := by decide +kernel
theorem dX12_afterOf_4 : decode cX12_afterOf 4 = .ok (.istore 5, 2) := by decide +kernel
theorem dX12_afterOf_6 : decode cX12_afterOf 6 = .ok (.iload 5, 2) := by decide +kernel
theorem dX12_afterOf_8 : decode cX12_afterOf 8 = .ok (.iconst 4, 1) := by decide +kernel
theorem dX12_afterOf_9 : decode cX12_afterOf 9 = .ok (.if_icmp .ge 32, 3) := by decide +kernel
theorem dX12_afterOf_12 : decode cX12_afterOf 12 = .ok (.iload_n 2, 1) := by decide +kernel
theorem dX12_afterOf_13 : decode cX12_afterOf 13 = .ok (.iload 5, 2) := by decide +kernel
theorem dX12_afterOf_15 : decode cX12_afterOf 15 = .ok (.ishr, 1) := by decide +kernel
theorem dX12_afterOf_16 : decode cX12_afterOf 16 = .ok (.iconst 1, 1) := by decide +kernel
theorem dX12_afterOf_17 : decode cX12_afterOf 17 = .ok (.iand, 1) := by decide +kernel
theorem dX12_afterOf_18 : decode cX12_afterOf 18 = .ok (.iconst 1, 1) := by decide +kernel
theorem dX12_afterOf_19 : decode cX12_afterOf 19 = .ok (.if_icmp .ne 16, 3) := by decide +kernel
theorem dX12_afterOf_22 : decode cX12_afterOf 22 = .ok (.iload 4, 2) := by decide +kernel
theorem dX12_afterOf_24 : decode cX12_afterOf 24 = .ok (.aload_n 0, 1) := by decide +kernel
theorem dX12_afterOf_25 : decode cX12_afterOf 25 = .ok (.iload_n 1, 1) := by decide +kernel
theorem dX12_afterOf_26 : decode cX12_afterOf 26 = .ok (.iload_n 3, 1) := by decide +kernel
theorem dX12_afterOf_27 : decode cX12_afterOf 27 = .ok (.iload 5, 2) := by decide +kernel
theorem dX12_afterOf_29 : decode cX12_afterOf 29 = .ok (.invokevirtual 309, 3) := by decide +kernel
theorem dX12_afterOf_32 : decode cX12_afterOf 32 = .ok (.ior, 1) := by decide +kernel
theorem dX12_afterOf_33 : decode cX12_afterOf 33 = .ok (.istore 4, 2) := by decide +kernel
theorem dX12_afterOf_35 : decode cX12_afterOf 35 = .ok (.iinc 5 1, 3) := by decide +kernel
theorem dX12_afterOf_38 : decode cX12_afterOf 38 = .ok (.goto (-32), 3) := by decide +kernel
theorem dX12_afterOf_41 : decode cX12_afterOf 41 = .ok (.iload 4, 2) := by decide +kernel
theorem dX12_afterOf_43 : decode cX12_afterOf 43 = .ok (.ireturn, 1) := by decide +kernel
theorem dX12_after_0 : decode cX12_after 0 = .ok (.aload_n 0, 1) := by decide +kernel
theorem dX12_after_1 : decode cX12_after 1 = .ok (.iconst 0, 1) := by decide +kernel
theorem dX12_after_2 : decode cX12_after 2 = .ok (.putfield 131, 3) := by decide +kernel
theorem dX12_after_5 : decode cX12_after 5 = .ok (.aload_n 0, 1) := by decide +kernel
theorem dX12_after_6 : decode cX12_after 6 = .ok (.iload_n 1, 1) := by decide +kernel
theorem dX12_after_7 : decode cX12_after 7 = .ok (.invokevirtual 291, 3) := by decide +kernel
theorem dX12_after_10 : decode cX12_after 10 = .ok (.ifCond .eq 11, 3) := by decide +kernel
theorem dX12_after_13 : decode cX12_after 13 = .ok (.aload_n 0, 1) := by decide +kernel
theorem dX12_after_14 : decode cX12_after 14 = .ok (.iload_n 3, 1) := by decide +kernel
theorem dX12_after_15 : decode cX12_after 15 = .ok (.invokevirtual 306, 3) := by decide +kernel
theorem dX12_after_18 : decode cX12_after 18 = .ok (.ifCond .ne 9, 3) := by decide +kernel
theorem dX12_after_21 : decode cX12_after 21 = .ok (.aload_n 0, 1) := by decide +kernel
theorem dX12_after_22 : decode cX12_after 22 = .ok (.iconst 1, 1) := by decide +kernel
theorem dX12_after_23 : decode cX12_after 23 = .ok (.invokevirtual 270, 3) := by decide +kernel
theorem dX12_after_26 : decode cX12_after 26 = .ok (.ireturn, 1) := by decide +kernel
theorem dX12_after_27 : decode cX12_after 27 = .ok (.aload_n 0, 1) := by decide +kernel
theorem dX12_after_28 : decode cX12_after 28 = .ok (.iload_n 1, 1) := by decide +kernel
theorem dX12_after_29 : decode cX12_after 29 = .ok (.iload_n 2, 1) := by decide +kernel
theorem dX12_after_30 : decode cX12_after 30 = .ok (.invokevirtual 313, 3) := by decide +kernel
theorem dX12_after_33 : decode cX12_after 33 = .ok (.ifCond .eq 17, 3) := by decide +kernel
theorem dX12_after_36 : decode cX12_after 36 = .ok (.aload_n 0, 1) := by decide +kernel
theorem dX12_after_37 : decode cX12_after 37 = .ok (.aload_n 0, 1) := by decide +kernel
theorem dX12_after_38 : decode cX12_after 38 = .ok (.iload_n 1, 1) := by decide +kernel
theorem dX12_after_39 : decode cX12_after 39 = .ok (.iload_n 2, 1) := by decide +kernel
theorem dX12_after_40 : decode cX12_after 40 = .ok (.iload_n 3, 1) := by decide +kernel
theorem dX12_after_41 : decode cX12_after 41 = .ok (.invokevirtual 316, 3) := by decide +kernel
theorem dX12_after_44 : decode cX12_after 44 = .ok (.invokevirtual 288, 3) := by decide +kernel
theorem dX12_after_47 : decode cX12_after 47 = .ok (.goto 8, 3) := by decide +kernel
theorem dX12_after_50 : decode cX12_after 50 = .ok (.aload_n 0, 1) := by decide +kernel
theorem dX12_after_51 : decode cX12_after 51 = .ok (.iconst 2, 1) := by decide +kernel
theorem dX12_after_52 : decode cX12_after 52 = .ok (.invokevirtual 270, 3) := by decide +kernel
theorem dX12_after_55 : decode cX12_after 55 = .ok (.ireturn, 1) := by decide +kernel
theorem dX12_firstRanking_0 : decode cX12_firstRanking 0 = .ok (.iconst 0, 1) := by decide +kernel
theorem dX12_firstRanking_1 : decode cX12_firstRanking 1 = .ok (.istore_n 1, 1) := by decide +kernel
theorem dX12_firstRanking_2 : decode cX12_firstRanking 2 = .ok (.iload_n 1, 1) := by decide +kernel
theorem dX12_firstRanking_3 : decode cX12_firstRanking 3 = .ok (.iconst 4, 1) := by decide +kernel
theorem dX12_firstRanking_4 : decode cX12_firstRanking 4 = .ok (.if_icmp .ge 16, 3) := by decide +kernel
theorem dX12_firstRanking_7 : decode cX12_firstRanking 7 = .ok (.aload_n 0, 1) := by decide +kernel
theorem dX12_firstRanking_8 : decode cX12_firstRanking 8 = .ok (.getfield 33, 3) := by decide +kernel
theorem dX12_firstRanking_11 : decode cX12_firstRanking 11 = .ok (.iload_n 1, 1) := by decide +kernel
theorem dX12_firstRanking_12 : decode cX12_firstRanking 12 = .ok (.iconst 0, 1) := by decide +kernel
theorem dX12_firstRanking_13 : decode cX12_firstRanking 13 = .ok (.iastore, 1) := by decide +kernel
theorem dX12_firstRanking_14 : decode cX12_firstRanking 14 = .ok (.iinc 1 1, 3) := by decide +kernel
theorem dX12_firstRanking_17 : decode cX12_firstRanking 17 = .ok (.goto (-15), 3) := by decide +kernel
theorem dX12_firstRanking_20 : decode cX12_firstRanking 20 = .ok (.return_, 1) := by decide +kernel
theorem dX12_nextRanking_0 : decode cX12_nextRanking 0 = .ok (.iconst 3, 1) := by decide +kernel
theorem dX12_nextRanking_1 : decode cX12_nextRanking 1 = .ok (.istore_n 3, 1) := by decide +kernel
theorem dX12_nextRanking_2 : decode cX12_nextRanking 2 = .ok (.iload_n 3, 1) := by decide +kernel
theorem dX12_nextRanking_3 : decode cX12_nextRanking 3 = .ok (.ifCond .lt 49, 3) := by decide +kernel
theorem dX12_nextRanking_6 : decode cX12_nextRanking 6 = .ok (.iload_n 1, 1) := by decide +kernel
theorem dX12_nextRanking_7 : decode cX12_nextRanking 7 = .ok (.iload_n 3, 1) := by decide +kernel
theorem dX12_nextRanking_8 : decode cX12_nextRanking 8 = .ok (.ishr, 1) := by decide +kernel
theorem dX12_nextRanking_9 : decode cX12_nextRanking 9 = .ok (.iconst 1, 1) := by decide +kernel
theorem dX12_nextRanking_10 : decode cX12_nextRanking 10 = .ok (.iand, 1) := by decide +kernel
theorem dX12_nextRanking_11 : decode cX12_nextRanking 11 = .ok (.ifCond .ne 6, 3) := by decide +kernel
theorem dX12_nextRanking_14 : decode cX12_nextRanking 14 = .ok (.goto 32, 3) := by decide +kernel
theorem dX12_nextRanking_17 : decode cX12_nextRanking 17 = .ok (.aload_n 0, 1) := by decide +kernel
theorem dX12_nextRanking_18 : decode cX12_nextRanking 18 = .ok (.getfield 33, 3) := by decide +kernel
theorem dX12_nextRanking_21 : decode cX12_nextRanking 21 = .ok (.iload_n 3, 1) := by decide +kernel
theorem dX12_nextRanking_22 : decode cX12_nextRanking 22 = .ok (.iaload, 1) := by decide +kernel
theorem dX12_nextRanking_23 : decode cX12_nextRanking 23 = .ok (.iload_n 2, 1) := by decide +kernel
theorem dX12_nextRanking_24 : decode cX12_nextRanking 24 = .ok (.if_icmp .ge 15, 3) := by decide +kernel
theorem dX12_nextRanking_27 : decode cX12_nextRanking 27 = .ok (.aload_n 0, 1) := by decide +kernel
theorem dX12_nextRanking_28 : decode cX12_nextRanking 28 = .ok (.getfield 33, 3) := by decide +kernel
theorem dX12_nextRanking_31 : decode cX12_nextRanking 31 = .ok (.iload_n 3, 1) := by decide +kernel
theorem dX12_nextRanking_32 : decode cX12_nextRanking 32 = .ok (.dup2, 1) := by decide +kernel
theorem dX12_nextRanking_33 : decode cX12_nextRanking 33 = .ok (.iaload, 1) := by decide +kernel
theorem dX12_nextRanking_34 : decode cX12_nextRanking 34 = .ok (.iconst 1, 1) := by decide +kernel
theorem dX12_nextRanking_35 : decode cX12_nextRanking 35 = .ok (.iadd, 1) := by decide +kernel
theorem dX12_nextRanking_36 : decode cX12_nextRanking 36 = .ok (.iastore, 1) := by decide +kernel
theorem dX12_nextRanking_37 : decode cX12_nextRanking 37 = .ok (.iconst 1, 1) := by decide +kernel
theorem dX12_nextRanking_38 : decode cX12_nextRanking 38 = .ok (.ireturn, 1) := by decide +kernel
theorem dX12_nextRanking_39 : decode cX12_nextRanking 39 = .ok (.aload_n 0, 1) := by decide +kernel
theorem dX12_nextRanking_40 : decode cX12_nextRanking 40 = .ok (.getfield 33, 3) := by decide +kernel
theorem dX12_nextRanking_43 : decode cX12_nextRanking 43 = .ok (.iload_n 3, 1) := by decide +kernel
theorem dX12_nextRanking_44 : decode cX12_nextRanking 44 = .ok (.iconst 0, 1) := by decide +kernel
theorem dX12_nextRanking_45 : decode cX12_nextRanking 45 = .ok (.iastore, 1) := by decide +kernel
theorem dX12_nextRanking_46 : decode cX12_nextRanking 46 = .ok (.iinc 3 (-1), 3) := by decide +kernel
theorem dX12_nextRanking_49 : decode cX12_nextRanking 49 = .ok (.goto (-47), 3) := by decide +kernel
theorem dX12_nextRanking_52 : decode cX12_nextRanking 52 = .ok (.iconst 0, 1) := by decide +kernel
theorem dX12_nextRanking_53 : decode cX12_nextRanking 53 = .ok (.ireturn, 1) := by decide +kernel
theorem dX12_isTight_0 : decode cX12_isTight 0 = .ok (.iconst 0, 1) := by decide +kernel
theorem dX12_isTight_1 : decode cX12_isTight 1 = .ok (.istore 4, 2) := by decide +kernel
theorem dX12_isTight_3 : decode cX12_isTight 3 = .ok (.iconst (-1), 1) := by decide +kernel
theorem dX12_isTight_4 : decode cX12_isTight 4 = .ok (.istore 5, 2) := by decide +kernel
theorem dX12_isTight_6 : decode cX12_isTight 6 = .ok (.iconst 0, 1) := by decide +kernel
theorem dX12_isTight_7 : decode cX12_isTight 7 = .ok (.istore 6, 2) := by decide +kernel
theorem dX12_isTight_9 : decode cX12_isTight 9 = .ok (.iload 6, 2) := by decide +kernel
theorem dX12_isTight_11 : decode cX12_isTight 11 = .ok (.iconst 4, 1) := by decide +kernel
theorem dX12_isTight_12 : decode cX12_isTight 12 = .ok (.if_icmp .ge 104, 3) := by decide +kernel
theorem dX12_isTight_15 : decode cX12_isTight 15 = .ok (.iload_n 2, 1) := by decide +kernel
theorem dX12_isTight_16 : decode cX12_isTight 16 = .ok (.iload 6, 2) := by decide +kernel
theorem dX12_isTight_18 : decode cX12_isTight 18 = .ok (.ishr, 1) := by decide +kernel
theorem dX12_isTight_19 : decode cX12_isTight 19 = .ok (.iconst 1, 1) := by decide +kernel
theorem dX12_isTight_20 : decode cX12_isTight 20 = .ok (.iand, 1) := by decide +kernel
theorem dX12_isTight_21 : decode cX12_isTight 21 = .ok (.ifCond .ne 6, 3) := by decide +kernel
theorem dX12_isTight_24 : decode cX12_isTight 24 = .ok (.goto 86, 3) := by decide +kernel
theorem dX12_isTight_27 : decode cX12_isTight 27 = .ok (.aload_n 0, 1) := by decide +kernel
theorem dX12_isTight_28 : decode cX12_isTight 28 = .ok (.getfield 33, 3) := by decide +kernel
theorem dX12_isTight_31 : decode cX12_isTight 31 = .ok (.iload 6, 2) := by decide +kernel
theorem dX12_isTight_33 : decode cX12_isTight 33 = .ok (.iaload, 1) := by decide +kernel
theorem dX12_isTight_34 : decode cX12_isTight 34 = .ok (.iconst 2, 1) := by decide +kernel
theorem dX12_isTight_35 : decode cX12_isTight 35 = .ok (.irem, 1) := by decide +kernel
theorem dX12_isTight_36 : decode cX12_isTight 36 = .ok (.iconst 1, 1) := by decide +kernel
theorem dX12_isTight_37 : decode cX12_isTight 37 = .ok (.if_icmp .ne 20, 3) := by decide +kernel
theorem dX12_isTight_40 : decode cX12_isTight 40 = .ok (.aload_n 0, 1) := by decide +kernel
theorem dX12_isTight_41 : decode cX12_isTight 41 = .ok (.getfield 23, 3) := by decide +kernel
theorem dX12_isTight_44 : decode cX12_isTight 44 = .ok (.iload_n 1, 1) := by decide +kernel
theorem dX12_isTight_45 : decode cX12_isTight 45 = .ok (.iaload, 1) := by decide +kernel
theorem dX12_isTight_46 : decode cX12_isTight 46 = .ok (.iload 6, 2) := by decide +kernel
theorem dX12_isTight_48 : decode cX12_isTight 48 = .ok (.ishr, 1) := by decide +kernel
theorem dX12_isTight_49 : decode cX12_isTight 49 = .ok (.iconst 1, 1) := by decide +kernel
theorem dX12_isTight_50 : decode cX12_isTight 50 = .ok (.iand, 1) := by decide +kernel
theorem dX12_isTight_51 : decode cX12_isTight 51 = .ok (.iconst 1, 1) := by decide +kernel
theorem dX12_isTight_52 : decode cX12_isTight 52 = .ok (.if_icmp .ne 5, 3) := by decide +kernel
theorem dX12_isTight_55 : decode cX12_isTight 55 = .ok (.iconst 0, 1) := by decide +kernel
theorem dX12_isTight_56 : decode cX12_isTight 56 = .ok (.ireturn, 1) := by decide +kernel
theorem dX12_isTight_57 : decode cX12_isTight 57 = .ok (.aload_n 0, 1) := by decide +kernel
theorem dX12_isTight_58 : decode cX12_isTight 58 = .ok (.getfield 33, 3) := by decide +kernel
theorem dX12_isTight_61 : decode cX12_isTight 61 = .ok (.iload 6, 2) := by decide +kernel
theorem dX12_isTight_63 : decode cX12_isTight 63 = .ok (.iaload, 1) := by decide +kernel
theorem dX12_isTight_64 : decode cX12_isTight 64 = .ok (.iconst 2, 1) := by decide +kernel
theorem dX12_isTight_65 : decode cX12_isTight 65 = .ok (.irem, 1) := by decide +kernel
theorem dX12_isTight_66 : decode cX12_isTight 66 = .ok (.iconst 1, 1) := by decide +kernel
theorem dX12_isTight_67 : decode cX12_isTight 67 = .ok (.if_icmp .ne 17, 3) := by decide +kernel
theorem dX12_isTight_70 : decode cX12_isTight 70 = .ok (.iload 4, 2) := by decide +kernel
theorem dX12_isTight_72 : decode cX12_isTight 72 = .ok (.iconst 1, 1) := by decide +kernel
theorem dX12_isTight_73 : decode cX12_isTight 73 = .ok (.aload_n 0, 1) := by decide +kernel
theorem dX12_isTight_74 : decode cX12_isTight 74 = .ok (.getfield 33, 3) := by decide +kernel
theorem dX12_isTight_77 : decode cX12_isTight 77 = .ok (.iload 6, 2) := by decide +kernel
theorem dX12_isTight_79 : decode cX12_isTight 79 = .ok (.iaload, 1) := by decide +kernel
theorem dX12_isTight_80 : decode cX12_isTight 80 = .ok (.ishl, 1) := by decide +kernel
theorem dX12_isTight_81 : decode cX12_isTight 81 = .ok (.ior, 1) := by decide +kernel
theorem dX12_isTight_82 : decode cX12_isTight 82 = .ok (.istore 4, 2) := by decide +kernel
theorem dX12_isTight_84 : decode cX12_isTight 84 = .ok (.aload_n 0, 1) := by decide +kernel
theorem dX12_isTight_85 : decode cX12_isTight 85 = .ok (.getfield 33, 3) := by decide +kernel
theorem dX12_isTight_88 : decode cX12_isTight 88 = .ok (.iload 6, 2) := by decide +kernel
theorem dX12_isTight_90 : decode cX12_isTight 90 = .ok (.iaload, 1) := by decide +kernel
theorem dX12_isTight_91 : decode cX12_isTight 91 = .ok (.iload 5, 2) := by decide +kernel
theorem dX12_isTight_93 : decode cX12_isTight 93 = .ok (.if_icmp .le 13, 3) := by decide +kernel
theorem dX12_isTight_96 : decode cX12_isTight 96 = .ok (.aload_n 0, 1) := by decide +kernel
theorem dX12_isTight_97 : decode cX12_isTight 97 = .ok (.getfield 33, 3) := by decide +kernel
theorem dX12_isTight_100 : decode cX12_isTight 100 = .ok (.iload 6, 2) := by decide +kernel
theorem dX12_isTight_102 : decode cX12_isTight 102 = .ok (.iaload, 1) := by decide +kernel
theorem dX12_isTight_103 : decode cX12_isTight 103 = .ok (.goto 5, 3) := by decide +kernel
theorem dX12_isTight_106 : decode cX12_isTight 106 = .ok (.iload 5, 2) := by decide +kernel
theorem dX12_isTight_108 : decode cX12_isTight 108 = .ok (.istore 5, 2) := by decide +kernel
theorem dX12_isTight_110 : decode cX12_isTight 110 = .ok (.iinc 6 1, 3) := by decide +kernel
theorem dX12_isTight_113 : decode cX12_isTight 113 = .ok (.goto (-104), 3) := by decide +kernel
theorem dX12_isTight_116 : decode cX12_isTight 116 = .ok (.iconst 1, 1) := by decide +kernel
theorem dX12_isTight_117 : decode cX12_isTight 117 = .ok (.istore 6, 2) := by decide +kernel
theorem dX12_isTight_119 : decode cX12_isTight 119 = .ok (.iload 6, 2) := by decide +kernel
theorem dX12_isTight_121 : decode cX12_isTight 121 = .ok (.iload_n 3, 1) := by decide +kernel
theorem dX12_isTight_122 : decode cX12_isTight 122 = .ok (.if_icmp .gt 21, 3) := by decide +kernel
theorem dX12_isTight_125 : decode cX12_isTight 125 = .ok (.iload 4, 2) := by decide +kernel
theorem dX12_isTight_127 : decode cX12_isTight 127 = .ok (.iload 6, 2) := by decide +kernel
theorem dX12_isTight_129 : decode cX12_isTight 129 = .ok (.ishr, 1) := by decide +kernel
theorem dX12_isTight_130 : decode cX12_isTight 130 = .ok (.iconst 1, 1) := by decide +kernel
theorem dX12_isTight_131 : decode cX12_isTight 131 = .ok (.iand, 1) := by decide +kernel
theorem dX12_isTight_132 : decode cX12_isTight 132 = .ok (.ifCond .ne 5, 3) := by decide +kernel
theorem dX12_isTight_135 : decode cX12_isTight 135 = .ok (.iconst 0, 1) := by decide +kernel
theorem dX12_isTight_136 : decode cX12_isTight 136 = .ok (.ireturn, 1) := by decide +kernel
theorem dX12_isTight_137 : decode cX12_isTight 137 = .ok (.iinc 6 2, 3) := by decide +kernel
theorem dX12_isTight_140 : decode cX12_isTight 140 = .ok (.goto (-21), 3) := by decide +kernel
theorem dX12_isTight_143 : decode cX12_isTight 143 = .ok (.iload 5, 2) := by decide +kernel
theorem dX12_isTight_145 : decode cX12_isTight 145 = .ok (.iload_n 3, 1) := by decide +kernel
theorem dX12_isTight_146 : decode cX12_isTight 146 = .ok (.if_icmp .ne 7, 3) := by decide +kernel
theorem dX12_isTight_149 : decode cX12_isTight 149 = .ok (.iconst 1, 1) := by decide +kernel
theorem dX12_isTight_150 : decode cX12_isTight 150 = .ok (.goto 4, 3) := by decide +kernel
theorem dX12_isTight_153 : decode cX12_isTight 153 = .ok (.iconst 0, 1) := by decide +kernel
theorem dX12_isTight_154 : decode cX12_isTight 154 = .ok (.ireturn, 1) := by decide +kernel
theorem dX12_isOddRank_0 : decode cX12_isOddRank 0 = .ok (.iload_n 0, 1) := by decide +kernel
theorem dX12_isOddRank_1 : decode cX12_isOddRank 1 = .ok (.iconst 1, 1) := by decide +kernel
theorem dX12_isOddRank_2 : decode cX12_isOddRank 2 = .ok (.bipush 7, 2) := by decide +kernel
theorem dX12_isOddRank_4 : decode cX12_isOddRank 4 = .ok (.invokestatic 156, 3) := by decide +kernel
theorem dX12_isOddRank_7 : decode cX12_isOddRank 7 = .ok (.ifCond .eq 14, 3) := by decide +kernel
theorem dX12_isOddRank_10 : decode cX12_isOddRank 10 = .ok (.iload_n 0, 1) := by decide +kernel
theorem dX12_isOddRank_11 : decode cX12_isOddRank 11 = .ok (.iconst 2, 1) := by decide +kernel
theorem dX12_isOddRank_12 : decode cX12_isOddRank 12 = .ok (.irem, 1) := by decide +kernel
theorem dX12_isOddRank_13 : decode cX12_isOddRank 13 = .ok (.iconst 1, 1) := by decide +kernel
theorem dX12_isOddRank_14 : decode cX12_isOddRank 14 = .ok (.if_icmp .ne 7, 3) := by decide +kernel
theorem dX12_isOddRank_17 : decode cX12_isOddRank 17 = .ok (.iconst 1, 1) := by decide +kernel
theorem dX12_isOddRank_18 : decode cX12_isOddRank 18 = .ok (.goto 4, 3) := by decide +kernel
theorem dX12_isOddRank_21 : decode cX12_isOddRank 21 = .ok (.iconst 0, 1) := by decide +kernel
theorem dX12_isOddRank_22 : decode cX12_isOddRank 22 = .ok (.ireturn, 1) := by decide +kernel
theorem dX12_boundOf_0 : decode cX12_boundOf 0 = .ok (.iconst 2, 1) := by decide +kernel
theorem dX12_boundOf_1 : decode cX12_boundOf 1 = .ok (.iload_n 2, 1) := by decide +kernel
theorem dX12_boundOf_2 : decode cX12_boundOf 2 = .ok (.aload_n 0, 1) := by decide +kernel
theorem dX12_boundOf_3 : decode cX12_boundOf 3 = .ok (.getfield 23, 3) := by decide +kernel
theorem dX12_boundOf_6 : decode cX12_boundOf 6 = .ok (.iload_n 1, 1) := by decide +kernel
theorem dX12_boundOf_7 : decode cX12_boundOf 7 = .ok (.iaload, 1) := by decide +kernel
theorem dX12_boundOf_8 : decode cX12_boundOf 8 = .ok (.iconst (-1), 1) := by decide +kernel
theorem dX12_boundOf_9 : decode cX12_boundOf 9 = .ok (.ixor, 1) := by decide +kernel
theorem dX12_boundOf_10 : decode cX12_boundOf 10 = .ok (.iand, 1) := by decide +kernel
theorem dX12_boundOf_11 : decode cX12_boundOf 11 = .ok (.invokestatic 297, 3) := by decide +kernel
theorem dX12_boundOf_14 : decode cX12_boundOf 14 = .ok (.imul, 1) := by decide +kernel
theorem dX12_boundOf_15 : decode cX12_boundOf 15 = .ok (.iconst 1, 1) := by decide +kernel
theorem dX12_boundOf_16 : decode cX12_boundOf 16 = .ok (.isub, 1) := by decide +kernel
theorem dX12_boundOf_17 : decode cX12_boundOf 17 = .ok (.ireturn, 1) := by decide +kernel
theorem dX12_bound_0 : decode cX12_bound 0 = .ok (.aload_n 0, 1) := by decide +kernel
theorem dX12_bound_1 : decode cX12_bound 1 = .ok (.iconst 0, 1) := by decide +kernel
theorem dX12_bound_2 : decode cX12_bound 2 = .ok (.putfield 131, 3) := by decide +kernel
theorem dX12_bound_5 : decode cX12_bound 5 = .ok (.aload_n 0, 1) := by decide +kernel
theorem dX12_bound_6 : decode cX12_bound 6 = .ok (.iload_n 1, 1) := by decide +kernel
theorem dX12_bound_7 : decode cX12_bound 7 = .ok (.invokevirtual 291, 3) := by decide +kernel
theorem dX12_bound_10 : decode cX12_bound 10 = .ok (.ifCond .ne 9, 3) := by decide +kernel
theorem dX12_bound_13 : decode cX12_bound 13 = .ok (.aload_n 0, 1) := by decide +kernel
theorem dX12_bound_14 : decode cX12_bound 14 = .ok (.iconst 1, 1) := by decide +kernel
theorem dX12_bound_15 : decode cX12_bound 15 = .ok (.invokevirtual 270, 3) := by decide +kernel
theorem dX12_bound_18 : decode cX12_bound 18 = .ok (.ireturn, 1) := by decide +kernel
theorem dX12_bound_19 : decode cX12_bound 19 = .ok (.aload_n 0, 1) := by decide +kernel
theorem dX12_bound_20 : decode cX12_bound 20 = .ok (.iload_n 1, 1) := by decide +kernel
theorem dX12_bound_21 : decode cX12_bound 21 = .ok (.iload_n 2, 1) := by decide +kernel
theorem dX12_bound_22 : decode cX12_bound 22 = .ok (.invokevirtual 313, 3) := by decide +kernel
theorem dX12_bound_25 : decode cX12_bound 25 = .ok (.ifCond .ne 9, 3) := by decide +kernel
theorem dX12_bound_28 : decode cX12_bound 28 = .ok (.aload_n 0, 1) := by decide +kernel
theorem dX12_bound_29 : decode cX12_bound 29 = .ok (.iconst 2, 1) := by decide +kernel
theorem dX12_bound_30 : decode cX12_bound 30 = .ok (.invokevirtual 270, 3) := by decide +kernel
theorem dX12_bound_33 : decode cX12_bound 33 = .ok (.ireturn, 1) := by decide +kernel
theorem dX12_bound_34 : decode cX12_bound 34 = .ok (.aload_n 0, 1) := by decide +kernel
theorem dX12_bound_35 : decode cX12_bound 35 = .ok (.aload_n 0, 1) := by decide +kernel
theorem dX12_bound_36 : decode cX12_bound 36 = .ok (.iload_n 1, 1) := by decide +kernel
theorem dX12_bound_37 : decode cX12_bound 37 = .ok (.iload_n 2, 1) := by decide +kernel
theorem dX12_bound_38 : decode cX12_bound 38 = .ok (.invokevirtual 319, 3) := by decide +kernel
theorem dX12_bound_41 : decode cX12_bound 41 = .ok (.ifCond .ge 8, 3) := by decide +kernel
theorem dX12_bound_44 : decode cX12_bound 44 = .ok (.bipush (-2), 2) := by decide +kernel
theorem dX12_bound_46 : decode cX12_bound 46 = .ok (.goto 9, 3) := by decide +kernel
theorem dX12_bound_49 : decode cX12_bound 49 = .ok (.aload_n 0, 1) := by decide +kernel
theorem dX12_bound_50 : decode cX12_bound 50 = .ok (.iload_n 1, 1) := by decide +kernel
theorem dX12_bound_51 : decode cX12_bound 51 = .ok (.iload_n 2, 1) := by decide +kernel
theorem dX12_bound_52 : decode cX12_bound 52 = .ok (.invokevirtual 319, 3) := by decide +kernel
theorem dX12_bound_55 : decode cX12_bound 55 = .ok (.invokevirtual 288, 3) := by decide +kernel
theorem dX12_bound_58 : decode cX12_bound 58 = .ok (.ireturn, 1) := by decide +kernel
theorem dX12_rankings_0 : decode cX12_rankings 0 = .ok (.aload_n 0, 1) := by decide +kernel
theorem dX12_rankings_1 : decode cX12_rankings 1 = .ok (.iconst 0, 1) := by decide +kernel
theorem dX12_rankings_2 : decode cX12_rankings 2 = .ok (.putfield 131, 3) := by decide +kernel
theorem dX12_rankings_5 : decode cX12_rankings 5 = .ok (.aload_n 0, 1) := by decide +kernel
theorem dX12_rankings_6 : decode cX12_rankings 6 = .ok (.iload_n 1, 1) := by decide +kernel
theorem dX12_rankings_7 : decode cX12_rankings 7 = .ok (.invokevirtual 291, 3) := by decide +kernel
theorem dX12_rankings_10 : decode cX12_rankings 10 = .ok (.ifCond .ne 9, 3) := by decide +kernel
theorem dX12_rankings_13 : decode cX12_rankings 13 = .ok (.aload_n 0, 1) := by decide +kernel
theorem dX12_rankings_14 : decode cX12_rankings 14 = .ok (.iconst 1, 1) := by decide +kernel
theorem dX12_rankings_15 : decode cX12_rankings 15 = .ok (.invokevirtual 270, 3) := by decide +kernel
theorem dX12_rankings_18 : decode cX12_rankings 18 = .ok (.ireturn, 1) := by decide +kernel
theorem dX12_rankings_19 : decode cX12_rankings 19 = .ok (.aload_n 0, 1) := by decide +kernel
theorem dX12_rankings_20 : decode cX12_rankings 20 = .ok (.iload_n 1, 1) := by decide +kernel
theorem dX12_rankings_21 : decode cX12_rankings 21 = .ok (.iload_n 2, 1) := by decide +kernel
theorem dX12_rankings_22 : decode cX12_rankings 22 = .ok (.invokevirtual 313, 3) := by decide +kernel
theorem dX12_rankings_25 : decode cX12_rankings 25 = .ok (.ifCond .eq 10, 3) := by decide +kernel
theorem dX12_rankings_28 : decode cX12_rankings 28 = .ok (.iload_n 3, 1) := by decide +kernel
theorem dX12_rankings_29 : decode cX12_rankings 29 = .ok (.invokestatic 322, 3) := by decide +kernel
theorem dX12_rankings_32 : decode cX12_rankings 32 = .ok (.ifCond .ne 9, 3) := by decide +kernel
theorem dX12_rankings_35 : decode cX12_rankings 35 = .ok (.aload_n 0, 1) := by decide +kernel
theorem dX12_rankings_36 : decode cX12_rankings 36 = .ok (.iconst 2, 1) := by decide +kernel
theorem dX12_rankings_37 : decode cX12_rankings 37 = .ok (.invokevirtual 270, 3) := by decide +kernel
theorem dX12_rankings_40 : decode cX12_rankings 40 = .ok (.ireturn, 1) := by decide +kernel
theorem dX12_rankings_41 : decode cX12_rankings 41 = .ok (.iconst 0, 1) := by decide +kernel
theorem dX12_rankings_42 : decode cX12_rankings 42 = .ok (.istore 4, 2) := by decide +kernel
theorem dX12_rankings_44 : decode cX12_rankings 44 = .ok (.aload_n 0, 1) := by decide +kernel
theorem dX12_rankings_45 : decode cX12_rankings 45 = .ok (.invokevirtual 325, 3) := by decide +kernel
theorem dX12_rankings_48 : decode cX12_rankings 48 = .ok (.iconst 1, 1) := by decide +kernel
theorem dX12_rankings_49 : decode cX12_rankings 49 = .ok (.istore 5, 2) := by decide +kernel
theorem dX12_rankings_51 : decode cX12_rankings 51 = .ok (.iload 5, 2) := by decide +kernel
theorem dX12_rankings_53 : decode cX12_rankings 53 = .ok (.ifCond .eq 34, 3) := by decide +kernel
theorem dX12_rankings_56 : decode cX12_rankings 56 = .ok (.iload 4, 2) := by decide +kernel
theorem dX12_rankings_58 : decode cX12_rankings 58 = .ok (.aload_n 0, 1) := by decide +kernel
theorem dX12_rankings_59 : decode cX12_rankings 59 = .ok (.iload_n 1, 1) := by decide +kernel
theorem dX12_rankings_60 : decode cX12_rankings 60 = .ok (.iload_n 2, 1) := by decide +kernel
theorem dX12_rankings_61 : decode cX12_rankings 61 = .ok (.iload_n 3, 1) := by decide +kernel
theorem dX12_rankings_62 : decode cX12_rankings 62 = .ok (.invokevirtual 328, 3) := by decide +kernel
theorem dX12_rankings_65 : decode cX12_rankings 65 = .ok (.ifCond .eq 7, 3) := by decide +kernel
theorem dX12_rankings_68 : decode cX12_rankings 68 = .ok (.iconst 1, 1) := by decide +kernel
theorem dX12_rankings_69 : decode cX12_rankings 69 = .ok (.goto 4, 3) := by decide +kernel
theorem dX12_rankings_72 : decode cX12_rankings 72 = .ok (.iconst 0, 1) := by decide +kernel
theorem dX12_rankings_73 : decode cX12_rankings 73 = .ok (.iadd, 1) := by decide +kernel
theorem dX12_rankings_74 : decode cX12_rankings 74 = .ok (.istore 4, 2) := by decide +kernel
theorem dX12_rankings_76 : decode cX12_rankings 76 = .ok (.aload_n 0, 1) := by decide +kernel
theorem dX12_rankings_77 : decode cX12_rankings 77 = .ok (.iload_n 2, 1) := by decide +kernel
theorem dX12_rankings_78 : decode cX12_rankings 78 = .ok (.iload_n 3, 1) := by decide +kernel
theorem dX12_rankings_79 : decode cX12_rankings 79 = .ok (.invokevirtual 331, 3) := by decide +kernel
theorem dX12_rankings_82 : decode cX12_rankings 82 = .ok (.istore 5, 2) := by decide +kernel
theorem dX12_rankings_84 : decode cX12_rankings 84 = .ok (.goto (-33), 3) := by decide +kernel
theorem dX12_rankings_87 : decode cX12_rankings 87 = .ok (.aload_n 0, 1) := by decide +kernel
theorem dX12_rankings_88 : decode cX12_rankings 88 = .ok (.iload 4, 2) := by decide +kernel
theorem dX12_rankings_90 : decode cX12_rankings 90 = .ok (.invokevirtual 288, 3) := by decide +kernel
theorem dX12_rankings_93 : decode cX12_rankings 93 = .ok (.ireturn, 1) := by decide +kernel
theorem dX12_ranked_0 : decode cX12_ranked 0 = .ok (.aload_n 0, 1) := by decide +kernel
theorem dX12_ranked_1 : decode cX12_ranked 1 = .ok (.iconst 0, 1) := by decide +kernel
theorem dX12_ranked_2 : decode cX12_ranked 2 = .ok (.putfield 131, 3) := by decide +kernel
theorem dX12_ranked_5 : decode cX12_ranked 5 = .ok (.aload_n 0, 1) := by decide +kernel
theorem dX12_ranked_6 : decode cX12_ranked 6 = .ok (.iload_n 1, 1) := by decide +kernel
theorem dX12_ranked_7 : decode cX12_ranked 7 = .ok (.iload 5, 2) := by decide +kernel
theorem dX12_ranked_9 : decode cX12_ranked 9 = .ok (.invokevirtual 302, 3) := by decide +kernel
theorem dX12_ranked_12 : decode cX12_ranked 12 = .ok (.ifCond .ne 9, 3) := by decide +kernel
theorem dX12_ranked_15 : decode cX12_ranked 15 = .ok (.aload_n 0, 1) := by decide +kernel
theorem dX12_ranked_16 : decode cX12_ranked 16 = .ok (.iconst 1, 1) := by decide +kernel
theorem dX12_ranked_17 : decode cX12_ranked 17 = .ok (.invokevirtual 270, 3) := by decide +kernel
theorem dX12_ranked_20 : decode cX12_ranked 20 = .ok (.ireturn, 1) := by decide +kernel
theorem dX12_ranked_21 : decode cX12_ranked 21 = .ok (.aload_n 0, 1) := by decide +kernel
theorem dX12_ranked_22 : decode cX12_ranked 22 = .ok (.iload_n 1, 1) := by decide +kernel
theorem dX12_ranked_23 : decode cX12_ranked 23 = .ok (.iload_n 2, 1) := by decide +kernel
theorem dX12_ranked_24 : decode cX12_ranked 24 = .ok (.invokevirtual 313, 3) := by decide +kernel
theorem dX12_ranked_27 : decode cX12_ranked 27 = .ok (.ifCond .eq 10, 3) := by decide +kernel
theorem dX12_ranked_30 : decode cX12_ranked 30 = .ok (.iload_n 3, 1) := by decide +kernel
theorem dX12_ranked_31 : decode cX12_ranked 31 = .ok (.invokestatic 322, 3) := by decide +kernel
theorem dX12_ranked_34 : decode cX12_ranked 34 = .ok (.ifCond .ne 9, 3) := by decide +kernel
theorem dX12_ranked_37 : decode cX12_ranked 37 = .ok (.aload_n 0, 1) := by decide +kernel
theorem dX12_ranked_38 : decode cX12_ranked 38 = .ok (.iconst 2, 1) := by decide +kernel
theorem dX12_ranked_39 : decode cX12_ranked 39 = .ok (.invokevirtual 270, 3) := by decide +kernel
theorem dX12_ranked_42 : decode cX12_ranked 42 = .ok (.ireturn, 1) := by decide +kernel
theorem dX12_ranked_43 : decode cX12_ranked 43 = .ok (.iload 4, 2) := by decide +kernel
theorem dX12_ranked_45 : decode cX12_ranked 45 = .ok (.ifCond .lt 12, 3) := by decide +kernel
theorem dX12_ranked_48 : decode cX12_ranked 48 = .ok (.iload_n 2, 1) := by decide +kernel
theorem dX12_ranked_49 : decode cX12_ranked 49 = .ok (.iload 5, 2) := by decide +kernel
theorem dX12_ranked_51 : decode cX12_ranked 51 = .ok (.ishr, 1) := by decide +kernel
theorem dX12_ranked_52 : decode cX12_ranked 52 = .ok (.iconst 1, 1) := by decide +kernel
theorem dX12_ranked_53 : decode cX12_ranked 53 = .ok (.iand, 1) := by decide +kernel
theorem dX12_ranked_54 : decode cX12_ranked 54 = .ok (.ifCond .ne 9, 3) := by decide +kernel
theorem dX12_ranked_57 : decode cX12_ranked 57 = .ok (.aload_n 0, 1) := by decide +kernel
theorem dX12_ranked_58 : decode cX12_ranked 58 = .ok (.iconst 5, 1) := by decide +kernel
theorem dX12_ranked_59 : decode cX12_ranked 59 = .ok (.invokevirtual 270, 3) := by decide +kernel
theorem dX12_ranked_62 : decode cX12_ranked 62 = .ok (.ireturn, 1) := by decide +kernel
theorem dX12_ranked_63 : decode cX12_ranked 63 = .ok (.iload 4, 2) := by decide +kernel
theorem dX12_ranked_65 : decode cX12_ranked 65 = .ok (.istore 6, 2) := by decide +kernel
theorem dX12_ranked_67 : decode cX12_ranked 67 = .ok (.aload_n 0, 1) := by decide +kernel
theorem dX12_ranked_68 : decode cX12_ranked 68 = .ok (.invokevirtual 325, 3) := by decide +kernel
theorem dX12_ranked_71 : decode cX12_ranked 71 = .ok (.iconst 1, 1) := by decide +kernel
theorem dX12_ranked_72 : decode cX12_ranked 72 = .ok (.istore 7, 2) := by decide +kernel
theorem dX12_ranked_74 : decode cX12_ranked 74 = .ok (.iload 7, 2) := by decide +kernel
theorem dX12_ranked_76 : decode cX12_ranked 76 = .ok (.ifCond .eq 60, 3) := by decide +kernel
theorem dX12_ranked_79 : decode cX12_ranked 79 = .ok (.aload_n 0, 1) := by decide +kernel
theorem dX12_ranked_80 : decode cX12_ranked 80 = .ok (.iload_n 1, 1) := by decide +kernel
theorem dX12_ranked_81 : decode cX12_ranked 81 = .ok (.iload_n 2, 1) := by decide +kernel
theorem dX12_ranked_82 : decode cX12_ranked 82 = .ok (.iload_n 3, 1) := by decide +kernel
theorem dX12_ranked_83 : decode cX12_ranked 83 = .ok (.invokevirtual 328, 3) := by decide +kernel
theorem dX12_ranked_86 : decode cX12_ranked 86 = .ok (.istore 8, 2) := by decide +kernel
theorem dX12_ranked_88 : decode cX12_ranked 88 = .ok (.iload 8, 2) := by decide +kernel
theorem dX12_ranked_90 : decode cX12_ranked 90 = .ok (.ifCond .eq 20, 3) := by decide +kernel
theorem dX12_ranked_93 : decode cX12_ranked 93 = .ok (.iload 6, 2) := by decide +kernel
theorem dX12_ranked_95 : decode cX12_ranked 95 = .ok (.ifCond .ne 15, 3) := by decide +kernel
theorem dX12_ranked_98 : decode cX12_ranked 98 = .ok (.aload_n 0, 1) := by decide +kernel
theorem dX12_ranked_99 : decode cX12_ranked 99 = .ok (.aload_n 0, 1) := by decide +kernel
theorem dX12_ranked_100 : decode cX12_ranked 100 = .ok (.getfield 33, 3) := by decide +kernel
theorem dX12_ranked_103 : decode cX12_ranked 103 = .ok (.iload 5, 2) := by decide +kernel
theorem dX12_ranked_105 : decode cX12_ranked 105 = .ok (.iaload, 1) := by decide +kernel
theorem dX12_ranked_106 : decode cX12_ranked 106 = .ok (.invokevirtual 288, 3) := by decide +kernel
theorem dX12_ranked_109 : decode cX12_ranked 109 = .ok (.ireturn, 1) := by decide +kernel
theorem dX12_ranked_110 : decode cX12_ranked 110 = .ok (.iload 6, 2) := by decide +kernel
theorem dX12_ranked_112 : decode cX12_ranked 112 = .ok (.iload 8, 2) := by decide +kernel
theorem dX12_ranked_114 : decode cX12_ranked 114 = .ok (.ifCond .eq 7, 3) := by decide +kernel
theorem dX12_ranked_117 : decode cX12_ranked 117 = .ok (.iconst 1, 1) := by decide +kernel
theorem dX12_ranked_118 : decode cX12_ranked 118 = .ok (.goto 4, 3) := by decide +kernel
theorem dX12_ranked_121 : decode cX12_ranked 121 = .ok (.iconst 0, 1) := by decide +kernel
theorem dX12_ranked_122 : decode cX12_ranked 122 = .ok (.isub, 1) := by decide +kernel
theorem dX12_ranked_123 : decode cX12_ranked 123 = .ok (.istore 6, 2) := by decide +kernel
theorem dX12_ranked_125 : decode cX12_ranked 125 = .ok (.aload_n 0, 1) := by decide +kernel
theorem dX12_ranked_126 : decode cX12_ranked 126 = .ok (.iload_n 2, 1) := by decide +kernel
theorem dX12_ranked_127 : decode cX12_ranked 127 = .ok (.iload_n 3, 1) := by decide +kernel
theorem dX12_ranked_128 : decode cX12_ranked 128 = .ok (.invokevirtual 331, 3) := by decide +kernel
theorem dX12_ranked_131 : decode cX12_ranked 131 = .ok (.istore 7, 2) := by decide +kernel
theorem dX12_ranked_133 : decode cX12_ranked 133 = .ok (.goto (-59), 3) := by decide +kernel
theorem dX12_ranked_136 : decode cX12_ranked 136 = .ok (.aload_n 0, 1) := by decide +kernel
theorem dX12_ranked_137 : decode cX12_ranked 137 = .ok (.iconst 5, 1) := by decide +kernel
theorem dX12_ranked_138 : decode cX12_ranked 138 = .ok (.invokevirtual 270, 3) := by decide +kernel
theorem dX12_ranked_141 : decode cX12_ranked 141 = .ok (.ireturn, 1) := by decide +kernel
theorem dX12_packed_0 : decode cX12_packed 0 = .ok (.iconst 0, 1) := by decide +kernel
theorem dX12_packed_1 : decode cX12_packed 1 = .ok (.istore_n 2, 1) := by decide +kernel
theorem dX12_packed_2 : decode cX12_packed 2 = .ok (.iconst 0, 1) := by decide +kernel
theorem dX12_packed_3 : decode cX12_packed 3 = .ok (.istore_n 3, 1) := by decide +kernel
theorem dX12_packed_4 : decode cX12_packed 4 = .ok (.iload_n 3, 1) := by decide +kernel
theorem dX12_packed_5 : decode cX12_packed 5 = .ok (.iconst 4, 1) := by decide +kernel
theorem dX12_packed_6 : decode cX12_packed 6 = .ok (.if_icmp .ge 34, 3) := by decide +kernel
theorem dX12_packed_9 : decode cX12_packed 9 = .ok (.iload_n 2, 1) := by decide +kernel
theorem dX12_packed_10 : decode cX12_packed 10 = .ok (.bipush 8, 2) := by decide +kernel
theorem dX12_packed_12 : decode cX12_packed 12 = .ok (.imul, 1) := by decide +kernel
theorem dX12_packed_13 : decode cX12_packed 13 = .ok (.iload_n 1, 1) := by decide +kernel
theorem dX12_packed_14 : decode cX12_packed 14 = .ok (.iload_n 3, 1) := by decide +kernel
theorem dX12_packed_15 : decode cX12_packed 15 = .ok (.ishr, 1) := by decide +kernel
theorem dX12_packed_16 : decode cX12_packed 16 = .ok (.iconst 1, 1) := by decide +kernel
theorem dX12_packed_17 : decode cX12_packed 17 = .ok (.iand, 1) := by decide +kernel
theorem dX12_packed_18 : decode cX12_packed 18 = .ok (.iconst 1, 1) := by decide +kernel
theorem dX12_packed_19 : decode cX12_packed 19 = .ok (.if_icmp .ne 12, 3) := by decide +kernel
theorem dX12_packed_22 : decode cX12_packed 22 = .ok (.aload_n 0, 1) := by decide +kernel
theorem dX12_packed_23 : decode cX12_packed 23 = .ok (.getfield 33, 3) := by decide +kernel
theorem dX12_packed_26 : decode cX12_packed 26 = .ok (.iload_n 3, 1) := by decide +kernel
theorem dX12_packed_27 : decode cX12_packed 27 = .ok (.iaload, 1) := by decide +kernel
theorem dX12_packed_28 : decode cX12_packed 28 = .ok (.goto 4, 3) := by decide +kernel
theorem dX12_packed_31 : decode cX12_packed 31 = .ok (.iconst 0, 1) := by decide +kernel
theorem dX12_packed_32 : decode cX12_packed 32 = .ok (.iadd, 1) := by decide +kernel
theorem dX12_packed_33 : decode cX12_packed 33 = .ok (.istore_n 2, 1) := by decide +kernel
theorem dX12_packed_34 : decode cX12_packed 34 = .ok (.iinc 3 1, 3) := by decide +kernel
theorem dX12_packed_37 : decode cX12_packed 37 = .ok (.goto (-33), 3) := by decide +kernel
theorem dX12_packed_40 : decode cX12_packed 40 = .ok (.iload_n 2, 1) := by decide +kernel
theorem dX12_packed_41 : decode cX12_packed 41 = .ok (.ireturn, 1) := by decide +kernel
theorem dX12_rankIn_0 : decode cX12_rankIn 0 = .ok (.iload_n 0, 1) := by decide +kernel
theorem dX12_rankIn_1 : decode cX12_rankIn 1 = .ok (.iconst 3, 1) := by decide +kernel
theorem dX12_rankIn_2 : decode cX12_rankIn 2 = .ok (.iconst 3, 1) := by decide +kernel
theorem dX12_rankIn_3 : decode cX12_rankIn 3 = .ok (.iload_n 1, 1) := by decide +kernel
theorem dX12_rankIn_4 : decode cX12_rankIn 4 = .ok (.isub, 1) := by decide +kernel
theorem dX12_rankIn_5 : decode cX12_rankIn 5 = .ok (.imul, 1) := by decide +kernel
theorem dX12_rankIn_6 : decode cX12_rankIn 6 = .ok (.ishr, 1) := by decide +kernel
theorem dX12_rankIn_7 : decode cX12_rankIn 7 = .ok (.bipush 7, 2) := by decide +kernel
theorem dX12_rankIn_9 : decode cX12_rankIn 9 = .ok (.iand, 1) := by decide +kernel
theorem dX12_rankIn_10 : decode cX12_rankIn 10 = .ok (.ireturn, 1) := by decide +kernel
theorem dX12_nodeOf_0 : decode cX12_nodeOf 0 = .ok (.iload_n 1, 1) := by decide +kernel
theorem dX12_nodeOf_1 : decode cX12_nodeOf 1 = .ok (.bipush 17, 2) := by decide +kernel
theorem dX12_nodeOf_3 : decode cX12_nodeOf 3 = .ok (.iload 4, 2) := by decide +kernel
theorem dX12_nodeOf_5 : decode cX12_nodeOf 5 = .ok (.imul, 1) := by decide +kernel
theorem dX12_nodeOf_6 : decode cX12_nodeOf 6 = .ok (.iadd, 1) := by decide +kernel
theorem dX12_nodeOf_7 : decode cX12_nodeOf 7 = .ok (.bipush 31, 2) := by decide +kernel
theorem dX12_nodeOf_9 : decode cX12_nodeOf 9 = .ok (.iload_n 3, 1) := by decide +kernel
theorem dX12_nodeOf_10 : decode cX12_nodeOf 10 = .ok (.imul, 1) := by decide +kernel
theorem dX12_nodeOf_11 : decode cX12_nodeOf 11 = .ok (.iadd, 1) := by decide +kernel
theorem dX12_nodeOf_12 : decode cX12_nodeOf 12 = .ok (.bipush 7, 2) := by decide +kernel
theorem dX12_nodeOf_14 : decode cX12_nodeOf 14 = .ok (.iload_n 2, 1) := by decide +kernel
theorem dX12_nodeOf_15 : decode cX12_nodeOf 15 = .ok (.iconst 2, 1) := by decide +kernel
theorem dX12_nodeOf_16 : decode cX12_nodeOf 16 = .ok (.iadd, 1) := by decide +kernel
theorem dX12_nodeOf_17 : decode cX12_nodeOf 17 = .ok (.imul, 1) := by decide +kernel
theorem dX12_nodeOf_18 : decode cX12_nodeOf 18 = .ok (.iadd, 1) := by decide +kernel
theorem dX12_nodeOf_19 : decode cX12_nodeOf 19 = .ok (.sipush 1024, 3) := by decide +kernel
theorem dX12_nodeOf_22 : decode cX12_nodeOf 22 = .ok (.irem, 1) := by decide +kernel
theorem dX12_nodeOf_23 : decode cX12_nodeOf 23 = .ok (.istore 5, 2) := by decide +kernel
theorem dX12_nodeOf_25 : decode cX12_nodeOf 25 = .ok (.aload_n 0, 1) := by decide +kernel
theorem dX12_nodeOf_26 : decode cX12_nodeOf 26 = .ok (.getfield 51, 3) := by decide +kernel
theorem dX12_nodeOf_29 : decode cX12_nodeOf 29 = .ok (.iload 5, 2) := by decide +kernel
theorem dX12_nodeOf_31 : decode cX12_nodeOf 31 = .ok (.iaload, 1) := by decide +kernel
theorem dX12_nodeOf_32 : decode cX12_nodeOf 32 = .ok (.istore 6, 2) := by decide +kernel
theorem dX12_nodeOf_34 : decode cX12_nodeOf 34 = .ok (.iload 6, 2) := by decide +kernel
theorem dX12_nodeOf_36 : decode cX12_nodeOf 36 = .ok (.iconst (-1), 1) := by decide +kernel
theorem dX12_nodeOf_37 : decode cX12_nodeOf 37 = .ok (.if_icmp .eq 63, 3) := by decide +kernel
theorem dX12_nodeOf_40 : decode cX12_nodeOf 40 = .ok (.aload_n 0, 1) := by decide +kernel
theorem dX12_nodeOf_41 : decode cX12_nodeOf 41 = .ok (.getfield 36, 3) := by decide +kernel
theorem dX12_nodeOf_44 : decode cX12_nodeOf 44 = .ok (.iload 6, 2) := by decide +kernel
theorem dX12_nodeOf_46 : decode cX12_nodeOf 46 = .ok (.iaload, 1) := by decide +kernel
theorem dX12_nodeOf_47 : decode cX12_nodeOf 47 = .ok (.iload_n 1, 1) := by decide +kernel
theorem dX12_nodeOf_48 : decode cX12_nodeOf 48 = .ok (.if_icmp .ne 40, 3) := by decide +kernel
theorem dX12_nodeOf_51 : decode cX12_nodeOf 51 = .ok (.aload_n 0, 1) := by decide +kernel
theorem dX12_nodeOf_52 : decode cX12_nodeOf 52 = .ok (.getfield 39, 3) := by decide +kernel
theorem dX12_nodeOf_55 : decode cX12_nodeOf 55 = .ok (.iload 6, 2) := by decide +kernel
theorem dX12_nodeOf_57 : decode cX12_nodeOf 57 = .ok (.iaload, 1) := by decide +kernel
theorem dX12_nodeOf_58 : decode cX12_nodeOf 58 = .ok (.iload_n 2, 1) := by decide +kernel
theorem dX12_nodeOf_59 : decode cX12_nodeOf 59 = .ok (.if_icmp .ne 29, 3) := by decide +kernel
theorem dX12_nodeOf_62 : decode cX12_nodeOf 62 = .ok (.aload_n 0, 1) := by decide +kernel
theorem dX12_nodeOf_63 : decode cX12_nodeOf 63 = .ok (.getfield 42, 3) := by decide +kernel
theorem dX12_nodeOf_66 : decode cX12_nodeOf 66 = .ok (.iload 6, 2) := by decide +kernel
theorem dX12_nodeOf_68 : decode cX12_nodeOf 68 = .ok (.iaload, 1) := by decide +kernel
theorem dX12_nodeOf_69 : decode cX12_nodeOf 69 = .ok (.iload_n 3, 1) := by decide +kernel
theorem dX12_nodeOf_70 : decode cX12_nodeOf 70 = .ok (.if_icmp .ne 18, 3) := by decide +kernel
theorem dX12_nodeOf_73 : decode cX12_nodeOf 73 = .ok (.aload_n 0, 1) := by decide +kernel
theorem dX12_nodeOf_74 : decode cX12_nodeOf 74 = .ok (.getfield 45, 3) := by decide +kernel
theorem dX12_nodeOf_77 : decode cX12_nodeOf 77 = .ok (.iload 6, 2) := by decide +kernel
theorem dX12_nodeOf_79 : decode cX12_nodeOf 79 = .ok (.iaload, 1) := by decide +kernel
theorem dX12_nodeOf_80 : decode cX12_nodeOf 80 = .ok (.iload 4, 2) := by decide +kernel
theorem dX12_nodeOf_82 : decode cX12_nodeOf 82 = .ok (.if_icmp .ne 6, 3) := by decide +kernel
theorem dX12_nodeOf_85 : decode cX12_nodeOf 85 = .ok (.iload 6, 2) := by decide +kernel
theorem dX12_nodeOf_87 : decode cX12_nodeOf 87 = .ok (.ireturn, 1) := by decide +kernel
theorem dX12_nodeOf_88 : decode cX12_nodeOf 88 = .ok (.aload_n 0, 1) := by decide +kernel
theorem dX12_nodeOf_89 : decode cX12_nodeOf 89 = .ok (.getfield 48, 3) := by decide +kernel
theorem dX12_nodeOf_92 : decode cX12_nodeOf 92 = .ok (.iload 6, 2) := by decide +kernel
theorem dX12_nodeOf_94 : decode cX12_nodeOf 94 = .ok (.iaload, 1) := by decide +kernel
theorem dX12_nodeOf_95 : decode cX12_nodeOf 95 = .ok (.istore 6, 2) := by decide +kernel
theorem dX12_nodeOf_97 : decode cX12_nodeOf 97 = .ok (.goto (-63), 3) := by decide +kernel
theorem dX12_nodeOf_100 : decode cX12_nodeOf 100 = .ok (.aload_n 0, 1) := by decide +kernel
theorem dX12_nodeOf_101 : decode cX12_nodeOf 101 = .ok (.getfield 334, 3) := by decide +kernel
theorem dX12_nodeOf_104 : decode cX12_nodeOf 104 = .ok (.sipush 300, 3) := by decide +kernel
theorem dX12_nodeOf_107 : decode cX12_nodeOf 107 = .ok (.if_icmp .ne 10, 3) := by decide +kernel
theorem dX12_nodeOf_110 : decode cX12_nodeOf 110 = .ok (.aload_n 0, 1) := by decide +kernel
theorem dX12_nodeOf_111 : decode cX12_nodeOf 111 = .ok (.iconst 1, 1) := by decide +kernel
theorem dX12_nodeOf_112 : decode cX12_nodeOf 112 = .ok (.putfield 337, 3) := by decide +kernel
theorem dX12_nodeOf_115 : decode cX12_nodeOf 115 = .ok (.iconst (-1), 1) := by decide +kernel
theorem dX12_nodeOf_116 : decode cX12_nodeOf 116 = .ok (.ireturn, 1) := by decide +kernel
theorem dX12_nodeOf_117 : decode cX12_nodeOf 117 = .ok (.aload_n 0, 1) := by decide +kernel
theorem dX12_nodeOf_118 : decode cX12_nodeOf 118 = .ok (.getfield 36, 3) := by decide +kernel
theorem dX12_nodeOf_121 : decode cX12_nodeOf 121 = .ok (.aload_n 0, 1) := by decide +kernel
theorem dX12_nodeOf_122 : decode cX12_nodeOf 122 = .ok (.getfield 334, 3) := by decide +kernel
theorem dX12_nodeOf_125 : decode cX12_nodeOf 125 = .ok (.iload_n 1, 1) := by decide +kernel
theorem dX12_nodeOf_126 : decode cX12_nodeOf 126 = .ok (.iastore, 1) := by decide +kernel
theorem dX12_nodeOf_127 : decode cX12_nodeOf 127 = .ok (.aload_n 0, 1) := by decide +kernel
theorem dX12_nodeOf_128 : decode cX12_nodeOf 128 = .ok (.getfield 39, 3) := by decide +kernel
theorem dX12_nodeOf_131 : decode cX12_nodeOf 131 = .ok (.aload_n 0, 1) := by decide +kernel
theorem dX12_nodeOf_132 : decode cX12_nodeOf 132 = .ok (.getfield 334, 3) := by decide +kernel
theorem dX12_nodeOf_135 : decode cX12_nodeOf 135 = .ok (.iload_n 2, 1) := by decide +kernel
theorem dX12_nodeOf_136 : decode cX12_nodeOf 136 = .ok (.iastore, 1) := by decide +kernel
theorem dX12_nodeOf_137 : decode cX12_nodeOf 137 = .ok (.aload_n 0, 1) := by decide +kernel
theorem dX12_nodeOf_138 : decode cX12_nodeOf 138 = .ok (.getfield 42, 3) := by decide +kernel
theorem dX12_nodeOf_141 : decode cX12_nodeOf 141 = .ok (.aload_n 0, 1) := by decide +kernel
theorem dX12_nodeOf_142 : decode cX12_nodeOf 142 = .ok (.getfield 334, 3) := by decide +kernel
theorem dX12_nodeOf_145 : decode cX12_nodeOf 145 = .ok (.iload_n 3, 1) := by decide +kernel
theorem dX12_nodeOf_146 : decode cX12_nodeOf 146 = .ok (.iastore, 1) := by decide +kernel
theorem dX12_nodeOf_147 : decode cX12_nodeOf 147 = .ok (.aload_n 0, 1) := by decide +kernel
theorem dX12_nodeOf_148 : decode cX12_nodeOf 148 = .ok (.getfield 45, 3) := by decide +kernel
theorem dX12_nodeOf_151 : decode cX12_nodeOf 151 = .ok (.aload_n 0, 1) := by decide +kernel
theorem dX12_nodeOf_152 : decode cX12_nodeOf 152 = .ok (.getfield 334, 3) := by decide +kernel
theorem dX12_nodeOf_155 : decode cX12_nodeOf 155 = .ok (.iload 4, 2) := by decide +kernel
theorem dX12_nodeOf_157 : decode cX12_nodeOf 157 = .ok (.iastore, 1) := by decide +kernel
theorem dX12_nodeOf_158 : decode cX12_nodeOf 158 = .ok (.aload_n 0, 1) := by decide +kernel
theorem dX12_nodeOf_159 : decode cX12_nodeOf 159 = .ok (.getfield 48, 3) := by decide +kernel
theorem dX12_nodeOf_162 : decode cX12_nodeOf 162 = .ok (.aload_n 0, 1) := by decide +kernel
theorem dX12_nodeOf_163 : decode cX12_nodeOf 163 = .ok (.getfield 334, 3) := by decide +kernel
theorem dX12_nodeOf_166 : decode cX12_nodeOf 166 = .ok (.aload_n 0, 1) := by decide +kernel
theorem dX12_nodeOf_167 : decode cX12_nodeOf 167 = .ok (.getfield 51, 3) := by decide +kernel
theorem dX12_nodeOf_170 : decode cX12_nodeOf 170 = .ok (.iload 5, 2) := by decide +kernel
theorem dX12_nodeOf_172 : decode cX12_nodeOf 172 = .ok (.iaload, 1) := by decide +kernel
theorem dX12_nodeOf_173 : decode cX12_nodeOf 173 = .ok (.iastore, 1) := by decide +kernel
theorem dX12_nodeOf_174 : decode cX12_nodeOf 174 = .ok (.aload_n 0, 1) := by decide +kernel
theorem dX12_nodeOf_175 : decode cX12_nodeOf 175 = .ok (.getfield 51, 3) := by decide +kernel
theorem dX12_nodeOf_178 : decode cX12_nodeOf 178 = .ok (.iload 5, 2) := by decide +kernel
theorem dX12_nodeOf_180 : decode cX12_nodeOf 180 = .ok (.aload_n 0, 1) := by decide +kernel
theorem dX12_nodeOf_181 : decode cX12_nodeOf 181 = .ok (.getfield 334, 3) := by decide +kernel
theorem dX12_nodeOf_184 : decode cX12_nodeOf 184 = .ok (.iastore, 1) := by decide +kernel
theorem dX12_nodeOf_185 : decode cX12_nodeOf 185 = .ok (.aload_n 0, 1) := by decide +kernel
theorem dX12_nodeOf_186 : decode cX12_nodeOf 186 = .ok (.dup, 1) := by decide +kernel
theorem dX12_nodeOf_187 : decode cX12_nodeOf 187 = .ok (.getfield 334, 3) := by decide +kernel
theorem dX12_nodeOf_190 : decode cX12_nodeOf 190 = .ok (.iconst 1, 1) := by decide +kernel
theorem dX12_nodeOf_191 : decode cX12_nodeOf 191 = .ok (.iadd, 1) := by decide +kernel
theorem dX12_nodeOf_192 : decode cX12_nodeOf 192 = .ok (.putfield 334, 3) := by decide +kernel
theorem dX12_nodeOf_195 : decode cX12_nodeOf 195 = .ok (.aload_n 0, 1) := by decide +kernel
theorem dX12_nodeOf_196 : decode cX12_nodeOf 196 = .ok (.getfield 334, 3) := by decide +kernel
theorem dX12_nodeOf_199 : decode cX12_nodeOf 199 = .ok (.iconst 1, 1) := by decide +kernel
theorem dX12_nodeOf_200 : decode cX12_nodeOf 200 = .ok (.isub, 1) := by decide +kernel
theorem dX12_nodeOf_201 : decode cX12_nodeOf 201 = .ok (.ireturn, 1) := by decide +kernel
theorem dX12_goesTo_0 : decode cX12_goesTo 0 = .ok (.aload_n 0, 1) := by decide +kernel
theorem dX12_goesTo_1 : decode cX12_goesTo 1 = .ok (.getfield 337, 3) := by decide +kernel
theorem dX12_goesTo_4 : decode cX12_goesTo 4 = .ok (.ifCond .eq 4, 3) := by decide +kernel
theorem dX12_goesTo_7 : decode cX12_goesTo 7 = .ok (.return_, 1) := by decide +kernel
theorem dX12_goesTo_8 : decode cX12_goesTo 8 = .ok (.aload_n 0, 1) := by decide +kernel
theorem dX12_goesTo_9 : decode cX12_goesTo 9 = .ok (.getfield 58, 3) := by decide +kernel
theorem dX12_goesTo_12 : decode cX12_goesTo 12 = .ok (.aload_n 0, 1) := by decide +kernel
theorem dX12_goesTo_13 : decode cX12_goesTo 13 = .ok (.getfield 341, 3) := by decide +kernel
theorem dX12_goesTo_16 : decode cX12_goesTo 16 = .ok (.iload_n 1, 1) := by decide +kernel
theorem dX12_goesTo_17 : decode cX12_goesTo 17 = .ok (.iastore, 1) := by decide +kernel
theorem dX12_goesTo_18 : decode cX12_goesTo 18 = .ok (.aload_n 0, 1) := by decide +kernel
theorem dX12_goesTo_19 : decode cX12_goesTo 19 = .ok (.dup, 1) := by decide +kernel
theorem dX12_goesTo_20 : decode cX12_goesTo 20 = .ok (.getfield 341, 3) := by decide +kernel
theorem dX12_goesTo_23 : decode cX12_goesTo 23 = .ok (.iconst 1, 1) := by decide +kernel
theorem dX12_goesTo_24 : decode cX12_goesTo 24 = .ok (.iadd, 1) := by decide +kernel
theorem dX12_goesTo_25 : decode cX12_goesTo 25 = .ok (.putfield 341, 3) := by decide +kernel
theorem dX12_goesTo_28 : decode cX12_goesTo 28 = .ok (.return_, 1) := by decide +kernel
theorem dX12_goesFromSet_0 : decode cX12_goesFromSet 0 = .ok (.aload_n 0, 1) := by decide +kernel
theorem dX12_goesFromSet_1 : decode cX12_goesFromSet 1 = .ok (.aload_n 0, 1) := by decide +kernel
theorem dX12_goesFromSet_2 : decode cX12_goesFromSet 2 = .ok (.iload_n 2, 1) := by decide +kernel
theorem dX12_goesFromSet_3 : decode cX12_goesFromSet 3 = .ok (.bipush (-2), 2) := by decide +kernel
theorem dX12_goesFromSet_5 : decode cX12_goesFromSet 5 = .ok (.iconst 0, 1) := by decide +kernel
theorem dX12_goesFromSet_6 : decode cX12_goesFromSet 6 = .ok (.iconst 0, 1) := by decide +kernel
theorem dX12_goesFromSet_7 : decode cX12_goesFromSet 7 = .ok (.invokevirtual 343, 3) := by decide +kernel
theorem dX12_goesFromSet_10 : decode cX12_goesFromSet 10 = .ok (.invokevirtual 347, 3) := by decide +kernel
theorem dX12_goesFromSet_13 : decode cX12_goesFromSet 13 = .ok (.iconst 1, 1) := by decide +kernel
theorem dX12_goesFromSet_14 : decode cX12_goesFromSet 14 = .ok (.istore_n 3, 1) := by decide +kernel
theorem dX12_goesFromSet_15 : decode cX12_goesFromSet 15 = .ok (.iload_n 3, 1) := by decide +kernel
theorem dX12_goesFromSet_16 : decode cX12_goesFromSet 16 = .ok (.aload_n 0, 1) := by decide +kernel
theorem dX12_goesFromSet_17 : decode cX12_goesFromSet 17 = .ok (.iload_n 1, 1) := by decide +kernel
theorem dX12_goesFromSet_18 : decode cX12_goesFromSet 18 = .ok (.iload_n 2, 1) := by decide +kernel
theorem dX12_goesFromSet_19 : decode cX12_goesFromSet 19 = .ok (.invokevirtual 319, 3) := by decide +kernel
theorem dX12_goesFromSet_22 : decode cX12_goesFromSet 22 = .ok (.if_icmp .gt 73, 3) := by decide +kernel
theorem dX12_goesFromSet_25 : decode cX12_goesFromSet 25 = .ok (.aload_n 0, 1) := by decide +kernel
theorem dX12_goesFromSet_26 : decode cX12_goesFromSet 26 = .ok (.invokevirtual 325, 3) := by decide +kernel
theorem dX12_goesFromSet_29 : decode cX12_goesFromSet 29 = .ok (.iload_n 2, 1) := by decide +kernel
theorem dX12_goesFromSet_30 : decode cX12_goesFromSet 30 = .ok (.ifCond .eq 7, 3) := by decide +kernel
theorem dX12_goesFromSet_33 : decode cX12_goesFromSet 33 = .ok (.iconst 1, 1) := by decide +kernel
theorem dX12_goesFromSet_34 : decode cX12_goesFromSet 34 = .ok (.goto 4, 3) := by decide +kernel
theorem dX12_goesFromSet_37 : decode cX12_goesFromSet 37 = .ok (.iconst 0, 1) := by decide +kernel
theorem dX12_goesFromSet_38 : decode cX12_goesFromSet 38 = .ok (.istore 4, 2) := by decide +kernel
theorem dX12_goesFromSet_40 : decode cX12_goesFromSet 40 = .ok (.iload 4, 2) := by decide +kernel
theorem dX12_goesFromSet_42 : decode cX12_goesFromSet 42 = .ok (.ifCond .eq 47, 3) := by decide +kernel
theorem dX12_goesFromSet_45 : decode cX12_goesFromSet 45 = .ok (.aload_n 0, 1) := by decide +kernel
theorem dX12_goesFromSet_46 : decode cX12_goesFromSet 46 = .ok (.getfield 337, 3) := by decide +kernel
theorem dX12_goesFromSet_49 : decode cX12_goesFromSet 49 = .ok (.ifCond .ne 40, 3) := by decide +kernel
theorem dX12_goesFromSet_52 : decode cX12_goesFromSet 52 = .ok (.aload_n 0, 1) := by decide +kernel
theorem dX12_goesFromSet_53 : decode cX12_goesFromSet 53 = .ok (.iload_n 1, 1) := by decide +kernel
theorem dX12_goesFromSet_54 : decode cX12_goesFromSet 54 = .ok (.iload_n 2, 1) := by decide +kernel
theorem dX12_goesFromSet_55 : decode cX12_goesFromSet 55 = .ok (.iload_n 3, 1) := by decide +kernel
theorem dX12_goesFromSet_56 : decode cX12_goesFromSet 56 = .ok (.invokevirtual 328, 3) := by decide +kernel
theorem dX12_goesFromSet_59 : decode cX12_goesFromSet 59 = .ok (.ifCond .eq 19, 3) := by decide +kernel
theorem dX12_goesFromSet_62 : decode cX12_goesFromSet 62 = .ok (.aload_n 0, 1) := by decide +kernel
theorem dX12_goesFromSet_63 : decode cX12_goesFromSet 63 = .ok (.aload_n 0, 1) := by decide +kernel
theorem dX12_goesFromSet_64 : decode cX12_goesFromSet 64 = .ok (.iload_n 2, 1) := by decide +kernel
theorem dX12_goesFromSet_65 : decode cX12_goesFromSet 65 = .ok (.iload_n 3, 1) := by decide +kernel
theorem dX12_goesFromSet_66 : decode cX12_goesFromSet 66 = .ok (.aload_n 0, 1) := by decide +kernel
theorem dX12_goesFromSet_67 : decode cX12_goesFromSet 67 = .ok (.iload_n 2, 1) := by decide +kernel
theorem dX12_goesFromSet_68 : decode cX12_goesFromSet 68 = .ok (.invokevirtual 350, 3) := by decide +kernel
theorem dX12_goesFromSet_71 : decode cX12_goesFromSet 71 = .ok (.iconst 0, 1) := by decide +kernel
theorem dX12_goesFromSet_72 : decode cX12_goesFromSet 72 = .ok (.invokevirtual 343, 3) := by decide +kernel
theorem dX12_goesFromSet_75 : decode cX12_goesFromSet 75 = .ok (.invokevirtual 347, 3) := by decide +kernel
theorem dX12_goesFromSet_78 : decode cX12_goesFromSet 78 = .ok (.aload_n 0, 1) := by decide +kernel
theorem dX12_goesFromSet_79 : decode cX12_goesFromSet 79 = .ok (.iload_n 2, 1) := by decide +kernel
theorem dX12_goesFromSet_80 : decode cX12_goesFromSet 80 = .ok (.iload_n 3, 1) := by decide +kernel
theorem dX12_goesFromSet_81 : decode cX12_goesFromSet 81 = .ok (.invokevirtual 331, 3) := by decide +kernel
theorem dX12_goesFromSet_84 : decode cX12_goesFromSet 84 = .ok (.istore 4, 2) := by decide +kernel
theorem dX12_goesFromSet_86 : decode cX12_goesFromSet 86 = .ok (.goto (-46), 3) := by decide +kernel
theorem dX12_goesFromSet_89 : decode cX12_goesFromSet 89 = .ok (.iinc 3 2, 3) := by decide +kernel
theorem dX12_goesFromSet_92 : decode cX12_goesFromSet 92 = .ok (.goto (-77), 3) := by decide +kernel
theorem dX12_goesFromSet_95 : decode cX12_goesFromSet 95 = .ok (.return_, 1) := by decide +kernel
theorem dX12_mostOf_0 : decode cX12_mostOf 0 = .ok (.bipush 7, 2) := by decide +kernel
theorem dX12_mostOf_2 : decode cX12_mostOf 2 = .ok (.istore 5, 2) := by decide +kernel
theorem dX12_mostOf_4 : decode cX12_mostOf 4 = .ok (.iconst 0, 1) := by decide +kernel
theorem dX12_mostOf_5 : decode cX12_mostOf 5 = .ok (.istore 6, 2) := by decide +kernel
theorem dX12_mostOf_7 : decode cX12_mostOf 7 = .ok (.iload 6, 2) := by decide +kernel
theorem dX12_mostOf_9 : decode cX12_mostOf 9 = .ok (.iconst 4, 1) := by decide +kernel
theorem dX12_mostOf_10 : decode cX12_mostOf 10 = .ok (.if_icmp .ge 70, 3) := by decide +kernel
theorem dX12_mostOf_13 : decode cX12_mostOf 13 = .ok (.aload_n 0, 1) := by decide +kernel
theorem dX12_mostOf_14 : decode cX12_mostOf 14 = .ok (.getfield 36, 3) := by decide +kernel
theorem dX12_mostOf_17 : decode cX12_mostOf 17 = .ok (.iload_n 2, 1) := by decide +kernel
theorem dX12_mostOf_18 : decode cX12_mostOf 18 = .ok (.iaload, 1) := by decide +kernel
theorem dX12_mostOf_19 : decode cX12_mostOf 19 = .ok (.iload 6, 2) := by decide +kernel
theorem dX12_mostOf_21 : decode cX12_mostOf 21 = .ok (.ishr, 1) := by decide +kernel
theorem dX12_mostOf_22 : decode cX12_mostOf 22 = .ok (.iconst 1, 1) := by decide +kernel
theorem dX12_mostOf_23 : decode cX12_mostOf 23 = .ok (.iand, 1) := by decide +kernel
theorem dX12_mostOf_24 : decode cX12_mostOf 24 = .ok (.iconst 1, 1) := by decide +kernel
theorem dX12_mostOf_25 : decode cX12_mostOf 25 = .ok (.if_icmp .ne 49, 3) := by decide +kernel
theorem dX12_mostOf_28 : decode cX12_mostOf 28 = .ok (.aload_n 0, 1) := by decide +kernel
theorem dX12_mostOf_29 : decode cX12_mostOf 29 = .ok (.iload_n 1, 1) := by decide +kernel
theorem dX12_mostOf_30 : decode cX12_mostOf 30 = .ok (.iload_n 3, 1) := by decide +kernel
theorem dX12_mostOf_31 : decode cX12_mostOf 31 = .ok (.iload 6, 2) := by decide +kernel
theorem dX12_mostOf_33 : decode cX12_mostOf 33 = .ok (.invokevirtual 309, 3) := by decide +kernel
theorem dX12_mostOf_36 : decode cX12_mostOf 36 = .ok (.iload 4, 2) := by decide +kernel
theorem dX12_mostOf_38 : decode cX12_mostOf 38 = .ok (.ishr, 1) := by decide +kernel
theorem dX12_mostOf_39 : decode cX12_mostOf 39 = .ok (.iconst 1, 1) := by decide +kernel
theorem dX12_mostOf_40 : decode cX12_mostOf 40 = .ok (.iand, 1) := by decide +kernel
theorem dX12_mostOf_41 : decode cX12_mostOf 41 = .ok (.iconst 1, 1) := by decide +kernel
theorem dX12_mostOf_42 : decode cX12_mostOf 42 = .ok (.if_icmp .ne 32, 3) := by decide +kernel
theorem dX12_mostOf_45 : decode cX12_mostOf 45 = .ok (.aload_n 0, 1) := by decide +kernel
theorem dX12_mostOf_46 : decode cX12_mostOf 46 = .ok (.getfield 42, 3) := by decide +kernel
theorem dX12_mostOf_49 : decode cX12_mostOf 49 = .ok (.iload_n 2, 1) := by decide +kernel
theorem dX12_mostOf_50 : decode cX12_mostOf 50 = .ok (.iaload, 1) := by decide +kernel
theorem dX12_mostOf_51 : decode cX12_mostOf 51 = .ok (.iload 6, 2) := by decide +kernel
theorem dX12_mostOf_53 : decode cX12_mostOf 53 = .ok (.invokestatic 353, 3) := by decide +kernel
theorem dX12_mostOf_56 : decode cX12_mostOf 56 = .ok (.iload 5, 2) := by decide +kernel
theorem dX12_mostOf_58 : decode cX12_mostOf 58 = .ok (.if_icmp .ge 16, 3) := by decide +kernel
theorem dX12_mostOf_61 : decode cX12_mostOf 61 = .ok (.aload_n 0, 1) := by decide +kernel
theorem dX12_mostOf_62 : decode cX12_mostOf 62 = .ok (.getfield 42, 3) := by decide +kernel
theorem dX12_mostOf_65 : decode cX12_mostOf 65 = .ok (.iload_n 2, 1) := by decide +kernel
theorem dX12_mostOf_66 : decode cX12_mostOf 66 = .ok (.iaload, 1) := by decide +kernel
theorem dX12_mostOf_67 : decode cX12_mostOf 67 = .ok (.iload 6, 2) := by decide +kernel
theorem dX12_mostOf_69 : decode cX12_mostOf 69 = .ok (.invokestatic 353, 3) := by decide +kernel
theorem dX12_mostOf_72 : decode cX12_mostOf 72 = .ok (.istore 5, 2) := by decide +kernel
theorem dX12_mostOf_74 : decode cX12_mostOf 74 = .ok (.iinc 6 1, 3) := by decide +kernel
theorem dX12_mostOf_77 : decode cX12_mostOf 77 = .ok (.goto (-70), 3) := by decide +kernel
theorem dX12_mostOf_80 : decode cX12_mostOf 80 = .ok (.iload 5, 2) := by decide +kernel
theorem dX12_mostOf_82 : decode cX12_mostOf 82 = .ok (.ireturn, 1) := by decide +kernel
theorem dX12_isUnder_0 : decode cX12_isUnder 0 = .ok (.iconst 0, 1) := by decide +kernel
theorem dX12_isUnder_1 : decode cX12_isUnder 1 = .ok (.istore_n 2, 1) := by decide +kernel
theorem dX12_isUnder_2 : decode cX12_isUnder 2 = .ok (.iload_n 2, 1) := by decide +kernel
theorem dX12_isUnder_3 : decode cX12_isUnder 3 = .ok (.iconst 4, 1) := by decide +kernel
theorem dX12_isUnder_4 : decode cX12_isUnder 4 = .ok (.if_icmp .ge 35, 3) := by decide +kernel
theorem dX12_isUnder_7 : decode cX12_isUnder 7 = .ok (.iload_n 1, 1) := by decide +kernel
theorem dX12_isUnder_8 : decode cX12_isUnder 8 = .ok (.iload_n 2, 1) := by decide +kernel
theorem dX12_isUnder_9 : decode cX12_isUnder 9 = .ok (.ishr, 1) := by decide +kernel
theorem dX12_isUnder_10 : decode cX12_isUnder 10 = .ok (.iconst 1, 1) := by decide +kernel
theorem dX12_isUnder_11 : decode cX12_isUnder 11 = .ok (.iand, 1) := by decide +kernel
theorem dX12_isUnder_12 : decode cX12_isUnder 12 = .ok (.iconst 1, 1) := by decide +kernel
theorem dX12_isUnder_13 : decode cX12_isUnder 13 = .ok (.if_icmp .ne 20, 3) := by decide +kernel
theorem dX12_isUnder_16 : decode cX12_isUnder 16 = .ok (.aload_n 0, 1) := by decide +kernel
theorem dX12_isUnder_17 : decode cX12_isUnder 17 = .ok (.getfield 33, 3) := by decide +kernel
theorem dX12_isUnder_20 : decode cX12_isUnder 20 = .ok (.iload_n 2, 1) := by decide +kernel
theorem dX12_isUnder_21 : decode cX12_isUnder 21 = .ok (.iaload, 1) := by decide +kernel
theorem dX12_isUnder_22 : decode cX12_isUnder 22 = .ok (.aload_n 0, 1) := by decide +kernel
theorem dX12_isUnder_23 : decode cX12_isUnder 23 = .ok (.getfield 64, 3) := by decide +kernel
theorem dX12_isUnder_26 : decode cX12_isUnder 26 = .ok (.iload_n 2, 1) := by decide +kernel
theorem dX12_isUnder_27 : decode cX12_isUnder 27 = .ok (.iaload, 1) := by decide +kernel
theorem dX12_isUnder_28 : decode cX12_isUnder 28 = .ok (.if_icmp .le 5, 3) := by decide +kernel
theorem dX12_isUnder_31 : decode cX12_isUnder 31 = .ok (.iconst 0, 1) := by decide +kernel
theorem dX12_isUnder_32 : decode cX12_isUnder 32 = .ok (.ireturn, 1) := by decide +kernel
theorem dX12_isUnder_33 : decode cX12_isUnder 33 = .ok (.iinc 2 1, 3) := by decide +kernel
theorem dX12_isUnder_36 : decode cX12_isUnder 36 = .ok (.goto (-34), 3) := by decide +kernel
theorem dX12_isUnder_39 : decode cX12_isUnder 39 = .ok (.iconst 1, 1) := by decide +kernel
theorem dX12_isUnder_40 : decode cX12_isUnder 40 = .ok (.ireturn, 1) := by decide +kernel
theorem dX12_evens_0 : decode cX12_evens 0 = .ok (.iconst 0, 1) := by decide +kernel
theorem dX12_evens_1 : decode cX12_evens 1 = .ok (.istore_n 2, 1) := by decide +kernel
theorem dX12_evens_2 : decode cX12_evens 2 = .ok (.iconst 0, 1) := by decide +kernel
theorem dX12_evens_3 : decode cX12_evens 3 = .ok (.istore_n 3, 1) := by decide +kernel
theorem dX12_evens_4 : decode cX12_evens 4 = .ok (.iload_n 3, 1) := by decide +kernel
theorem dX12_evens_5 : decode cX12_evens 5 = .ok (.iconst 4, 1) := by decide +kernel
theorem dX12_evens_6 : decode cX12_evens 6 = .ok (.if_icmp .ge 35, 3) := by decide +kernel
theorem dX12_evens_9 : decode cX12_evens 9 = .ok (.iload_n 1, 1) := by decide +kernel
theorem dX12_evens_10 : decode cX12_evens 10 = .ok (.iload_n 3, 1) := by decide +kernel
theorem dX12_evens_11 : decode cX12_evens 11 = .ok (.ishr, 1) := by decide +kernel
theorem dX12_evens_12 : decode cX12_evens 12 = .ok (.iconst 1, 1) := by decide +kernel
theorem dX12_evens_13 : decode cX12_evens 13 = .ok (.iand, 1) := by decide +kernel
theorem dX12_evens_14 : decode cX12_evens 14 = .ok (.iconst 1, 1) := by decide +kernel
theorem dX12_evens_15 : decode cX12_evens 15 = .ok (.if_icmp .ne 20, 3) := by decide +kernel
theorem dX12_evens_18 : decode cX12_evens 18 = .ok (.aload_n 0, 1) := by decide +kernel
theorem dX12_evens_19 : decode cX12_evens 19 = .ok (.getfield 33, 3) := by decide +kernel
theorem dX12_evens_22 : decode cX12_evens 22 = .ok (.iload_n 3, 1) := by decide +kernel
theorem dX12_evens_23 : decode cX12_evens 23 = .ok (.iaload, 1) := by decide +kernel
theorem dX12_evens_24 : decode cX12_evens 24 = .ok (.iconst 2, 1) := by decide +kernel
theorem dX12_evens_25 : decode cX12_evens 25 = .ok (.irem, 1) := by decide +kernel
theorem dX12_evens_26 : decode cX12_evens 26 = .ok (.ifCond .ne 9, 3) := by decide +kernel
theorem dX12_evens_29 : decode cX12_evens 29 = .ok (.iload_n 2, 1) := by decide +kernel
theorem dX12_evens_30 : decode cX12_evens 30 = .ok (.iconst 1, 1) := by decide +kernel
theorem dX12_evens_31 : decode cX12_evens 31 = .ok (.iload_n 3, 1) := by decide +kernel
theorem dX12_evens_32 : decode cX12_evens 32 = .ok (.ishl, 1) := by decide +kernel
theorem dX12_evens_33 : decode cX12_evens 33 = .ok (.ior, 1) := by decide +kernel
theorem dX12_evens_34 : decode cX12_evens 34 = .ok (.istore_n 2, 1) := by decide +kernel
theorem dX12_evens_35 : decode cX12_evens 35 = .ok (.iinc 3 1, 3) := by decide +kernel
theorem dX12_evens_38 : decode cX12_evens 38 = .ok (.goto (-34), 3) := by decide +kernel
theorem dX12_evens_41 : decode cX12_evens 41 = .ok (.iload_n 2, 1) := by decide +kernel
theorem dX12_evens_42 : decode cX12_evens 42 = .ok (.ireturn, 1) := by decide +kernel
theorem dX12_goesFromPair_0 : decode cX12_goesFromPair 0 = .ok (.iconst 0, 1) := by decide +kernel
theorem dX12_goesFromPair_1 : decode cX12_goesFromPair 1 = .ok (.istore 5, 2) := by decide +kernel
theorem dX12_goesFromPair_3 : decode cX12_goesFromPair 3 = .ok (.iload 5, 2) := by decide +kernel
theorem dX12_goesFromPair_5 : decode cX12_goesFromPair 5 = .ok (.iconst 4, 1) := by decide +kernel
theorem dX12_goesFromPair_6 : decode cX12_goesFromPair 6 = .ok (.if_icmp .ge 25, 3) := by decide +kernel
theorem dX12_goesFromPair_9 : decode cX12_goesFromPair 9 = .ok (.aload_n 0, 1) := by decide +kernel
theorem dX12_goesFromPair_10 : decode cX12_goesFromPair 10 = .ok (.getfield 64, 3) := by decide +kernel
theorem dX12_goesFromPair_13 : decode cX12_goesFromPair 13 = .ok (.iload 5, 2) := by decide +kernel
theorem dX12_goesFromPair_15 : decode cX12_goesFromPair 15 = .ok (.aload_n 0, 1) := by decide +kernel
theorem dX12_goesFromPair_16 : decode cX12_goesFromPair 16 = .ok (.iload_n 1, 1) := by decide +kernel
theorem dX12_goesFromPair_17 : decode cX12_goesFromPair 17 = .ok (.iload_n 2, 1) := by decide +kernel
theorem dX12_goesFromPair_18 : decode cX12_goesFromPair 18 = .ok (.iload_n 3, 1) := by decide +kernel
theorem dX12_goesFromPair_19 : decode cX12_goesFromPair 19 = .ok (.iload 5, 2) := by decide +kernel
theorem dX12_goesFromPair_21 : decode cX12_goesFromPair 21 = .ok (.invokevirtual 356, 3) := by decide +kernel
theorem dX12_goesFromPair_24 : decode cX12_goesFromPair 24 = .ok (.iastore, 1) := by decide +kernel
theorem dX12_goesFromPair_25 : decode cX12_goesFromPair 25 = .ok (.iinc 5 1, 3) := by decide +kernel
theorem dX12_goesFromPair_28 : decode cX12_goesFromPair 28 = .ok (.goto (-25), 3) := by decide +kernel
theorem dX12_goesFromPair_31 : decode cX12_goesFromPair 31 = .ok (.aload_n 0, 1) := by decide +kernel
theorem dX12_goesFromPair_32 : decode cX12_goesFromPair 32 = .ok (.getfield 39, 3) := by decide +kernel
theorem dX12_goesFromPair_35 : decode cX12_goesFromPair 35 = .ok (.iload_n 2, 1) := by decide +kernel
theorem dX12_goesFromPair_36 : decode cX12_goesFromPair 36 = .ok (.iaload, 1) := by decide +kernel
theorem dX12_goesFromPair_37 : decode cX12_goesFromPair 37 = .ok (.istore 5, 2) := by decide +kernel
theorem dX12_goesFromPair_39 : decode cX12_goesFromPair 39 = .ok (.aload_n 0, 1) := by decide +kernel
theorem dX12_goesFromPair_40 : decode cX12_goesFromPair 40 = .ok (.getfield 45, 3) := by decide +kernel
theorem dX12_goesFromPair_43 : decode cX12_goesFromPair 43 = .ok (.iload_n 2, 1) := by decide +kernel
theorem dX12_goesFromPair_44 : decode cX12_goesFromPair 44 = .ok (.iaload, 1) := by decide +kernel
theorem dX12_goesFromPair_45 : decode cX12_goesFromPair 45 = .ok (.ifCond .ne 8, 3) := by decide +kernel
theorem dX12_goesFromPair_48 : decode cX12_goesFromPair 48 = .ok (.iload 4, 2) := by decide +kernel
theorem dX12_goesFromPair_50 : decode cX12_goesFromPair 50 = .ok (.goto 15, 3) := by decide +kernel
theorem dX12_goesFromPair_53 : decode cX12_goesFromPair 53 = .ok (.aload_n 0, 1) := by decide +kernel
theorem dX12_goesFromPair_54 : decode cX12_goesFromPair 54 = .ok (.iload_n 1, 1) := by decide +kernel
theorem dX12_goesFromPair_55 : decode cX12_goesFromPair 55 = .ok (.aload_n 0, 1) := by decide +kernel
theorem dX12_goesFromPair_56 : decode cX12_goesFromPair 56 = .ok (.getfield 45, 3) := by decide +kernel
theorem dX12_goesFromPair_59 : decode cX12_goesFromPair 59 = .ok (.iload_n 2, 1) := by decide +kernel
theorem dX12_goesFromPair_60 : decode cX12_goesFromPair 60 = .ok (.iaload, 1) := by decide +kernel
theorem dX12_goesFromPair_61 : decode cX12_goesFromPair 61 = .ok (.iload_n 3, 1) := by decide +kernel
theorem dX12_goesFromPair_62 : decode cX12_goesFromPair 62 = .ok (.invokevirtual 316, 3) := by decide +kernel
theorem dX12_goesFromPair_65 : decode cX12_goesFromPair 65 = .ok (.istore 6, 2) := by decide +kernel
theorem dX12_goesFromPair_67 : decode cX12_goesFromPair 67 = .ok (.aload_n 0, 1) := by decide +kernel
theorem dX12_goesFromPair_68 : decode cX12_goesFromPair 68 = .ok (.invokevirtual 325, 3) := by decide +kernel
theorem dX12_goesFromPair_71 : decode cX12_goesFromPair 71 = .ok (.iload 4, 2) := by decide +kernel
theorem dX12_goesFromPair_73 : decode cX12_goesFromPair 73 = .ok (.ifCond .eq 7, 3) := by decide +kernel
theorem dX12_goesFromPair_76 : decode cX12_goesFromPair 76 = .ok (.iconst 1, 1) := by decide +kernel
theorem dX12_goesFromPair_77 : decode cX12_goesFromPair 77 = .ok (.goto 4, 3) := by decide +kernel
theorem dX12_goesFromPair_80 : decode cX12_goesFromPair 80 = .ok (.iconst 0, 1) := by decide +kernel
theorem dX12_goesFromPair_81 : decode cX12_goesFromPair 81 = .ok (.istore 7, 2) := by decide +kernel
theorem dX12_goesFromPair_83 : decode cX12_goesFromPair 83 = .ok (.iload 7, 2) := by decide +kernel
theorem dX12_goesFromPair_85 : decode cX12_goesFromPair 85 = .ok (.ifCond .eq 71, 3) := by decide +kernel
theorem dX12_goesFromPair_88 : decode cX12_goesFromPair 88 = .ok (.aload_n 0, 1) := by decide +kernel
theorem dX12_goesFromPair_89 : decode cX12_goesFromPair 89 = .ok (.getfield 337, 3) := by decide +kernel
theorem dX12_goesFromPair_92 : decode cX12_goesFromPair 92 = .ok (.ifCond .ne 64, 3) := by decide +kernel
theorem dX12_goesFromPair_95 : decode cX12_goesFromPair 95 = .ok (.aload_n 0, 1) := by decide +kernel
theorem dX12_goesFromPair_96 : decode cX12_goesFromPair 96 = .ok (.iload 4, 2) := by decide +kernel
theorem dX12_goesFromPair_98 : decode cX12_goesFromPair 98 = .ok (.invokevirtual 359, 3) := by decide +kernel
theorem dX12_goesFromPair_101 : decode cX12_goesFromPair 101 = .ok (.ifCond .eq 42, 3) := by decide +kernel
theorem dX12_goesFromPair_104 : decode cX12_goesFromPair 104 = .ok (.aload_n 0, 1) := by decide +kernel
theorem dX12_goesFromPair_105 : decode cX12_goesFromPair 105 = .ok (.iload_n 1, 1) := by decide +kernel
theorem dX12_goesFromPair_106 : decode cX12_goesFromPair 106 = .ok (.iload 4, 2) := by decide +kernel
theorem dX12_goesFromPair_108 : decode cX12_goesFromPair 108 = .ok (.iload 5, 2) := by decide +kernel
theorem dX12_goesFromPair_110 : decode cX12_goesFromPair 110 = .ok (.invokevirtual 328, 3) := by decide +kernel
theorem dX12_goesFromPair_113 : decode cX12_goesFromPair 113 = .ok (.ifCond .eq 30, 3) := by decide +kernel
theorem dX12_goesFromPair_116 : decode cX12_goesFromPair 116 = .ok (.aload_n 0, 1) := by decide +kernel
theorem dX12_goesFromPair_117 : decode cX12_goesFromPair 117 = .ok (.aload_n 0, 1) := by decide +kernel
theorem dX12_goesFromPair_118 : decode cX12_goesFromPair 118 = .ok (.iload 4, 2) := by decide +kernel
theorem dX12_goesFromPair_120 : decode cX12_goesFromPair 120 = .ok (.iload 5, 2) := by decide +kernel
theorem dX12_goesFromPair_122 : decode cX12_goesFromPair 122 = .ok (.aload_n 0, 1) := by decide +kernel
theorem dX12_goesFromPair_123 : decode cX12_goesFromPair 123 = .ok (.iload 4, 2) := by decide +kernel
theorem dX12_goesFromPair_125 : decode cX12_goesFromPair 125 = .ok (.invokevirtual 350, 3) := by decide +kernel
theorem dX12_goesFromPair_128 : decode cX12_goesFromPair 128 = .ok (.aload_n 0, 1) := by decide +kernel
theorem dX12_goesFromPair_129 : decode cX12_goesFromPair 129 = .ok (.iload 4, 2) := by decide +kernel
theorem dX12_goesFromPair_131 : decode cX12_goesFromPair 131 = .ok (.invokevirtual 362, 3) := by decide +kernel
theorem dX12_goesFromPair_134 : decode cX12_goesFromPair 134 = .ok (.iload 6, 2) := by decide +kernel
theorem dX12_goesFromPair_136 : decode cX12_goesFromPair 136 = .ok (.iand, 1) := by decide +kernel
theorem dX12_goesFromPair_137 : decode cX12_goesFromPair 137 = .ok (.invokevirtual 343, 3) := by decide +kernel
theorem dX12_goesFromPair_140 : decode cX12_goesFromPair 140 = .ok (.invokevirtual 347, 3) := by decide +kernel
theorem dX12_goesFromPair_143 : decode cX12_goesFromPair 143 = .ok (.aload_n 0, 1) := by decide +kernel
theorem dX12_goesFromPair_144 : decode cX12_goesFromPair 144 = .ok (.iload 4, 2) := by decide +kernel
theorem dX12_goesFromPair_146 : decode cX12_goesFromPair 146 = .ok (.iload 5, 2) := by decide +kernel
theorem dX12_goesFromPair_148 : decode cX12_goesFromPair 148 = .ok (.invokevirtual 331, 3) := by decide +kernel
theorem dX12_goesFromPair_151 : decode cX12_goesFromPair 151 = .ok (.istore 7, 2) := by decide +kernel
theorem dX12_goesFromPair_153 : decode cX12_goesFromPair 153 = .ok (.goto (-70), 3) := by decide +kernel
theorem dX12_goesFromPair_156 : decode cX12_goesFromPair 156 = .ok (.return_, 1) := by decide +kernel
theorem dX12_lays_0 : decode cX12_lays 0 = .ok (.aload_n 0, 1) := by decide +kernel
theorem dX12_lays_1 : decode cX12_lays 1 = .ok (.getfield 61, 3) := by decide +kernel
theorem dX12_lays_4 : decode cX12_lays 4 = .ok (.iload_n 1, 1) := by decide +kernel
theorem dX12_lays_5 : decode cX12_lays 5 = .ok (.if_icmp .ne 16, 3) := by decide +kernel
theorem dX12_lays_8 : decode cX12_lays 8 = .ok (.aload_n 0, 1) := by decide +kernel
theorem dX12_lays_9 : decode cX12_lays 9 = .ok (.getfield 337, 3) := by decide +kernel
theorem dX12_lays_12 : decode cX12_lays 12 = .ok (.ifCond .ne 7, 3) := by decide +kernel
theorem dX12_lays_15 : decode cX12_lays 15 = .ok (.iconst 1, 1) := by decide +kernel
theorem dX12_lays_16 : decode cX12_lays 16 = .ok (.goto 4, 3) := by decide +kernel
theorem dX12_lays_19 : decode cX12_lays 19 = .ok (.iconst 0, 1) := by decide +kernel
theorem dX12_lays_20 : decode cX12_lays 20 = .ok (.ireturn, 1) := by decide +kernel
theorem dX12_lays_21 : decode cX12_lays 21 = .ok (.aload_n 0, 1) := by decide +kernel
theorem dX12_lays_22 : decode cX12_lays 22 = .ok (.iload_n 1, 1) := by decide +kernel
theorem dX12_lays_23 : decode cX12_lays 23 = .ok (.putfield 61, 3) := by decide +kernel
theorem dX12_lays_26 : decode cX12_lays 26 = .ok (.aload_n 0, 1) := by decide +kernel
theorem dX12_lays_27 : decode cX12_lays 27 = .ok (.iconst 0, 1) := by decide +kernel
theorem dX12_lays_28 : decode cX12_lays 28 = .ok (.putfield 337, 3) := by decide +kernel
theorem dX12_lays_31 : decode cX12_lays 31 = .ok (.aload_n 0, 1) := by decide +kernel
theorem dX12_lays_32 : decode cX12_lays 32 = .ok (.iconst 0, 1) := by decide +kernel
theorem dX12_lays_33 : decode cX12_lays 33 = .ok (.putfield 334, 3) := by decide +kernel
theorem dX12_lays_36 : decode cX12_lays 36 = .ok (.aload_n 0, 1) := by decide +kernel
theorem dX12_lays_37 : decode cX12_lays 37 = .ok (.iconst 0, 1) := by decide +kernel
theorem dX12_lays_38 : decode cX12_lays 38 = .ok (.putfield 341, 3) := by decide +kernel
theorem dX12_lays_41 : decode cX12_lays 41 = .ok (.iconst 0, 1) := by decide +kernel
theorem dX12_lays_42 : decode cX12_lays 42 = .ok (.istore_n 2, 1) := by decide +kernel
theorem dX12_lays_43 : decode cX12_lays 43 = .ok (.iload_n 2, 1) := by decide +kernel
theorem dX12_lays_44 : decode cX12_lays 44 = .ok (.sipush 1024, 3) := by decide +kernel
theorem dX12_lays_47 : decode cX12_lays 47 = .ok (.if_icmp .ge 16, 3) := by decide +kernel
theorem dX12_lays_50 : decode cX12_lays 50 = .ok (.aload_n 0, 1) := by decide +kernel
theorem dX12_lays_51 : decode cX12_lays 51 = .ok (.getfield 51, 3) := by decide +kernel
theorem dX12_lays_54 : decode cX12_lays 54 = .ok (.iload_n 2, 1) := by decide +kernel
theorem dX12_lays_55 : decode cX12_lays 55 = .ok (.iconst (-1), 1) := by decide +kernel
theorem dX12_lays_56 : decode cX12_lays 56 = .ok (.iastore, 1) := by decide +kernel
theorem dX12_lays_57 : decode cX12_lays 57 = .ok (.iinc 2 1, 3) := by decide +kernel
theorem dX12_lays_60 : decode cX12_lays 60 = .ok (.goto (-17), 3) := by decide +kernel
theorem dX12_lays_63 : decode cX12_lays 63 = .ok (.aload_n 0, 1) := by decide +kernel
theorem dX12_lays_64 : decode cX12_lays 64 = .ok (.aload_n 0, 1) := by decide +kernel
theorem dX12_lays_65 : decode cX12_lays 65 = .ok (.getfield 20, 3) := by decide +kernel
theorem dX12_lays_68 : decode cX12_lays 68 = .ok (.iload_n 1, 1) := by decide +kernel
theorem dX12_lays_69 : decode cX12_lays 69 = .ok (.iaload, 1) := by decide +kernel
theorem dX12_lays_70 : decode cX12_lays 70 = .ok (.bipush (-2), 2) := by decide +kernel
theorem dX12_lays_72 : decode cX12_lays 72 = .ok (.iconst 0, 1) := by decide +kernel
theorem dX12_lays_73 : decode cX12_lays 73 = .ok (.iconst 0, 1) := by decide +kernel
theorem dX12_lays_74 : decode cX12_lays 74 = .ok (.invokevirtual 343, 3) := by decide +kernel
theorem dX12_lays_77 : decode cX12_lays 77 = .ok (.istore_n 2, 1) := by decide +kernel
theorem dX12_lays_78 : decode cX12_lays 78 = .ok (.iconst 0, 1) := by decide +kernel
theorem dX12_lays_79 : decode cX12_lays 79 = .ok (.istore_n 3, 1) := by decide +kernel
theorem dX12_lays_80 : decode cX12_lays 80 = .ok (.iload_n 3, 1) := by decide +kernel
theorem dX12_lays_81 : decode cX12_lays 81 = .ok (.aload_n 0, 1) := by decide +kernel
theorem dX12_lays_82 : decode cX12_lays 82 = .ok (.getfield 334, 3) := by decide +kernel
theorem dX12_lays_85 : decode cX12_lays 85 = .ok (.if_icmp .ge 111, 3) := by decide +kernel
theorem dX12_lays_88 : decode cX12_lays 88 = .ok (.aload_n 0, 1) := by decide +kernel
theorem dX12_lays_89 : decode cX12_lays 89 = .ok (.getfield 337, 3) := by decide +kernel
theorem dX12_lays_92 : decode cX12_lays 92 = .ok (.ifCond .ne 104, 3) := by decide +kernel
theorem dX12_lays_95 : decode cX12_lays 95 = .ok (.iconst 0, 1) := by decide +kernel
theorem dX12_lays_96 : decode cX12_lays 96 = .ok (.istore 4, 2) := by decide +kernel
theorem dX12_lays_98 : decode cX12_lays 98 = .ok (.iload 4, 2) := by decide +kernel
theorem dX12_lays_100 : decode cX12_lays 100 = .ok (.iconst 3, 1) := by decide +kernel
theorem dX12_lays_101 : decode cX12_lays 101 = .ok (.if_icmp .ge 89, 3) := by decide +kernel
theorem dX12_lays_104 : decode cX12_lays 104 = .ok (.aload_n 0, 1) := by decide +kernel
theorem dX12_lays_105 : decode cX12_lays 105 = .ok (.getfield 54, 3) := by decide +kernel
theorem dX12_lays_108 : decode cX12_lays 108 = .ok (.iconst 3, 1) := by decide +kernel
theorem dX12_lays_109 : decode cX12_lays 109 = .ok (.iload_n 3, 1) := by decide +kernel
theorem dX12_lays_110 : decode cX12_lays 110 = .ok (.imul, 1) := by decide +kernel
theorem dX12_lays_111 : decode cX12_lays 111 = .ok (.iload 4, 2) := by decide +kernel
theorem dX12_lays_113 : decode cX12_lays 113 = .ok (.iadd, 1) := by decide +kernel
theorem dX12_lays_114 : decode cX12_lays 114 = .ok (.aload_n 0, 1) := by decide +kernel
theorem dX12_lays_115 : decode cX12_lays 115 = .ok (.getfield 341, 3) := by decide +kernel
theorem dX12_lays_118 : decode cX12_lays 118 = .ok (.iastore, 1) := by decide +kernel
theorem dX12_lays_119 : decode cX12_lays 119 = .ok (.iload 4, 2) := by decide +kernel
theorem dX12_lays_121 : decode cX12_lays 121 = .ok (.aload_n 0, 1) := by decide +kernel
theorem dX12_lays_122 : decode cX12_lays 122 = .ok (.getfield 283, 3) := by decide +kernel
theorem dX12_lays_125 : decode cX12_lays 125 = .ok (.if_icmp .ge 59, 3) := by decide +kernel
theorem dX12_lays_128 : decode cX12_lays 128 = .ok (.aload_n 0, 1) := by decide +kernel
theorem dX12_lays_129 : decode cX12_lays 129 = .ok (.getfield 337, 3) := by decide +kernel
theorem dX12_lays_132 : decode cX12_lays 132 = .ok (.ifCond .eq 6, 3) := by decide +kernel
theorem dX12_lays_135 : decode cX12_lays 135 = .ok (.goto 49, 3) := by decide +kernel
theorem dX12_lays_138 : decode cX12_lays 138 = .ok (.aload_n 0, 1) := by decide +kernel
theorem dX12_lays_139 : decode cX12_lays 139 = .ok (.iload_n 1, 1) := by decide +kernel
theorem dX12_lays_140 : decode cX12_lays 140 = .ok (.aload_n 0, 1) := by decide +kernel
theorem dX12_lays_141 : decode cX12_lays 141 = .ok (.getfield 36, 3) := by decide +kernel
theorem dX12_lays_144 : decode cX12_lays 144 = .ok (.iload_n 3, 1) := by decide +kernel
theorem dX12_lays_145 : decode cX12_lays 145 = .ok (.iaload, 1) := by decide +kernel
theorem dX12_lays_146 : decode cX12_lays 146 = .ok (.iload 4, 2) := by decide +kernel
theorem dX12_lays_148 : decode cX12_lays 148 = .ok (.invokevirtual 316, 3) := by decide +kernel
theorem dX12_lays_151 : decode cX12_lays 151 = .ok (.istore 5, 2) := by decide +kernel
theorem dX12_lays_153 : decode cX12_lays 153 = .ok (.aload_n 0, 1) := by decide +kernel
theorem dX12_lays_154 : decode cX12_lays 154 = .ok (.getfield 39, 3) := by decide +kernel
theorem dX12_lays_157 : decode cX12_lays 157 = .ok (.iload_n 3, 1) := by decide +kernel
theorem dX12_lays_158 : decode cX12_lays 158 = .ok (.iaload, 1) := by decide +kernel
theorem dX12_lays_159 : decode cX12_lays 159 = .ok (.bipush (-2), 2) := by decide +kernel
theorem dX12_lays_161 : decode cX12_lays 161 = .ok (.if_icmp .ne 13, 3) := by decide +kernel
theorem dX12_lays_164 : decode cX12_lays 164 = .ok (.aload_n 0, 1) := by decide +kernel
theorem dX12_lays_165 : decode cX12_lays 165 = .ok (.iload_n 1, 1) := by decide +kernel
theorem dX12_lays_166 : decode cX12_lays 166 = .ok (.iload 5, 2) := by decide +kernel
theorem dX12_lays_168 : decode cX12_lays 168 = .ok (.invokevirtual 365, 3) := by decide +kernel
theorem dX12_lays_171 : decode cX12_lays 171 = .ok (.goto 13, 3) := by decide +kernel
theorem dX12_lays_174 : decode cX12_lays 174 = .ok (.aload_n 0, 1) := by decide +kernel
theorem dX12_lays_175 : decode cX12_lays 175 = .ok (.iload_n 1, 1) := by decide +kernel
theorem dX12_lays_176 : decode cX12_lays 176 = .ok (.iload_n 3, 1) := by decide +kernel
theorem dX12_lays_177 : decode cX12_lays 177 = .ok (.iload 4, 2) := by decide +kernel
theorem dX12_lays_179 : decode cX12_lays 179 = .ok (.iload 5, 2) := by decide +kernel
theorem dX12_lays_181 : decode cX12_lays 181 = .ok (.invokevirtual 368, 3) := by decide +kernel
theorem dX12_lays_184 : decode cX12_lays 184 = .ok (.iinc 4 1, 3) := by decide +kernel
theorem dX12_lays_187 : decode cX12_lays 187 = .ok (.goto (-89), 3) := by decide +kernel
theorem dX12_lays_190 : decode cX12_lays 190 = .ok (.iinc 3 1, 3) := by decide +kernel
theorem dX12_lays_193 : decode cX12_lays 193 = .ok (.goto (-113), 3) := by decide +kernel
theorem dX12_lays_196 : decode cX12_lays 196 = .ok (.aload_n 0, 1) := by decide +kernel
theorem dX12_lays_197 : decode cX12_lays 197 = .ok (.getfield 54, 3) := by decide +kernel
theorem dX12_lays_200 : decode cX12_lays 200 = .ok (.iconst 3, 1) := by decide +kernel
theorem dX12_lays_201 : decode cX12_lays 201 = .ok (.aload_n 0, 1) := by decide +kernel
theorem dX12_lays_202 : decode cX12_lays 202 = .ok (.getfield 334, 3) := by decide +kernel
theorem dX12_lays_205 : decode cX12_lays 205 = .ok (.imul, 1) := by decide +kernel
theorem dX12_lays_206 : decode cX12_lays 206 = .ok (.aload_n 0, 1) := by decide +kernel
theorem dX12_lays_207 : decode cX12_lays 207 = .ok (.getfield 341, 3) := by decide +kernel
theorem dX12_lays_210 : decode cX12_lays 210 = .ok (.iastore, 1) := by decide +kernel
theorem dX12_lays_211 : decode cX12_lays 211 = .ok (.aload_n 0, 1) := by decide +kernel
theorem dX12_lays_212 : decode cX12_lays 212 = .ok (.getfield 337, 3) := by decide +kernel
theorem dX12_lays_215 : decode cX12_lays 215 = .ok (.ifCond .ne 7, 3) := by decide +kernel
theorem dX12_lays_218 : decode cX12_lays 218 = .ok (.iconst 1, 1) := by decide +kernel
theorem dX12_lays_219 : decode cX12_lays 219 = .ok (.goto 4, 3) := by decide +kernel
theorem dX12_lays_222 : decode cX12_lays 222 = .ok (.iconst 0, 1) := by decide +kernel
theorem dX12_lays_223 : decode cX12_lays 223 = .ok (.ireturn, 1) := by decide +kernel
theorem dX12_edgesFrom_0 : decode cX12_edgesFrom 0 = .ok (.aload_n 0, 1) := by decide +kernel
theorem dX12_edgesFrom_1 : decode cX12_edgesFrom 1 = .ok (.getfield 54, 3) := by decide +kernel
theorem dX12_edgesFrom_4 : decode cX12_edgesFrom 4 = .ok (.iconst 3, 1) := by decide +kernel
theorem dX12_edgesFrom_5 : decode cX12_edgesFrom 5 = .ok (.iload_n 1, 1) := by decide +kernel
theorem dX12_edgesFrom_6 : decode cX12_edgesFrom 6 = .ok (.imul, 1) := by decide +kernel
theorem dX12_edgesFrom_7 : decode cX12_edgesFrom 7 = .ok (.iload_n 2, 1) := by decide +kernel
theorem dX12_edgesFrom_8 : decode cX12_edgesFrom 8 = .ok (.iadd, 1) := by decide +kernel
theorem dX12_edgesFrom_9 : decode cX12_edgesFrom 9 = .ok (.iconst 1, 1) := by decide +kernel
theorem dX12_edgesFrom_10 : decode cX12_edgesFrom 10 = .ok (.iadd, 1) := by decide +kernel
theorem dX12_edgesFrom_11 : decode cX12_edgesFrom 11 = .ok (.iaload, 1) := by decide +kernel
theorem dX12_edgesFrom_12 : decode cX12_edgesFrom 12 = .ok (.aload_n 0, 1) := by decide +kernel
theorem dX12_edgesFrom_13 : decode cX12_edgesFrom 13 = .ok (.getfield 54, 3) := by decide +kernel
theorem dX12_edgesFrom_16 : decode cX12_edgesFrom 16 = .ok (.iconst 3, 1) := by decide +kernel
theorem dX12_edgesFrom_17 : decode cX12_edgesFrom 17 = .ok (.iload_n 1, 1) := by decide +kernel
theorem dX12_edgesFrom_18 : decode cX12_edgesFrom 18 = .ok (.imul, 1) := by decide +kernel
theorem dX12_edgesFrom_19 : decode cX12_edgesFrom 19 = .ok (.iload_n 2, 1) := by decide +kernel
theorem dX12_edgesFrom_20 : decode cX12_edgesFrom 20 = .ok (.iadd, 1) := by decide +kernel
theorem dX12_edgesFrom_21 : decode cX12_edgesFrom 21 = .ok (.iaload, 1) := by decide +kernel
theorem dX12_edgesFrom_22 : decode cX12_edgesFrom 22 = .ok (.isub, 1) := by decide +kernel
theorem dX12_edgesFrom_23 : decode cX12_edgesFrom 23 = .ok (.ireturn, 1) := by decide +kernel
theorem dX12_isFinalNode_0 : decode cX12_isFinalNode 0 = .ok (.aload_n 0, 1) := by decide +kernel
theorem dX12_isFinalNode_1 : decode cX12_isFinalNode 1 = .ok (.getfield 39, 3) := by decide +kernel
theorem dX12_isFinalNode_4 : decode cX12_isFinalNode 4 = .ok (.iload_n 1, 1) := by decide +kernel
theorem dX12_isFinalNode_5 : decode cX12_isFinalNode 5 = .ok (.iaload, 1) := by decide +kernel
theorem dX12_isFinalNode_6 : decode cX12_isFinalNode 6 = .ok (.bipush (-2), 2) := by decide +kernel
theorem dX12_isFinalNode_8 : decode cX12_isFinalNode 8 = .ok (.if_icmp .ne 20, 3) := by decide +kernel
theorem dX12_isFinalNode_11 : decode cX12_isFinalNode 11 = .ok (.aload_n 0, 1) := by decide +kernel
theorem dX12_isFinalNode_12 : decode cX12_isFinalNode 12 = .ok (.getfield 36, 3) := by decide +kernel
theorem dX12_isFinalNode_15 : decode cX12_isFinalNode 15 = .ok (.iload_n 1, 1) := by decide +kernel
theorem dX12_isFinalNode_16 : decode cX12_isFinalNode 16 = .ok (.iaload, 1) := by decide +kernel
theorem dX12_isFinalNode_17 : decode cX12_isFinalNode 17 = .ok (.ifCond .ne 7, 3) := by decide +kernel
theorem dX12_isFinalNode_20 : decode cX12_isFinalNode 20 = .ok (.iconst 1, 1) := by decide +kernel
theorem dX12_isFinalNode_21 : decode cX12_isFinalNode 21 = .ok (.goto 21, 3) := by decide +kernel
theorem dX12_isFinalNode_24 : decode cX12_isFinalNode 24 = .ok (.iconst 0, 1) := by decide +kernel
theorem dX12_isFinalNode_25 : decode cX12_isFinalNode 25 = .ok (.goto 17, 3) := by decide +kernel
theorem dX12_isFinalNode_28 : decode cX12_isFinalNode 28 = .ok (.aload_n 0, 1) := by decide +kernel
theorem dX12_isFinalNode_29 : decode cX12_isFinalNode 29 = .ok (.getfield 45, 3) := by decide +kernel
theorem dX12_isFinalNode_32 : decode cX12_isFinalNode 32 = .ok (.iload_n 1, 1) := by decide +kernel
theorem dX12_isFinalNode_33 : decode cX12_isFinalNode 33 = .ok (.iaload, 1) := by decide +kernel
theorem dX12_isFinalNode_34 : decode cX12_isFinalNode 34 = .ok (.ifCond .ne 7, 3) := by decide +kernel
theorem dX12_isFinalNode_37 : decode cX12_isFinalNode 37 = .ok (.iconst 1, 1) := by decide +kernel
theorem dX12_isFinalNode_38 : decode cX12_isFinalNode 38 = .ok (.goto 4, 3) := by decide +kernel
theorem dX12_isFinalNode_41 : decode cX12_isFinalNode 41 = .ok (.iconst 0, 1) := by decide +kernel
theorem dX12_isFinalNode_42 : decode cX12_isFinalNode 42 = .ok (.ireturn, 1) := by decide +kernel
theorem dX12_complement_0 : decode cX12_complement 0 = .ok (.aload_n 0, 1) := by decide +kernel
theorem dX12_complement_1 : decode cX12_complement 1 = .ok (.iconst 0, 1) := by decide +kernel
theorem dX12_complement_2 : decode cX12_complement 2 = .ok (.putfield 131, 3) := by decide +kernel
theorem dX12_complement_5 : decode cX12_complement 5 = .ok (.aload_n 0, 1) := by decide +kernel
theorem dX12_complement_6 : decode cX12_complement 6 = .ok (.iload_n 1, 1) := by decide +kernel
theorem dX12_complement_7 : decode cX12_complement 7 = .ok (.invokevirtual 291, 3) := by decide +kernel
theorem dX12_complement_10 : decode cX12_complement 10 = .ok (.ifCond .ne 9, 3) := by decide +kernel
theorem dX12_complement_13 : decode cX12_complement 13 = .ok (.aload_n 0, 1) := by decide +kernel
theorem dX12_complement_14 : decode cX12_complement 14 = .ok (.iconst 1, 1) := by decide +kernel
theorem dX12_complement_15 : decode cX12_complement 15 = .ok (.invokevirtual 270, 3) := by decide +kernel
theorem dX12_complement_18 : decode cX12_complement 18 = .ok (.ireturn, 1) := by decide +kernel
theorem dX12_complement_19 : decode cX12_complement 19 = .ok (.aload_n 0, 1) := by decide +kernel
theorem dX12_complement_20 : decode cX12_complement 20 = .ok (.iload_n 1, 1) := by decide +kernel
theorem dX12_complement_21 : decode cX12_complement 21 = .ok (.invokevirtual 372, 3) := by decide +kernel
theorem dX12_complement_24 : decode cX12_complement 24 = .ok (.ifCond .eq 14, 3) := by decide +kernel
theorem dX12_complement_27 : decode cX12_complement 27 = .ok (.aload_n 0, 1) := by decide +kernel
theorem dX12_complement_28 : decode cX12_complement 28 = .ok (.aload_n 0, 1) := by decide +kernel
theorem dX12_complement_29 : decode cX12_complement 29 = .ok (.getfield 334, 3) := by decide +kernel
theorem dX12_complement_32 : decode cX12_complement 32 = .ok (.invokevirtual 288, 3) := by decide +kernel
theorem dX12_complement_35 : decode cX12_complement 35 = .ok (.goto 8, 3) := by decide +kernel
theorem dX12_complement_38 : decode cX12_complement 38 = .ok (.aload_n 0, 1) := by decide +kernel
theorem dX12_complement_39 : decode cX12_complement 39 = .ok (.iconst 3, 1) := by decide +kernel
theorem dX12_complement_40 : decode cX12_complement 40 = .ok (.invokevirtual 270, 3) := by decide +kernel
theorem dX12_complement_43 : decode cX12_complement 43 = .ok (.ireturn, 1) := by decide +kernel
theorem dX12_isBelow_0 : decode cX12_isBelow 0 = .ok (.iload_n 1, 1) := by decide +kernel
theorem dX12_isBelow_1 : decode cX12_isBelow 1 = .ok (.iload_n 2, 1) := by decide +kernel
theorem dX12_isBelow_2 : decode cX12_isBelow 2 = .ok (.if_icmp .eq 62, 3) := by decide +kernel
theorem dX12_isBelow_5 : decode cX12_isBelow 5 = .ok (.aload_n 0, 1) := by decide +kernel
theorem dX12_isBelow_6 : decode cX12_isBelow 6 = .ok (.getfield 39, 3) := by decide +kernel
theorem dX12_isBelow_9 : decode cX12_isBelow 9 = .ok (.iload_n 1, 1) := by decide +kernel
theorem dX12_isBelow_10 : decode cX12_isBelow 10 = .ok (.iaload, 1) := by decide +kernel
theorem dX12_isBelow_11 : decode cX12_isBelow 11 = .ok (.bipush (-2), 2) := by decide +kernel
theorem dX12_isBelow_13 : decode cX12_isBelow 13 = .ok (.if_icmp .eq 51, 3) := by decide +kernel
theorem dX12_isBelow_16 : decode cX12_isBelow 16 = .ok (.aload_n 0, 1) := by decide +kernel
theorem dX12_isBelow_17 : decode cX12_isBelow 17 = .ok (.getfield 36, 3) := by decide +kernel
theorem dX12_isBelow_20 : decode cX12_isBelow 20 = .ok (.iload_n 1, 1) := by decide +kernel
theorem dX12_isBelow_21 : decode cX12_isBelow 21 = .ok (.iaload, 1) := by decide +kernel
theorem dX12_isBelow_22 : decode cX12_isBelow 22 = .ok (.aload_n 0, 1) := by decide +kernel
theorem dX12_isBelow_23 : decode cX12_isBelow 23 = .ok (.getfield 36, 3) := by decide +kernel
theorem dX12_isBelow_26 : decode cX12_isBelow 26 = .ok (.iload_n 2, 1) := by decide +kernel
theorem dX12_isBelow_27 : decode cX12_isBelow 27 = .ok (.iaload, 1) := by decide +kernel
theorem dX12_isBelow_28 : decode cX12_isBelow 28 = .ok (.if_icmp .ne 36, 3) := by decide +kernel
theorem dX12_isBelow_31 : decode cX12_isBelow 31 = .ok (.aload_n 0, 1) := by decide +kernel
theorem dX12_isBelow_32 : decode cX12_isBelow 32 = .ok (.getfield 39, 3) := by decide +kernel
theorem dX12_isBelow_35 : decode cX12_isBelow 35 = .ok (.iload_n 1, 1) := by decide +kernel
theorem dX12_isBelow_36 : decode cX12_isBelow 36 = .ok (.iaload, 1) := by decide +kernel
theorem dX12_isBelow_37 : decode cX12_isBelow 37 = .ok (.aload_n 0, 1) := by decide +kernel
theorem dX12_isBelow_38 : decode cX12_isBelow 38 = .ok (.getfield 39, 3) := by decide +kernel
theorem dX12_isBelow_41 : decode cX12_isBelow 41 = .ok (.iload_n 2, 1) := by decide +kernel
theorem dX12_isBelow_42 : decode cX12_isBelow 42 = .ok (.iaload, 1) := by decide +kernel
theorem dX12_isBelow_43 : decode cX12_isBelow 43 = .ok (.if_icmp .ne 21, 3) := by decide +kernel
theorem dX12_isBelow_46 : decode cX12_isBelow 46 = .ok (.aload_n 0, 1) := by decide +kernel
theorem dX12_isBelow_47 : decode cX12_isBelow 47 = .ok (.getfield 45, 3) := by decide +kernel
theorem dX12_isBelow_50 : decode cX12_isBelow 50 = .ok (.iload_n 2, 1) := by decide +kernel
theorem dX12_isBelow_51 : decode cX12_isBelow 51 = .ok (.iaload, 1) := by decide +kernel
theorem dX12_isBelow_52 : decode cX12_isBelow 52 = .ok (.aload_n 0, 1) := by decide +kernel
theorem dX12_isBelow_53 : decode cX12_isBelow 53 = .ok (.getfield 45, 3) := by decide +kernel
theorem dX12_isBelow_56 : decode cX12_isBelow 56 = .ok (.iload_n 1, 1) := by decide +kernel
theorem dX12_isBelow_57 : decode cX12_isBelow 57 = .ok (.iaload, 1) := by decide +kernel
theorem dX12_isBelow_58 : decode cX12_isBelow 58 = .ok (.iconst (-1), 1) := by decide +kernel
theorem dX12_isBelow_59 : decode cX12_isBelow 59 = .ok (.ixor, 1) := by decide +kernel
theorem dX12_isBelow_60 : decode cX12_isBelow 60 = .ok (.iand, 1) := by decide +kernel
theorem dX12_isBelow_61 : decode cX12_isBelow 61 = .ok (.ifCond .eq 5, 3) := by decide +kernel
theorem dX12_isBelow_64 : decode cX12_isBelow 64 = .ok (.iconst 0, 1) := by decide +kernel
theorem dX12_isBelow_65 : decode cX12_isBelow 65 = .ok (.ireturn, 1) := by decide +kernel
theorem dX12_isBelow_66 : decode cX12_isBelow 66 = .ok (.iconst 0, 1) := by decide +kernel
theorem dX12_isBelow_67 : decode cX12_isBelow 67 = .ok (.istore_n 3, 1) := by decide +kernel
theorem dX12_isBelow_68 : decode cX12_isBelow 68 = .ok (.iload_n 3, 1) := by decide +kernel
theorem dX12_isBelow_69 : decode cX12_isBelow 69 = .ok (.iconst 4, 1) := by decide +kernel
theorem dX12_isBelow_70 : decode cX12_isBelow 70 = .ok (.if_icmp .ge 34, 3) := by decide +kernel
theorem dX12_isBelow_73 : decode cX12_isBelow 73 = .ok (.aload_n 0, 1) := by decide +kernel
theorem dX12_isBelow_74 : decode cX12_isBelow 74 = .ok (.getfield 42, 3) := by decide +kernel
theorem dX12_isBelow_77 : decode cX12_isBelow 77 = .ok (.iload_n 1, 1) := by decide +kernel
theorem dX12_isBelow_78 : decode cX12_isBelow 78 = .ok (.iaload, 1) := by decide +kernel
theorem dX12_isBelow_79 : decode cX12_isBelow 79 = .ok (.iload_n 3, 1) := by decide +kernel
theorem dX12_isBelow_80 : decode cX12_isBelow 80 = .ok (.invokestatic 353, 3) := by decide +kernel
theorem dX12_isBelow_83 : decode cX12_isBelow 83 = .ok (.aload_n 0, 1) := by decide +kernel
theorem dX12_isBelow_84 : decode cX12_isBelow 84 = .ok (.getfield 42, 3) := by decide +kernel
theorem dX12_isBelow_87 : decode cX12_isBelow 87 = .ok (.iload_n 2, 1) := by decide +kernel
theorem dX12_isBelow_88 : decode cX12_isBelow 88 = .ok (.iaload, 1) := by decide +kernel
theorem dX12_isBelow_89 : decode cX12_isBelow 89 = .ok (.iload_n 3, 1) := by decide +kernel
theorem dX12_isBelow_90 : decode cX12_isBelow 90 = .ok (.invokestatic 353, 3) := by decide +kernel
theorem dX12_isBelow_93 : decode cX12_isBelow 93 = .ok (.if_icmp .le 5, 3) := by decide +kernel
theorem dX12_isBelow_96 : decode cX12_isBelow 96 = .ok (.iconst 0, 1) := by decide +kernel
theorem dX12_isBelow_97 : decode cX12_isBelow 97 = .ok (.ireturn, 1) := by decide +kernel
theorem dX12_isBelow_98 : decode cX12_isBelow 98 = .ok (.iinc 3 1, 3) := by decide +kernel
theorem dX12_isBelow_101 : decode cX12_isBelow 101 = .ok (.goto (-33), 3) := by decide +kernel
theorem dX12_isBelow_104 : decode cX12_isBelow 104 = .ok (.iconst 1, 1) := by decide +kernel
theorem dX12_isBelow_105 : decode cX12_isBelow 105 = .ok (.ireturn, 1) := by decide +kernel
theorem dX12_below_0 : decode cX12_below 0 = .ok (.iconst 0, 1) := by decide +kernel
theorem dX12_below_1 : decode cX12_below 1 = .ok (.istore_n 2, 1) := by decide +kernel
theorem dX12_below_2 : decode cX12_below 2 = .ok (.iconst 0, 1) := by decide +kernel
theorem dX12_below_3 : decode cX12_below 3 = .ok (.istore_n 3, 1) := by decide +kernel
theorem dX12_below_4 : decode cX12_below 4 = .ok (.iload_n 3, 1) := by decide +kernel
theorem dX12_below_5 : decode cX12_below 5 = .ok (.aload_n 0, 1) := by decide +kernel
theorem dX12_below_6 : decode cX12_below 6 = .ok (.getfield 334, 3) := by decide +kernel
theorem dX12_below_9 : decode cX12_below 9 = .ok (.if_icmp .ge 26, 3) := by decide +kernel
theorem dX12_below_12 : decode cX12_below 12 = .ok (.iload_n 2, 1) := by decide +kernel
theorem dX12_below_13 : decode cX12_below 13 = .ok (.aload_n 0, 1) := by decide +kernel
theorem dX12_below_14 : decode cX12_below 14 = .ok (.iload_n 1, 1) := by decide +kernel
theorem dX12_below_15 : decode cX12_below 15 = .ok (.iload_n 3, 1) := by decide +kernel
theorem dX12_below_16 : decode cX12_below 16 = .ok (.invokevirtual 375, 3) := by decide +kernel
theorem dX12_below_19 : decode cX12_below 19 = .ok (.ifCond .eq 7, 3) := by decide +kernel
theorem dX12_below_22 : decode cX12_below 22 = .ok (.iconst 1, 1) := by decide +kernel
theorem dX12_below_23 : decode cX12_below 23 = .ok (.goto 4, 3) := by decide +kernel
theorem dX12_below_26 : decode cX12_below 26 = .ok (.iconst 0, 1) := by decide +kernel
theorem dX12_below_27 : decode cX12_below 27 = .ok (.iadd, 1) := by decide +kernel
theorem dX12_below_28 : decode cX12_below 28 = .ok (.istore_n 2, 1) := by decide +kernel
theorem dX12_below_29 : decode cX12_below 29 = .ok (.iinc 3 1, 3) := by decide +kernel
theorem dX12_below_32 : decode cX12_below 32 = .ok (.goto (-28), 3) := by decide +kernel
theorem dX12_below_35 : decode cX12_below 35 = .ok (.iload_n 2, 1) := by decide +kernel
theorem dX12_below_36 : decode cX12_below 36 = .ok (.ireturn, 1) := by decide +kernel
theorem dX12_whyNot_0 : decode cX12_whyNot 0 = .ok (.aload_n 0, 1) := by decide +kernel
theorem dX12_whyNot_1 : decode cX12_whyNot 1 = .ok (.iload_n 1, 1) := by decide +kernel
theorem dX12_whyNot_2 : decode cX12_whyNot 2 = .ok (.invokevirtual 372, 3) := by decide +kernel
theorem dX12_whyNot_5 : decode cX12_whyNot 5 = .ok (.ifCond .ne 7, 3) := by decide +kernel
theorem dX12_whyNot_8 : decode cX12_whyNot 8 = .ok (.iconst 3, 1) := by decide +kernel
theorem dX12_whyNot_9 : decode cX12_whyNot 9 = .ok (.goto 16, 3) := by decide +kernel
theorem dX12_whyNot_12 : decode cX12_whyNot 12 = .ok (.iload_n 2, 1) := by decide +kernel
theorem dX12_whyNot_13 : decode cX12_whyNot 13 = .ok (.aload_n 0, 1) := by decide +kernel
theorem dX12_whyNot_14 : decode cX12_whyNot 14 = .ok (.getfield 334, 3) := by decide +kernel
theorem dX12_whyNot_17 : decode cX12_whyNot 17 = .ok (.if_icmp .lt 7, 3) := by decide +kernel
theorem dX12_whyNot_20 : decode cX12_whyNot 20 = .ok (.iconst 1, 1) := by decide +kernel
theorem dX12_whyNot_21 : decode cX12_whyNot 21 = .ok (.goto 4, 3) := by decide +kernel
theorem dX12_whyNot_24 : decode cX12_whyNot 24 = .ok (.iconst 0, 1) := by decide +kernel
theorem dX12_whyNot_25 : decode cX12_whyNot 25 = .ok (.ireturn, 1) := by decide +kernel
theorem dX12_node_0 : decode cX12_node 0 = .ok (.aload_n 0, 1) := by decide +kernel
theorem dX12_node_1 : decode cX12_node 1 = .ok (.iconst 0, 1) := by decide +kernel
theorem dX12_node_2 : decode cX12_node 2 = .ok (.putfield 131, 3) := by decide +kernel
